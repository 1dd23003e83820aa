theorem dX12_readTimeout_0 : decode cX12_readTimeout 0 = .ok (.aload_n 0, 1) := by decide +kernel
theorem dX12_readTimeout_1 : decode cX12_readTimeout 1 = .ok (.invokevirtual 288, 3) := by decide +kernel
theorem dX12_readTimeout_4 : decode cX12_readTimeout 4 = .ok (.aload_n 0, 1) := by decide +kernel
theorem dX12_readTimeout_5 : decode cX12_readTimeout 5 = .ok (.iconst 0, 1) := by decide +kernel
theorem dX12_readTimeout_6 : decode cX12_readTimeout 6 = .ok (.sipush 999, 3) := by decide +kernel
theorem dX12_readTimeout_9 : decode cX12_readTimeout 9 = .ok (.invokevirtual 301, 3) := by decide +kernel
theorem dX12_readTimeout_12 : decode cX12_readTimeout 12 = .ok (.ifCond .ne 5, 3) := by decide +kernel
theorem dX12_readTimeout_15 : decode cX12_readTimeout 15 = .ok (.iconst 0, 1) := by decide +kernel
theorem dX12_readTimeout_16 : decode cX12_readTimeout 16 = .ok (.ireturn, 1) := by decide +kernel
theorem dX12_readTimeout_17 : decode cX12_readTimeout 17 = .ok (.aload_n 0, 1) := by decide +kernel
theorem dX12_readTimeout_18 : decode cX12_readTimeout 18 = .ok (.getfield 9, 3) := by decide +kernel
theorem dX12_readTimeout_21 : decode cX12_readTimeout 21 = .ok (.sipush 2723, 3) := by decide +kernel
theorem dX12_readTimeout_24 : decode cX12_readTimeout 24 = .ok (.aload_n 0, 1) := by decide +kernel
theorem dX12_readTimeout_25 : decode cX12_readTimeout 25 = .ok (.getfield 294, 3) := by decide +kernel
theorem dX12_readTimeout_28 : decode cX12_readTimeout 28 = .ok (.iastore, 1) := by decide +kernel
theorem dX12_readTimeout_29 : decode cX12_readTimeout 29 = .ok (.aload_n 0, 1) := by decide +kernel
theorem dX12_readTimeout_30 : decode cX12_readTimeout 30 = .ok (.invokevirtual 304, 3) := by decide +kernel
theorem dX12_readTimeout_33 : decode cX12_readTimeout 33 = .ok (.ireturn, 1) := by decide +kernel
set_option maxRecDepth 100000 in
set_option maxHeartbeats 4000000 in
theorem rX12_readTimeout (l : Launch) (D : va_G) (Y : Nat → ClassId) (h0 : Nat) (h1 : Nat) (h2 : Nat) (h3 : Nat) (h4 : Nat) (h5 : Nat) (h6 : Nat) (p2 : Int32) (k5 : Nat) (k6 : Nat) (p7 : Int32) (p8 : Int32) (p9 : Int32) (k10 : Nat) (p11 : Int32) (q12 : Int64) (k15 : Nat) (k16 : Nat) (f0 : Nat → Int32) (f1 : Nat → Int32) (f3 : Nat → Int32) (f4 : Nat → Int32) (f13 : Nat → Int32) (f14 : Nat → Int32) (ph : Nat → Int32) (HI : INV ph f0) (HL : k5 ≤ 1600) (HP : PLV f13)  (hx0 : k10 ≤ k6) (hx1 : k6 ≤ k5) (hx2 : (p9 = 0 ∨ k10 < k6)) (hx3 : k10 < k6) (sz : Nat) : Met l yX12_readTimeout (WSm yX12_readTimeout cX12_readTimeout 1 (some .boolean)) (mkR 5 0 0 108) (PreC D Y [.ref h0] [(h0, oC 13 [.ref h1, .ref h2, .int p2, .ref h3, .ref h4, .int (nI k5), .int (nI k6), .int p7, .int p8, .int p9, .int (nI k10), .int p11, .long q12, .ref h5, .ref h6, .int (nI k15), .int (nI k16)]), (h1, aI Y 3640 f0), (h2, aZ Y 2 f1), (h3, aZ Y 80 f3), (h4, aB Y 1600 f4), (h5, aI Y 200 f13), (h6, aI Y 800 f14)] sz) (QI D (fun (r : Int32) (u : WU) => (r = 0 ∨ (r = 1 ∧ k10 < (u.1 1))) ∧ INV ph (u.2.2.2.1 0) ∧ k10 ≤ (u.1 1) ∧ (u.1 1) ≤ (u.1 0) ∧ (u.1 0) ≤ k5 ∧ ((u.2.1 2) = 0 ∨ (u.1 1) < (u.1 0))) (fun (u : WU) => [(h0, oC 13 [.ref h1, .ref h2, .int p2, .ref h3, .ref h4, .int (nI k5), .int (nI (u.1 0)), .int (u.2.1 0), .int (u.2.1 1), .int (u.2.1 2), .int (nI (u.1 1)), .int (u.2.1 3), .long (u.2.2.1 0), .ref h5, .ref h6, .int (nI k15), .int (nI k16)]), (h1, aI Y 3640 (u.2.2.2.1 0)), (h2, aZ Y 2 f1), (h3, aZ Y 80 f3), (h4, aB Y 1600 f4), (h5, aI Y 200 f13), (h6, aI Y 800 f14)]) (va_A [(h0, oC 13 [.ref h1, .ref h2, .int p2, .ref h3, .ref h4, .int (nI k5), .int (nI k6), .int p7, .int p8, .int p9, .int (nI k10), .int p11, .long q12, .ref h5, .ref h6, .int (nI k15), .int (nI k16)]), (h1, aI Y 3640 f0), (h2, aZ Y 2 f1), (h3, aZ Y 80 f3), (h4, aB Y 1600 f4), (h5, aI Y 200 f13), (h6, aI Y 800 f14)] sz)) 0 0 (va_A [(h0, oC 13 [.ref h1, .ref h2, .int p2, .ref h3, .ref h4, .int (nI k5), .int (nI k6), .int p7, .int p8, .int p9, .int (nI k10), .int p11, .long q12, .ref h5, .ref h6, .int (nI k15), .int (nI k16)]), (h1, aI Y 3640 f0), (h2, aZ Y 2 f1), (h3, aZ Y 80 f3), (h4, aB Y 1600 f4), (h5, aI Y 200 f13), (h6, aI Y 800 f14)] sz) :=
  met_of  (by decide +kernel) (Nat.le_of_ble_eq_true rfl) (fun p e s m args below meth c B hin hsz => by
    have B : VB p s m args meth c D Y (va_A [(h0, oC 13 [.ref h1, .ref h2, .int p2, .ref h3, .ref h4, .int (nI k5), .int (nI k6), .int p7, .int p8, .int p9, .int (nI k10), .int p11, .long q12, .ref h5, .ref h6, .int (nI k15), .int (nI k16)]), (h1, aI Y 3640 f0), (h2, aZ Y 2 f1), (h3, aZ Y 80 f3), (h4, aB Y 1600 f4), (h5, aI Y 200 f13), (h6, aI Y 800 f14)] sz) cX12_readTimeout 1 RX12 (some .boolean) := B
    refine V_aload_n 0 B dX12_readTimeout_0 0 rfl ?_
    refine V_cvv 1 B (st := []) (As := []) (fun sz => rX12_advance l D Y h0 h1 h2 h3 h4 h5 h6 p2 k5 k6 p7 p8 p9 k10 p11 q12 k15 k16 f0 f1 f3 f4 f13 f14 ph HI (by omega) HP (by omega) sz) glV_RX12_288 ⟨rfl, rfl⟩ ⟨(Nat.le_of_ble_eq_true rfl), (Nat.le_of_ble_eq_true rfl)⟩ ⟨(Nat.le_of_ble_eq_true rfl), (Nat.le_of_ble_eq_true rfl)⟩ [0, 0, 0, 0, 0, 0, 0] rfl 13 0 rfl rfl rfl rfl (Nat.le_of_ble_eq_true rfl) rfl (fun _ _ => rfl) dX12_readTimeout_1 (fun u1 w2 => ?_)
    refine V_ws [(h0, oC 13 [.ref h1, .ref h2, .int p2, .ref h3, .ref h4, .int (nI k5), .int (nI (u1.1 0)), .int p7, .int p8, .int (u1.2.1 0), .int (nI (u1.1 1)), .int p11, .long (u1.2.2.1 0), .ref h5, .ref h6, .int (nI k15), .int (nI k16)]), (h1, aI Y 3640 f0), (h2, aZ Y 2 f1), (h3, aZ Y 80 f3), (h4, aB Y 1600 f4), (h5, aI Y 200 f13), (h6, aI Y 800 f14)] rfl ?_
    obtain ⟨x3, x4, x5, x6⟩ := w2
    refine V_aload_n 4 B dX12_readTimeout_4 0 rfl ?_
    refine V_iconst 5 B (v := 0) dX12_readTimeout_5 (by decide +kernel) ?_
    refine V_sipush 6 B (v := 999) dX12_readTimeout_6 (by decide +kernel) ?_
    refine V_cvi 9 B (st := []) (As := [.int 0, .int 999]) (fun sz => rX12_readNumber l D Y h0 h1 h2 h3 h4 h5 h6 p2 k5 (u1.1 0) p7 p8 (u1.2.1 0) (u1.1 1) p11 (u1.2.2.1 0) k15 k16 f0 f1 f3 f4 f13 f14 ph HI (by omega) HP 0 999 (by omega) (by omega) (by first | assumption | exact Or.inl rfl | exact Or.inr (by omega)) (by decide +kernel) sz) glV_RX12_301 ⟨rfl, rfl⟩ ⟨(Nat.le_of_ble_eq_true rfl), (Nat.le_of_ble_eq_true rfl)⟩ ⟨(Nat.le_of_ble_eq_true rfl), (Nat.le_of_ble_eq_true rfl)⟩ [0, 0, 0, 0, 0, 0, 0] rfl 13 0 rfl rfl rfl rfl (Nat.le_of_ble_eq_true rfl) rfl (fun _ _ _ => rfl) dX12_readTimeout_9 (fun j7 u8 w9 => ?_)
    refine V_ws [(h0, oC 13 [.ref h1, .ref h2, .int p2, .ref h3, .ref h4, .int (nI k5), .int (nI (u8.1 0)), .int (u8.2.1 0), .int (u8.2.1 1), .int (u8.2.1 2), .int (nI (u8.1 1)), .int (u8.2.1 3), .long (u8.2.2.1 0), .ref h5, .ref h6, .int (nI k15), .int (nI k16)]), (h1, aI Y 3640 f0), (h2, aZ Y 2 f1), (h3, aZ Y 80 f3), (h4, aB Y 1600 f4), (h5, aI Y 200 f13), (h6, aI Y 800 f14)] rfl ?_
    obtain ⟨x10, x11, x12, x13, x14⟩ := w9
    rcases x10 with rfl | ⟨rfl, x15, x16⟩
    ·
      refine V_if_ne_f 12 B 17 dX12_readTimeout_12 (by decide) (by decide +kernel) ?_
      refine V_iconst 15 B (v := 0) dX12_readTimeout_15 (by decide +kernel) ?_
      exact V_zret 16 B rfl dX12_readTimeout_16 (mkW [(u8.1 0), (u8.1 1)] [(u8.2.1 0), (u8.2.1 1), (u8.2.1 2), (u8.2.1 3)] [(u8.2.2.1 0)] [f0] [] []) ⟨(Or.inl rfl), HI, (show k10 ≤ (u8.1 1) by omega), (show (u8.1 1) ≤ (u8.1 0) by omega), (show (u8.1 0) ≤ k5 by omega), (show ((u8.2.1 2) = 0 ∨ (u8.1 1) < (u8.1 0)) by first | assumption | exact Or.inr (by omega))⟩ rfl
    ·
      have e17 : (0 : Int32).toInt = 0 := by decide +kernel
      have e18 : (999 : Int32).toInt = 999 := by decide +kernel
      generalize u8.2.1 3 = j19 at *
      refine V_if_ne_t 12 B 17 dX12_readTimeout_12 (by decide) (by decide +kernel) ?_
      refine V_aload_n 17 B dX12_readTimeout_17 0 rfl ?_
      refine V_get 18 B gf_RX12_9 0 rfl rfl dX12_readTimeout_18 ?_
      refine V_sipush 21 B (v := 2723) dX12_readTimeout_21 (by decide +kernel) ?_
      refine V_aload_n 24 B dX12_readTimeout_24 0 rfl ?_
      refine V_get 25 B gf_RX12_294 0 rfl rfl dX12_readTimeout_25 ?_
      have hv20 : INV ph (upd f0 2723 j19) := INV_free HI (show bd 2723 = FREE by decide +kernel)
      refine V_iast 28 B 1 rfl (vpin _ _ (by decide +kernel)) dX12_readTimeout_28 [(h0, oC 13 [.ref h1, .ref h2, .int p2, .ref h3, .ref h4, .int (nI k5), .int (nI (u8.1 0)), .int (u8.2.1 0), .int (u8.2.1 1), .int (u8.2.1 2), .int (nI (u8.1 1)), .int j19, .long (u8.2.2.1 0), .ref h5, .ref h6, .int (nI k15), .int (nI k16)]), (h1, aI Y 3640 (upd f0 2723 j19)), (h2, aZ Y 2 f1), (h3, aZ Y 80 f3), (h4, aB Y 1600 f4), (h5, aI Y 200 f13), (h6, aI Y 800 f14)] rfl ?_
      refine V_aload_n 29 B dX12_readTimeout_29 0 rfl ?_
      refine V_cvi 30 B (st := []) (As := []) (fun sz => rX12_readEnd l D Y h0 h1 h2 h3 h4 h5 h6 p2 k5 (u8.1 0) (u8.2.1 0) (u8.2.1 1) (u8.2.1 2) (u8.1 1) j19 (u8.2.2.1 0) k15 k16 (upd f0 2723 j19) f1 f3 f4 f13 f14 ph hv20 (by omega) HP (by omega) (by omega) (by first | assumption | exact Or.inl rfl | exact Or.inr (by omega)) sz) glV_RX12_304 ⟨rfl, rfl⟩ ⟨(Nat.le_of_ble_eq_true rfl), (Nat.le_of_ble_eq_true rfl)⟩ ⟨(Nat.le_of_ble_eq_true rfl), (Nat.le_of_ble_eq_true rfl)⟩ [0, 0, 0, 0, 0, 0, 0] rfl 13 0 rfl rfl rfl rfl (Nat.le_of_ble_eq_true rfl) rfl (fun _ _ _ => rfl) dX12_readTimeout_30 (fun j21 u22 w23 => ?_)
      refine V_ws [(h0, oC 13 [.ref h1, .ref h2, .int p2, .ref h3, .ref h4, .int (nI k5), .int (nI (u22.1 0)), .int (u22.2.1 0), .int (u22.2.1 1), .int (u22.2.1 2), .int (nI (u22.1 1)), .int j19, .long (u22.2.2.1 0), .ref h5, .ref h6, .int (nI k15), .int (nI k16)]), (h1, aI Y 3640 (upd f0 2723 j19)), (h2, aZ Y 2 f1), (h3, aZ Y 80 f3), (h4, aB Y 1600 f4), (h5, aI Y 200 f13), (h6, aI Y 800 f14)] rfl ?_
      obtain ⟨x24, x25, x26, x27, x28⟩ := w23
      rcases x24 with rfl | ⟨rfl, x29⟩
      ·
        exact V_zret 33 B rfl dX12_readTimeout_33 (mkW [(u22.1 0), (u22.1 1)] [(u22.2.1 0), (u22.2.1 1), (u22.2.1 2), j19] [(u22.2.2.1 0)] [(upd f0 2723 j19)] [] []) ⟨(Or.inl rfl), hv20, (show k10 ≤ (u22.1 1) by omega), (show (u22.1 1) ≤ (u22.1 0) by omega), (show (u22.1 0) ≤ k5 by omega), (show ((u22.2.1 2) = 0 ∨ (u22.1 1) < (u22.1 0)) by first | assumption | exact Or.inr (by omega))⟩ rfl
      ·
        exact V_zret 33 B rfl dX12_readTimeout_33 (mkW [(u22.1 0), (u22.1 1)] [(u22.2.1 0), (u22.2.1 1), (u22.2.1 2), j19] [(u22.2.2.1 0)] [(upd f0 2723 j19)] [] []) ⟨(Or.inr ⟨rfl, (show k10 < (u22.1 1) by omega)⟩), hv20, (show k10 ≤ (u22.1 1) by omega), (show (u22.1 1) ≤ (u22.1 0) by omega), (show (u22.1 0) ≤ k5 by omega), (show ((u22.2.1 2) = 0 ∨ (u22.1 1) < (u22.1 0)) by first | assumption | exact Or.inr (by omega))⟩ rfl)
theorem dX12_readStatement_0 : decode cX12_readStatement 0 = .ok (.aload_n 0, 1) := by decide +kernel
theorem dX12_readStatement_1 : decode cX12_readStatement 1 = .ok (.bipush 109, 2) := by decide +kernel
theorem dX12_readStatement_3 : decode cX12_readStatement 3 = .ok (.bipush 111, 2) := by decide +kernel
theorem dX12_readStatement_5 : decode cX12_readStatement 5 = .ok (.bipush 100, 2) := by decide +kernel
theorem dX12_readStatement_7 : decode cX12_readStatement 7 = .ok (.bipush 101, 2) := by decide +kernel
theorem dX12_readStatement_9 : decode cX12_readStatement 9 = .ok (.iconst 0, 1) := by decide +kernel
theorem dX12_readStatement_10 : decode cX12_readStatement 10 = .ok (.iconst 0, 1) := by decide +kernel
theorem dX12_readStatement_11 : decode cX12_readStatement 11 = .ok (.invokestatic 319, 3) := by decide +kernel
theorem glS_RX12_319 : GLS RX12 319 yX12_pack cX12_pack 8 (some .long) 6 := ⟨⟨(mT9 225 rfl rfl), (mT9 226 rfl rfl), (mT1 13 rfl rfl), (mT9 227 rfl rfl)⟩, by decide +kernel⟩
theorem dX12_readStatement_14 : decode cX12_readStatement 14 = .ok (.invokevirtual 323, 3) := by decide +kernel
theorem glV_RX12_323 : GLV RX12 323 yX12_isWord RX12 cX12_isWord 3 (some .boolean) 1 := ⟨⟨(mT9 228 rfl rfl), (mT9 230 rfl rfl), (mTs 76 rfl rfl), (mT1 13 rfl rfl), (mT9 231 rfl rfl)⟩, by decide +kernel⟩
theorem dX12_readStatement_17 : decode cX12_readStatement 17 = .ok (.ifCond .eq 8, 3) := by decide +kernel
theorem dX12_readStatement_25 : decode cX12_readStatement 25 = .ok (.aload_n 0, 1) := by decide +kernel
theorem dX12_readStatement_26 : decode cX12_readStatement 26 = .ok (.bipush 112, 2) := by decide +kernel
theorem dX12_readStatement_28 : decode cX12_readStatement 28 = .ok (.bipush 108, 2) := by decide +kernel
theorem dX12_readStatement_30 : decode cX12_readStatement 30 = .ok (.bipush 97, 2) := by decide +kernel
theorem dX12_readStatement_32 : decode cX12_readStatement 32 = .ok (.bipush 105, 2) := by decide +kernel
theorem dX12_readStatement_34 : decode cX12_readStatement 34 = .ok (.bipush 110, 2) := by decide +kernel
theorem dX12_readStatement_36 : decode cX12_readStatement 36 = .ok (.iconst 0, 1) := by decide +kernel
theorem dX12_readStatement_37 : decode cX12_readStatement 37 = .ok (.invokestatic 319, 3) := by decide +kernel
theorem dX12_readStatement_40 : decode cX12_readStatement 40 = .ok (.invokevirtual 323, 3) := by decide +kernel
theorem dX12_readStatement_43 : decode cX12_readStatement 43 = .ok (.ifCond .eq 9, 3) := by decide +kernel
theorem dX12_readStatement_52 : decode cX12_readStatement 52 = .ok (.aload_n 0, 1) := by decide +kernel
theorem dX12_readStatement_53 : decode cX12_readStatement 53 = .ok (.bipush 115, 2) := by decide +kernel
theorem dX12_readStatement_55 : decode cX12_readStatement 55 = .ok (.bipush 119, 2) := by decide +kernel
theorem dX12_readStatement_57 : decode cX12_readStatement 57 = .ok (.bipush 105, 2) := by decide +kernel
theorem dX12_readStatement_59 : decode cX12_readStatement 59 = .ok (.bipush 116, 2) := by decide +kernel
theorem dX12_readStatement_61 : decode cX12_readStatement 61 = .ok (.bipush 99, 2) := by decide +kernel
theorem dX12_readStatement_63 : decode cX12_readStatement 63 = .ok (.bipush 104, 2) := by decide +kernel
theorem dX12_readStatement_65 : decode cX12_readStatement 65 = .ok (.invokestatic 319, 3) := by decide +kernel
theorem dX12_readStatement_68 : decode cX12_readStatement 68 = .ok (.invokevirtual 323, 3) := by decide +kernel
theorem dX12_readStatement_71 : decode cX12_readStatement 71 = .ok (.ifCond .eq 9, 3) := by decide +kernel
theorem dX12_readStatement_80 : decode cX12_readStatement 80 = .ok (.aload_n 0, 1) := by decide +kernel
theorem dX12_readStatement_81 : decode cX12_readStatement 81 = .ok (.bipush 98, 2) := by decide +kernel
theorem dX12_readStatement_83 : decode cX12_readStatement 83 = .ok (.bipush 97, 2) := by decide +kernel
theorem dX12_readStatement_85 : decode cX12_readStatement 85 = .ok (.bipush 99, 2) := by decide +kernel
theorem dX12_readStatement_87 : decode cX12_readStatement 87 = .ok (.bipush 107, 2) := by decide +kernel
theorem dX12_readStatement_89 : decode cX12_readStatement 89 = .ok (.iconst 0, 1) := by decide +kernel
theorem dX12_readStatement_90 : decode cX12_readStatement 90 = .ok (.iconst 0, 1) := by decide +kernel
theorem dX12_readStatement_91 : decode cX12_readStatement 91 = .ok (.invokestatic 319, 3) := by decide +kernel
theorem dX12_readStatement_94 : decode cX12_readStatement 94 = .ok (.invokevirtual 323, 3) := by decide +kernel
theorem dX12_readStatement_97 : decode cX12_readStatement 97 = .ok (.ifCond .eq 9, 3) := by decide +kernel
theorem dX12_readStatement_106 : decode cX12_readStatement 106 = .ok (.aload_n 0, 1) := by decide +kernel
theorem dX12_readStatement_107 : decode cX12_readStatement 107 = .ok (.bipush 114, 2) := by decide +kernel
theorem dX12_readStatement_109 : decode cX12_readStatement 109 = .ok (.bipush 101, 2) := by decide +kernel
theorem dX12_readStatement_111 : decode cX12_readStatement 111 = .ok (.bipush 115, 2) := by decide +kernel
theorem dX12_readStatement_113 : decode cX12_readStatement 113 = .ok (.bipush 101, 2) := by decide +kernel
theorem dX12_readStatement_115 : decode cX12_readStatement 115 = .ok (.bipush 114, 2) := by decide +kernel
theorem dX12_readStatement_117 : decode cX12_readStatement 117 = .ok (.bipush 118, 2) := by decide +kernel
theorem dX12_readStatement_119 : decode cX12_readStatement 119 = .ok (.invokestatic 319, 3) := by decide +kernel
theorem dX12_readStatement_122 : decode cX12_readStatement 122 = .ok (.bipush 7, 2) := by decide +kernel
theorem dX12_readStatement_124 : decode cX12_readStatement 124 = .ok (.lshl, 1) := by decide +kernel
theorem dX12_readStatement_125 : decode cX12_readStatement 125 = .ok (.ldc2_w 333, 3) := by decide +kernel
theorem dX12_readStatement_128 : decode cX12_readStatement 128 = .ok (.lor, 1) := by decide +kernel
theorem dX12_readStatement_129 : decode cX12_readStatement 129 = .ok (.invokevirtual 323, 3) := by decide +kernel
theorem dX12_readStatement_132 : decode cX12_readStatement 132 = .ok (.ifCond .eq 8, 3) := by decide +kernel
theorem dX12_readStatement_140 : decode cX12_readStatement 140 = .ok (.aload_n 0, 1) := by decide +kernel
theorem dX12_readStatement_141 : decode cX12_readStatement 141 = .ok (.bipush 98, 2) := by decide +kernel
theorem dX12_readStatement_143 : decode cX12_readStatement 143 = .ok (.bipush 105, 2) := by decide +kernel
theorem dX12_readStatement_145 : decode cX12_readStatement 145 = .ok (.bipush 110, 2) := by decide +kernel
theorem dX12_readStatement_147 : decode cX12_readStatement 147 = .ok (.bipush 100, 2) := by decide +kernel
theorem dX12_readStatement_149 : decode cX12_readStatement 149 = .ok (.iconst 0, 1) := by decide +kernel
theorem dX12_readStatement_150 : decode cX12_readStatement 150 = .ok (.iconst 0, 1) := by decide +kernel
theorem dX12_readStatement_151 : decode cX12_readStatement 151 = .ok (.invokestatic 319, 3) := by decide +kernel
theorem dX12_readStatement_154 : decode cX12_readStatement 154 = .ok (.invokevirtual 323, 3) := by decide +kernel
theorem dX12_readStatement_157 : decode cX12_readStatement 157 = .ok (.ifCond .eq 8, 3) := by decide +kernel
theorem dX12_readStatement_165 : decode cX12_readStatement 165 = .ok (.aload_n 0, 1) := by decide +kernel
theorem dX12_readStatement_166 : decode cX12_readStatement 166 = .ok (.bipush 108, 2) := by decide +kernel
theorem dX12_readStatement_168 : decode cX12_readStatement 168 = .ok (.bipush 97, 2) := by decide +kernel
theorem dX12_readStatement_170 : decode cX12_readStatement 170 = .ok (.bipush 121, 2) := by decide +kernel
theorem dX12_readStatement_172 : decode cX12_readStatement 172 = .ok (.bipush 101, 2) := by decide +kernel
theorem dX12_readStatement_174 : decode cX12_readStatement 174 = .ok (.bipush 114, 2) := by decide +kernel
theorem dX12_readStatement_176 : decode cX12_readStatement 176 = .ok (.iconst 0, 1) := by decide +kernel
theorem dX12_readStatement_177 : decode cX12_readStatement 177 = .ok (.invokestatic 319, 3) := by decide +kernel
theorem dX12_readStatement_180 : decode cX12_readStatement 180 = .ok (.invokevirtual 323, 3) := by decide +kernel
theorem dX12_readStatement_183 : decode cX12_readStatement 183 = .ok (.ifCond .eq 8, 3) := by decide +kernel
theorem dX12_readStatement_191 : decode cX12_readStatement 191 = .ok (.aload_n 0, 1) := by decide +kernel
theorem dX12_readStatement_192 : decode cX12_readStatement 192 = .ok (.bipush 116, 2) := by decide +kernel
theorem dX12_readStatement_194 : decode cX12_readStatement 194 = .ok (.bipush 105, 2) := by decide +kernel
theorem dX12_readStatement_196 : decode cX12_readStatement 196 = .ok (.bipush 109, 2) := by decide +kernel
theorem dX12_readStatement_198 : decode cX12_readStatement 198 = .ok (.bipush 101, 2) := by decide +kernel
theorem dX12_readStatement_200 : decode cX12_readStatement 200 = .ok (.bipush 111, 2) := by decide +kernel
theorem dX12_readStatement_202 : decode cX12_readStatement 202 = .ok (.bipush 117, 2) := by decide +kernel
theorem dX12_readStatement_204 : decode cX12_readStatement 204 = .ok (.invokestatic 319, 3) := by decide +kernel
theorem dX12_readStatement_207 : decode cX12_readStatement 207 = .ok (.bipush 7, 2) := by decide +kernel
theorem dX12_readStatement_209 : decode cX12_readStatement 209 = .ok (.lshl, 1) := by decide +kernel
theorem dX12_readStatement_210 : decode cX12_readStatement 210 = .ok (.ldc2_w 344, 3) := by decide +kernel
theorem dX12_readStatement_213 : decode cX12_readStatement 213 = .ok (.lor, 1) := by decide +kernel
theorem dX12_readStatement_214 : decode cX12_readStatement 214 = .ok (.invokevirtual 323, 3) := by decide +kernel
theorem dX12_readStatement_217 : decode cX12_readStatement 217 = .ok (.ifCond .eq 10, 3) := by decide +kernel
theorem dX12_readStatement_227 : decode cX12_readStatement 227 = .ok (.aload_n 0, 1) := by decide +kernel
theorem dX12_readStatement_228 : decode cX12_readStatement 228 = .ok (.iconst 1, 1) := by decide +kernel
theorem dX12_readStatement_229 : decode cX12_readStatement 229 = .ok (.invokevirtual 291, 3) := by decide +kernel
theorem dX12_readStatement_232 : decode cX12_readStatement 232 = .ok (.ireturn, 1) := by decide +kernel
theorem dX12_readStatement_220 : decode cX12_readStatement 220 = .ok (.aload_n 0, 1) := by decide +kernel
theorem dX12_readStatement_221 : decode cX12_readStatement 221 = .ok (.invokevirtual 346, 3) := by decide +kernel
theorem glV_RX12_346 : GLV RX12 346 yX12_readTimeout RX12 cX12_readTimeout 1 (some .boolean) 0 := ⟨⟨(mT10 46 rfl rfl), (mT10 48 rfl rfl), (mTs 90 rfl rfl), (mT1 13 rfl rfl), (mT10 49 rfl rfl)⟩, by decide +kernel⟩
theorem dX12_readStatement_224 : decode cX12_readStatement 224 = .ok (.goto 8, 3) := by decide +kernel
theorem dX12_readStatement_186 : decode cX12_readStatement 186 = .ok (.aload_n 0, 1) := by decide +kernel
theorem dX12_readStatement_187 : decode cX12_readStatement 187 = .ok (.invokevirtual 341, 3) := by decide +kernel
theorem glV_RX12_341 : GLV RX12 341 yX12_readLayer RX12 cX12_readLayer 5 (some .boolean) 0 := ⟨⟨(mT10 37 rfl rfl), (mT10 39 rfl rfl), (mTs 88 rfl rfl), (mT1 13 rfl rfl), (mT10 40 rfl rfl)⟩, by decide +kernel⟩
theorem dX12_readStatement_190 : decode cX12_readStatement 190 = .ok (.ireturn, 1) := by decide +kernel
theorem dX12_readStatement_160 : decode cX12_readStatement 160 = .ok (.aload_n 0, 1) := by decide +kernel
theorem dX12_readStatement_161 : decode cX12_readStatement 161 = .ok (.invokevirtual 338, 3) := by decide +kernel
theorem glV_RX12_338 : GLV RX12 338 yX12_readBinding RX12 cX12_readBinding 5 (some .boolean) 0 := ⟨⟨(mT10 33 rfl rfl), (mT10 35 rfl rfl), (mTs 87 rfl rfl), (mT1 13 rfl rfl), (mT10 36 rfl rfl)⟩, by decide +kernel⟩
theorem dX12_readStatement_164 : decode cX12_readStatement 164 = .ok (.ireturn, 1) := by decide +kernel
theorem dX12_readStatement_135 : decode cX12_readStatement 135 = .ok (.aload_n 0, 1) := by decide +kernel
theorem dX12_readStatement_136 : decode cX12_readStatement 136 = .ok (.invokevirtual 335, 3) := by decide +kernel
theorem glV_RX12_335 : GLV RX12 335 yX12_readReserved RX12 cX12_readReserved 3 (some .boolean) 0 := ⟨⟨(mT10 13 rfl rfl), (mT10 15 rfl rfl), (mTs 82 rfl rfl), (mT1 13 rfl rfl), (mT10 16 rfl rfl)⟩, by decide +kernel⟩
theorem dX12_readStatement_139 : decode cX12_readStatement 139 = .ok (.ireturn, 1) := by decide +kernel
theorem dX12_readStatement_100 : decode cX12_readStatement 100 = .ok (.aload_n 0, 1) := by decide +kernel
theorem dX12_readStatement_101 : decode cX12_readStatement 101 = .ok (.iconst 2, 1) := by decide +kernel
theorem dX12_readStatement_102 : decode cX12_readStatement 102 = .ok (.invokevirtual 330, 3) := by decide +kernel
theorem glV_RX12_330 : GLV RX12 330 yX12_readCommand RX12 cX12_readCommand 3 (some .boolean) 1 := ⟨⟨(mT10 8 rfl rfl), (mT10 10 rfl rfl), (mTs 81 rfl rfl), (mT1 13 rfl rfl), (mT10 11 rfl rfl)⟩, by decide +kernel⟩
theorem dX12_readStatement_105 : decode cX12_readStatement 105 = .ok (.ireturn, 1) := by decide +kernel
theorem dX12_readStatement_74 : decode cX12_readStatement 74 = .ok (.aload_n 0, 1) := by decide +kernel
theorem dX12_readStatement_75 : decode cX12_readStatement 75 = .ok (.iconst 1, 1) := by decide +kernel
theorem dX12_readStatement_76 : decode cX12_readStatement 76 = .ok (.invokevirtual 330, 3) := by decide +kernel
theorem dX12_readStatement_79 : decode cX12_readStatement 79 = .ok (.ireturn, 1) := by decide +kernel
theorem dX12_readStatement_46 : decode cX12_readStatement 46 = .ok (.aload_n 0, 1) := by decide +kernel
theorem dX12_readStatement_47 : decode cX12_readStatement 47 = .ok (.iconst 0, 1) := by decide +kernel
theorem dX12_readStatement_48 : decode cX12_readStatement 48 = .ok (.invokevirtual 330, 3) := by decide +kernel
theorem dX12_readStatement_51 : decode cX12_readStatement 51 = .ok (.ireturn, 1) := by decide +kernel
theorem dX12_readStatement_20 : decode cX12_readStatement 20 = .ok (.aload_n 0, 1) := by decide +kernel
theorem dX12_readStatement_21 : decode cX12_readStatement 21 = .ok (.invokevirtual 327, 3) := by decide +kernel
theorem glV_RX12_327 : GLV RX12 327 yX12_readMode RX12 cX12_readMode 1 (some .boolean) 0 := ⟨⟨(mT9 232 rfl rfl), (mT9 234 rfl rfl), (mTs 77 rfl rfl), (mT1 13 rfl rfl), (mT9 235 rfl rfl)⟩, by decide +kernel⟩
theorem dX12_readStatement_24 : decode cX12_readStatement 24 = .ok (.ireturn, 1) := by decide +kernel
set_option maxRecDepth 100000 in
set_option maxHeartbeats 4000000 in
theorem rX12_readStatement (l : Launch) (D : va_G) (Y : Nat → ClassId) (h0 : Nat) (h1 : Nat) (h2 : Nat) (h3 : Nat) (h4 : Nat) (h5 : Nat) (h6 : Nat) (p2 : Int32) (k5 : Nat) (k6 : Nat) (p7 : Int32) (p8 : Int32) (p9 : Int32) (k10 : Nat) (p11 : Int32) (q12 : Int64) (k15 : Nat) (k16 : Nat) (f0 : Nat → Int32) (f1 : Nat → Int32) (f3 : Nat → Int32) (f4 : Nat → Int32) (f13 : Nat → Int32) (f14 : Nat → Int32) (ph : Nat → Int32) (HI : INV ph f0) (HL : k5 ≤ 1600) (HP : PLV f13)  (hx0 : k10 ≤ k6) (hx1 : k6 ≤ k5) (hx2 : (p9 = 0 ∨ k10 < k6)) (hx3 : k10 < k6) (sz : Nat) : Met l yX12_readStatement (WSm yX12_readStatement cX12_readStatement 1 (some .boolean)) (mkR 6 0 0 132) (PreC D Y [.ref h0] [(h0, oC 13 [.ref h1, .ref h2, .int p2, .ref h3, .ref h4, .int (nI k5), .int (nI k6), .int p7, .int p8, .int p9, .int (nI k10), .int p11, .long q12, .ref h5, .ref h6, .int (nI k15), .int (nI k16)]), (h1, aI Y 3640 f0), (h2, aZ Y 2 f1), (h3, aZ Y 80 f3), (h4, aB Y 1600 f4), (h5, aI Y 200 f13), (h6, aI Y 800 f14)] sz) (QI D (fun (r : Int32) (u : WU) => (r = 0 ∨ (r = 1 ∧ k10 < (u.1 1))) ∧ INV ph (u.2.2.2.1 0) ∧ k10 ≤ (u.1 1) ∧ (u.1 1) ≤ (u.1 0) ∧ (u.1 0) ≤ k5 ∧ ((u.2.1 2) = 0 ∨ (u.1 1) < (u.1 0))) (fun (u : WU) => [(h0, oC 13 [.ref h1, .ref h2, .int p2, .ref h3, .ref h4, .int (nI k5), .int (nI (u.1 0)), .int (u.2.1 0), .int (u.2.1 1), .int (u.2.1 2), .int (nI (u.1 1)), .int (u.2.1 3), .long (u.2.2.1 0), .ref h5, .ref h6, .int (nI k15), .int (nI k16)]), (h1, aI Y 3640 (u.2.2.2.1 0)), (h2, aZ Y 2 f1), (h3, aZ Y 80 f3), (h4, aB Y 1600 f4), (h5, aI Y 200 f13), (h6, aI Y 800 f14)]) (va_A [(h0, oC 13 [.ref h1, .ref h2, .int p2, .ref h3, .ref h4, .int (nI k5), .int (nI k6), .int p7, .int p8, .int p9, .int (nI k10), .int p11, .long q12, .ref h5, .ref h6, .int (nI k15), .int (nI k16)]), (h1, aI Y 3640 f0), (h2, aZ Y 2 f1), (h3, aZ Y 80 f3), (h4, aB Y 1600 f4), (h5, aI Y 200 f13), (h6, aI Y 800 f14)] sz)) 0 0 (va_A [(h0, oC 13 [.ref h1, .ref h2, .int p2, .ref h3, .ref h4, .int (nI k5), .int (nI k6), .int p7, .int p8, .int p9, .int (nI k10), .int p11, .long q12, .ref h5, .ref h6, .int (nI k15), .int (nI k16)]), (h1, aI Y 3640 f0), (h2, aZ Y 2 f1), (h3, aZ Y 80 f3), (h4, aB Y 1600 f4), (h5, aI Y 200 f13), (h6, aI Y 800 f14)] sz) :=
  met_of  (by decide +kernel) (Nat.le_of_ble_eq_true rfl) (fun p e s m args below meth c B hin hsz => by
    have B : VB p s m args meth c D Y (va_A [(h0, oC 13 [.ref h1, .ref h2, .int p2, .ref h3, .ref h4, .int (nI k5), .int (nI k6), .int p7, .int p8, .int p9, .int (nI k10), .int p11, .long q12, .ref h5, .ref h6, .int (nI k15), .int (nI k16)]), (h1, aI Y 3640 f0), (h2, aZ Y 2 f1), (h3, aZ Y 80 f3), (h4, aB Y 1600 f4), (h5, aI Y 200 f13), (h6, aI Y 800 f14)] sz) cX12_readStatement 1 RX12 (some .boolean) := B
    refine V_aload_n 0 B dX12_readStatement_0 0 rfl ?_
    refine V_bipush 1 B (v := 109) dX12_readStatement_1 (by decide +kernel) ?_
    refine V_bipush 3 B (v := 111) dX12_readStatement_3 (by decide +kernel) ?_
    refine V_bipush 5 B (v := 100) dX12_readStatement_5 (by decide +kernel) ?_
    refine V_bipush 7 B (v := 101) dX12_readStatement_7 (by decide +kernel) ?_
    refine V_iconst 9 B (v := 0) dX12_readStatement_9 (by decide +kernel) ?_
    refine V_iconst 10 B (v := 0) dX12_readStatement_10 (by decide +kernel) ?_
    refine V_csl 11 B (st := [.ref h0]) (As := [.int 109, .int 111, .int 100, .int 101, .int 0, .int 0]) (fun sz => rX12_pack l D Y 109 111 100 101 0 0 sz) glS_RX12_319 ⟨rfl, rfl⟩ ⟨(Nat.le_of_ble_eq_true rfl), (Nat.le_of_ble_eq_true rfl)⟩ ⟨(Nat.le_of_ble_eq_true rfl), (Nat.le_of_ble_eq_true rfl)⟩ [] rfl rfl (Nat.le_of_ble_eq_true rfl) rfl (fun _ _ _ => rfl) dX12_readStatement_11 (fun o0 u1 w2 => ?_)
    refine V_ws [(h0, oC 13 [.ref h1, .ref h2, .int p2, .ref h3, .ref h4, .int (nI k5), .int (nI k6), .int p7, .int p8, .int p9, .int (nI k10), .int p11, .long q12, .ref h5, .ref h6, .int (nI k15), .int (nI k16)]), (h1, aI Y 3640 f0), (h2, aZ Y 2 f1), (h3, aZ Y 80 f3), (h4, aB Y 1600 f4), (h5, aI Y 200 f13), (h6, aI Y 800 f14)] rfl ?_
    refine V_cvi 14 B (st := []) (As := [.long o0]) (fun sz => rX12_isWord l D Y h0 h1 h2 h3 h4 h5 h6 p2 k5 k6 p7 p8 p9 k10 p11 q12 k15 k16 f0 f1 f3 f4 f13 f14 ph HI (by omega) HP o0 sz) glV_RX12_323 ⟨rfl, rfl⟩ ⟨(Nat.le_of_ble_eq_true rfl), (Nat.le_of_ble_eq_true rfl)⟩ ⟨(Nat.le_of_ble_eq_true rfl), (Nat.le_of_ble_eq_true rfl)⟩ [0, 0, 0, 0, 0, 0, 0] rfl 13 0 rfl rfl rfl rfl (Nat.le_of_ble_eq_true rfl) rfl (fun _ _ _ => rfl) dX12_readStatement_14 (fun j3 u4 w5 => ?_)
    refine V_ws [(h0, oC 13 [.ref h1, .ref h2, .int p2, .ref h3, .ref h4, .int (nI k5), .int (nI k6), .int p7, .int p8, .int p9, .int (nI k10), .int p11, .long q12, .ref h5, .ref h6, .int (nI k15), .int (nI k16)]), (h1, aI Y 3640 f0), (h2, aZ Y 2 f1), (h3, aZ Y 80 f3), (h4, aB Y 1600 f4), (h5, aI Y 200 f13), (h6, aI Y 800 f14)] rfl ?_
    have x6 := w5
    clear w5
    rcases x6 with rfl | rfl
    ·
      refine V_if_eq_t 17 B 25 dX12_readStatement_17 (by decide) (by decide +kernel) ?_
      refine V_aload_n 25 B dX12_readStatement_25 0 rfl ?_
      refine V_bipush 26 B (v := 112) dX12_readStatement_26 (by decide +kernel) ?_
      refine V_bipush 28 B (v := 108) dX12_readStatement_28 (by decide +kernel) ?_
      refine V_bipush 30 B (v := 97) dX12_readStatement_30 (by decide +kernel) ?_
      refine V_bipush 32 B (v := 105) dX12_readStatement_32 (by decide +kernel) ?_
      refine V_bipush 34 B (v := 110) dX12_readStatement_34 (by decide +kernel) ?_
      refine V_iconst 36 B (v := 0) dX12_readStatement_36 (by decide +kernel) ?_
      refine V_csl 37 B (st := [.ref h0]) (As := [.int 112, .int 108, .int 97, .int 105, .int 110, .int 0]) (fun sz => rX12_pack l D Y 112 108 97 105 110 0 sz) glS_RX12_319 ⟨rfl, rfl⟩ ⟨(Nat.le_of_ble_eq_true rfl), (Nat.le_of_ble_eq_true rfl)⟩ ⟨(Nat.le_of_ble_eq_true rfl), (Nat.le_of_ble_eq_true rfl)⟩ [] rfl rfl (Nat.le_of_ble_eq_true rfl) rfl (fun _ _ _ => rfl) dX12_readStatement_37 (fun o7 u8 w9 => ?_)
      refine V_ws [(h0, oC 13 [.ref h1, .ref h2, .int p2, .ref h3, .ref h4, .int (nI k5), .int (nI k6), .int p7, .int p8, .int p9, .int (nI k10), .int p11, .long q12, .ref h5, .ref h6, .int (nI k15), .int (nI k16)]), (h1, aI Y 3640 f0), (h2, aZ Y 2 f1), (h3, aZ Y 80 f3), (h4, aB Y 1600 f4), (h5, aI Y 200 f13), (h6, aI Y 800 f14)] rfl ?_
      refine V_cvi 40 B (st := []) (As := [.long o7]) (fun sz => rX12_isWord l D Y h0 h1 h2 h3 h4 h5 h6 p2 k5 k6 p7 p8 p9 k10 p11 q12 k15 k16 f0 f1 f3 f4 f13 f14 ph HI (by omega) HP o7 sz) glV_RX12_323 ⟨rfl, rfl⟩ ⟨(Nat.le_of_ble_eq_true rfl), (Nat.le_of_ble_eq_true rfl)⟩ ⟨(Nat.le_of_ble_eq_true rfl), (Nat.le_of_ble_eq_true rfl)⟩ [0, 0, 0, 0, 0, 0, 0] rfl 13 0 rfl rfl rfl rfl (Nat.le_of_ble_eq_true rfl) rfl (fun _ _ _ => rfl) dX12_readStatement_40 (fun j10 u11 w12 => ?_)
      refine V_ws [(h0, oC 13 [.ref h1, .ref h2, .int p2, .ref h3, .ref h4, .int (nI k5), .int (nI k6), .int p7, .int p8, .int p9, .int (nI k10), .int p11, .long q12, .ref h5, .ref h6, .int (nI k15), .int (nI k16)]), (h1, aI Y 3640 f0), (h2, aZ Y 2 f1), (h3, aZ Y 80 f3), (h4, aB Y 1600 f4), (h5, aI Y 200 f13), (h6, aI Y 800 f14)] rfl ?_
      have x13 := w12
      clear w12
      rcases x13 with rfl | rfl
      ·
        refine V_if_eq_t 43 B 52 dX12_readStatement_43 (by decide) (by decide +kernel) ?_
        refine V_aload_n 52 B dX12_readStatement_52 0 rfl ?_
        refine V_bipush 53 B (v := 115) dX12_readStatement_53 (by decide +kernel) ?_
        refine V_bipush 55 B (v := 119) dX12_readStatement_55 (by decide +kernel) ?_
        refine V_bipush 57 B (v := 105) dX12_readStatement_57 (by decide +kernel) ?_
        refine V_bipush 59 B (v := 116) dX12_readStatement_59 (by decide +kernel) ?_
        refine V_bipush 61 B (v := 99) dX12_readStatement_61 (by decide +kernel) ?_
        refine V_bipush 63 B (v := 104) dX12_readStatement_63 (by decide +kernel) ?_
        refine V_csl 65 B (st := [.ref h0]) (As := [.int 115, .int 119, .int 105, .int 116, .int 99, .int 104]) (fun sz => rX12_pack l D Y 115 119 105 116 99 104 sz) glS_RX12_319 ⟨rfl, rfl⟩ ⟨(Nat.le_of_ble_eq_true rfl), (Nat.le_of_ble_eq_true rfl)⟩ ⟨(Nat.le_of_ble_eq_true rfl), (Nat.le_of_ble_eq_true rfl)⟩ [] rfl rfl (Nat.le_of_ble_eq_true rfl) rfl (fun _ _ _ => rfl) dX12_readStatement_65 (fun o14 u15 w16 => ?_)
        refine V_ws [(h0, oC 13 [.ref h1, .ref h2, .int p2, .ref h3, .ref h4, .int (nI k5), .int (nI k6), .int p7, .int p8, .int p9, .int (nI k10), .int p11, .long q12, .ref h5, .ref h6, .int (nI k15), .int (nI k16)]), (h1, aI Y 3640 f0), (h2, aZ Y 2 f1), (h3, aZ Y 80 f3), (h4, aB Y 1600 f4), (h5, aI Y 200 f13), (h6, aI Y 800 f14)] rfl ?_
        refine V_cvi 68 B (st := []) (As := [.long o14]) (fun sz => rX12_isWord l D Y h0 h1 h2 h3 h4 h5 h6 p2 k5 k6 p7 p8 p9 k10 p11 q12 k15 k16 f0 f1 f3 f4 f13 f14 ph HI (by omega) HP o14 sz) glV_RX12_323 ⟨rfl, rfl⟩ ⟨(Nat.le_of_ble_eq_true rfl), (Nat.le_of_ble_eq_true rfl)⟩ ⟨(Nat.le_of_ble_eq_true rfl), (Nat.le_of_ble_eq_true rfl)⟩ [0, 0, 0, 0, 0, 0, 0] rfl 13 0 rfl rfl rfl rfl (Nat.le_of_ble_eq_true rfl) rfl (fun _ _ _ => rfl) dX12_readStatement_68 (fun j17 u18 w19 => ?_)
        refine V_ws [(h0, oC 13 [.ref h1, .ref h2, .int p2, .ref h3, .ref h4, .int (nI k5), .int (nI k6), .int p7, .int p8, .int p9, .int (nI k10), .int p11, .long q12, .ref h5, .ref h6, .int (nI k15), .int (nI k16)]), (h1, aI Y 3640 f0), (h2, aZ Y 2 f1), (h3, aZ Y 80 f3), (h4, aB Y 1600 f4), (h5, aI Y 200 f13), (h6, aI Y 800 f14)] rfl ?_
        have x20 := w19
        clear w19
        rcases x20 with rfl | rfl
        ·
          refine V_if_eq_t 71 B 80 dX12_readStatement_71 (by decide) (by decide +kernel) ?_
          refine V_aload_n 80 B dX12_readStatement_80 0 rfl ?_
          refine V_bipush 81 B (v := 98) dX12_readStatement_81 (by decide +kernel) ?_
          refine V_bipush 83 B (v := 97) dX12_readStatement_83 (by decide +kernel) ?_
          refine V_bipush 85 B (v := 99) dX12_readStatement_85 (by decide +kernel) ?_
          refine V_bipush 87 B (v := 107) dX12_readStatement_87 (by decide +kernel) ?_
          refine V_iconst 89 B (v := 0) dX12_readStatement_89 (by decide +kernel) ?_
          refine V_iconst 90 B (v := 0) dX12_readStatement_90 (by decide +kernel) ?_
          refine V_csl 91 B (st := [.ref h0]) (As := [.int 98, .int 97, .int 99, .int 107, .int 0, .int 0]) (fun sz => rX12_pack l D Y 98 97 99 107 0 0 sz) glS_RX12_319 ⟨rfl, rfl⟩ ⟨(Nat.le_of_ble_eq_true rfl), (Nat.le_of_ble_eq_true rfl)⟩ ⟨(Nat.le_of_ble_eq_true rfl), (Nat.le_of_ble_eq_true rfl)⟩ [] rfl rfl (Nat.le_of_ble_eq_true rfl) rfl (fun _ _ _ => rfl) dX12_readStatement_91 (fun o21 u22 w23 => ?_)
          refine V_ws [(h0, oC 13 [.ref h1, .ref h2, .int p2, .ref h3, .ref h4, .int (nI k5), .int (nI k6), .int p7, .int p8, .int p9, .int (nI k10), .int p11, .long q12, .ref h5, .ref h6, .int (nI k15), .int (nI k16)]), (h1, aI Y 3640 f0), (h2, aZ Y 2 f1), (h3, aZ Y 80 f3), (h4, aB Y 1600 f4), (h5, aI Y 200 f13), (h6, aI Y 800 f14)] rfl ?_
          refine V_cvi 94 B (st := []) (As := [.long o21]) (fun sz => rX12_isWord l D Y h0 h1 h2 h3 h4 h5 h6 p2 k5 k6 p7 p8 p9 k10 p11 q12 k15 k16 f0 f1 f3 f4 f13 f14 ph HI (by omega) HP o21 sz) glV_RX12_323 ⟨rfl, rfl⟩ ⟨(Nat.le_of_ble_eq_true rfl), (Nat.le_of_ble_eq_true rfl)⟩ ⟨(Nat.le_of_ble_eq_true rfl), (Nat.le_of_ble_eq_true rfl)⟩ [0, 0, 0, 0, 0, 0, 0] rfl 13 0 rfl rfl rfl rfl (Nat.le_of_ble_eq_true rfl) rfl (fun _ _ _ => rfl) dX12_readStatement_94 (fun j24 u25 w26 => ?_)
          refine V_ws [(h0, oC 13 [.ref h1, .ref h2, .int p2, .ref h3, .ref h4, .int (nI k5), .int (nI k6), .int p7, .int p8, .int p9, .int (nI k10), .int p11, .long q12, .ref h5, .ref h6, .int (nI k15), .int (nI k16)]), (h1, aI Y 3640 f0), (h2, aZ Y 2 f1), (h3, aZ Y 80 f3), (h4, aB Y 1600 f4), (h5, aI Y 200 f13), (h6, aI Y 800 f14)] rfl ?_
          have x27 := w26
          clear w26
          rcases x27 with rfl | rfl
          ·
            refine V_if_eq_t 97 B 106 dX12_readStatement_97 (by decide) (by decide +kernel) ?_
            refine V_aload_n 106 B dX12_readStatement_106 0 rfl ?_
            refine V_bipush 107 B (v := 114) dX12_readStatement_107 (by decide +kernel) ?_
            refine V_bipush 109 B (v := 101) dX12_readStatement_109 (by decide +kernel) ?_
            refine V_bipush 111 B (v := 115) dX12_readStatement_111 (by decide +kernel) ?_
            refine V_bipush 113 B (v := 101) dX12_readStatement_113 (by decide +kernel) ?_
            refine V_bipush 115 B (v := 114) dX12_readStatement_115 (by decide +kernel) ?_
            refine V_bipush 117 B (v := 118) dX12_readStatement_117 (by decide +kernel) ?_
            refine V_csl 119 B (st := [.ref h0]) (As := [.int 114, .int 101, .int 115, .int 101, .int 114, .int 118]) (fun sz => rX12_pack l D Y 114 101 115 101 114 118 sz) glS_RX12_319 ⟨rfl, rfl⟩ ⟨(Nat.le_of_ble_eq_true rfl), (Nat.le_of_ble_eq_true rfl)⟩ ⟨(Nat.le_of_ble_eq_true rfl), (Nat.le_of_ble_eq_true rfl)⟩ [] rfl rfl (Nat.le_of_ble_eq_true rfl) rfl (fun _ _ _ => rfl) dX12_readStatement_119 (fun o28 u29 w30 => ?_)
            refine V_ws [(h0, oC 13 [.ref h1, .ref h2, .int p2, .ref h3, .ref h4, .int (nI k5), .int (nI k6), .int p7, .int p8, .int p9, .int (nI k10), .int p11, .long q12, .ref h5, .ref h6, .int (nI k15), .int (nI k16)]), (h1, aI Y 3640 f0), (h2, aZ Y 2 f1), (h3, aZ Y 80 f3), (h4, aB Y 1600 f4), (h5, aI Y 200 f13), (h6, aI Y 800 f14)] rfl ?_
            refine V_bipush 122 B (v := 7) dX12_readStatement_122 (by decide +kernel) ?_
            refine V_lshl 124 B dX12_readStatement_124 rfl ?_
            refine V_nml (fun o31 _ => ?_)
            refine V_ldc2 125 B (v := 101) dX12_readStatement_125 (mT10 12 rfl rfl) ?_
            refine V_lor 128 B dX12_readStatement_128 rfl ?_
            refine V_nml (fun o32 e33 => ?_)
            refine V_cvi 129 B (st := []) (As := [.long o32]) (fun sz => rX12_isWord l D Y h0 h1 h2 h3 h4 h5 h6 p2 k5 k6 p7 p8 p9 k10 p11 q12 k15 k16 f0 f1 f3 f4 f13 f14 ph HI (by omega) HP o32 sz) glV_RX12_323 ⟨rfl, rfl⟩ ⟨(Nat.le_of_ble_eq_true rfl), (Nat.le_of_ble_eq_true rfl)⟩ ⟨(Nat.le_of_ble_eq_true rfl), (Nat.le_of_ble_eq_true rfl)⟩ [0, 0, 0, 0, 0, 0, 0] rfl 13 0 rfl rfl rfl rfl (Nat.le_of_ble_eq_true rfl) rfl (fun _ _ _ => rfl) dX12_readStatement_129 (fun j34 u35 w36 => ?_)
            refine V_ws [(h0, oC 13 [.ref h1, .ref h2, .int p2, .ref h3, .ref h4, .int (nI k5), .int (nI k6), .int p7, .int p8, .int p9, .int (nI k10), .int p11, .long q12, .ref h5, .ref h6, .int (nI k15), .int (nI k16)]), (h1, aI Y 3640 f0), (h2, aZ Y 2 f1), (h3, aZ Y 80 f3), (h4, aB Y 1600 f4), (h5, aI Y 200 f13), (h6, aI Y 800 f14)] rfl ?_
            have x37 := w36
            clear w36
            rcases x37 with rfl | rfl
            ·
              refine V_if_eq_t 132 B 140 dX12_readStatement_132 (by decide) (by decide +kernel) ?_
              refine V_aload_n 140 B dX12_readStatement_140 0 rfl ?_
              refine V_bipush 141 B (v := 98) dX12_readStatement_141 (by decide +kernel) ?_
              refine V_bipush 143 B (v := 105) dX12_readStatement_143 (by decide +kernel) ?_
              refine V_bipush 145 B (v := 110) dX12_readStatement_145 (by decide +kernel) ?_
              refine V_bipush 147 B (v := 100) dX12_readStatement_147 (by decide +kernel) ?_
              refine V_iconst 149 B (v := 0) dX12_readStatement_149 (by decide +kernel) ?_
              refine V_iconst 150 B (v := 0) dX12_readStatement_150 (by decide +kernel) ?_
              refine V_csl 151 B (st := [.ref h0]) (As := [.int 98, .int 105, .int 110, .int 100, .int 0, .int 0]) (fun sz => rX12_pack l D Y 98 105 110 100 0 0 sz) glS_RX12_319 ⟨rfl, rfl⟩ ⟨(Nat.le_of_ble_eq_true rfl), (Nat.le_of_ble_eq_true rfl)⟩ ⟨(Nat.le_of_ble_eq_true rfl), (Nat.le_of_ble_eq_true rfl)⟩ [] rfl rfl (Nat.le_of_ble_eq_true rfl) rfl (fun _ _ _ => rfl) dX12_readStatement_151 (fun o38 u39 w40 => ?_)
              refine V_ws [(h0, oC 13 [.ref h1, .ref h2, .int p2, .ref h3, .ref h4, .int (nI k5), .int (nI k6), .int p7, .int p8, .int p9, .int (nI k10), .int p11, .long q12, .ref h5, .ref h6, .int (nI k15), .int (nI k16)]), (h1, aI Y 3640 f0), (h2, aZ Y 2 f1), (h3, aZ Y 80 f3), (h4, aB Y 1600 f4), (h5, aI Y 200 f13), (h6, aI Y 800 f14)] rfl ?_
              refine V_cvi 154 B (st := []) (As := [.long o38]) (fun sz => rX12_isWord l D Y h0 h1 h2 h3 h4 h5 h6 p2 k5 k6 p7 p8 p9 k10 p11 q12 k15 k16 f0 f1 f3 f4 f13 f14 ph HI (by omega) HP o38 sz) glV_RX12_323 ⟨rfl, rfl⟩ ⟨(Nat.le_of_ble_eq_true rfl), (Nat.le_of_ble_eq_true rfl)⟩ ⟨(Nat.le_of_ble_eq_true rfl), (Nat.le_of_ble_eq_true rfl)⟩ [0, 0, 0, 0, 0, 0, 0] rfl 13 0 rfl rfl rfl rfl (Nat.le_of_ble_eq_true rfl) rfl (fun _ _ _ => rfl) dX12_readStatement_154 (fun j41 u42 w43 => ?_)
              refine V_ws [(h0, oC 13 [.ref h1, .ref h2, .int p2, .ref h3, .ref h4, .int (nI k5), .int (nI k6), .int p7, .int p8, .int p9, .int (nI k10), .int p11, .long q12, .ref h5, .ref h6, .int (nI k15), .int (nI k16)]), (h1, aI Y 3640 f0), (h2, aZ Y 2 f1), (h3, aZ Y 80 f3), (h4, aB Y 1600 f4), (h5, aI Y 200 f13), (h6, aI Y 800 f14)] rfl ?_
              have x44 := w43
              clear w43
              rcases x44 with rfl | rfl
              ·
                refine V_if_eq_t 157 B 165 dX12_readStatement_157 (by decide) (by decide +kernel) ?_
                refine V_aload_n 165 B dX12_readStatement_165 0 rfl ?_
                refine V_bipush 166 B (v := 108) dX12_readStatement_166 (by decide +kernel) ?_
                refine V_bipush 168 B (v := 97) dX12_readStatement_168 (by decide +kernel) ?_
                refine V_bipush 170 B (v := 121) dX12_readStatement_170 (by decide +kernel) ?_
                refine V_bipush 172 B (v := 101) dX12_readStatement_172 (by decide +kernel) ?_
                refine V_bipush 174 B (v := 114) dX12_readStatement_174 (by decide +kernel) ?_
                refine V_iconst 176 B (v := 0) dX12_readStatement_176 (by decide +kernel) ?_
                refine V_csl 177 B (st := [.ref h0]) (As := [.int 108, .int 97, .int 121, .int 101, .int 114, .int 0]) (fun sz => rX12_pack l D Y 108 97 121 101 114 0 sz) glS_RX12_319 ⟨rfl, rfl⟩ ⟨(Nat.le_of_ble_eq_true rfl), (Nat.le_of_ble_eq_true rfl)⟩ ⟨(Nat.le_of_ble_eq_true rfl), (Nat.le_of_ble_eq_true rfl)⟩ [] rfl rfl (Nat.le_of_ble_eq_true rfl) rfl (fun _ _ _ => rfl) dX12_readStatement_177 (fun o45 u46 w47 => ?_)
                refine V_ws [(h0, oC 13 [.ref h1, .ref h2, .int p2, .ref h3, .ref h4, .int (nI k5), .int (nI k6), .int p7, .int p8, .int p9, .int (nI k10), .int p11, .long q12, .ref h5, .ref h6, .int (nI k15), .int (nI k16)]), (h1, aI Y 3640 f0), (h2, aZ Y 2 f1), (h3, aZ Y 80 f3), (h4, aB Y 1600 f4), (h5, aI Y 200 f13), (h6, aI Y 800 f14)] rfl ?_
                refine V_cvi 180 B (st := []) (As := [.long o45]) (fun sz => rX12_isWord l D Y h0 h1 h2 h3 h4 h5 h6 p2 k5 k6 p7 p8 p9 k10 p11 q12 k15 k16 f0 f1 f3 f4 f13 f14 ph HI (by omega) HP o45 sz) glV_RX12_323 ⟨rfl, rfl⟩ ⟨(Nat.le_of_ble_eq_true rfl), (Nat.le_of_ble_eq_true rfl)⟩ ⟨(Nat.le_of_ble_eq_true rfl), (Nat.le_of_ble_eq_true rfl)⟩ [0, 0, 0, 0, 0, 0, 0] rfl 13 0 rfl rfl rfl rfl (Nat.le_of_ble_eq_true rfl) rfl (fun _ _ _ => rfl) dX12_readStatement_180 (fun j48 u49 w50 => ?_)
                refine V_ws [(h0, oC 13 [.ref h1, .ref h2, .int p2, .ref h3, .ref h4, .int (nI k5), .int (nI k6), .int p7, .int p8, .int p9, .int (nI k10), .int p11, .long q12, .ref h5, .ref h6, .int (nI k15), .int (nI k16)]), (h1, aI Y 3640 f0), (h2, aZ Y 2 f1), (h3, aZ Y 80 f3), (h4, aB Y 1600 f4), (h5, aI Y 200 f13), (h6, aI Y 800 f14)] rfl ?_
                have x51 := w50
                clear w50
                rcases x51 with rfl | rfl
                ·
                  refine V_if_eq_t 183 B 191 dX12_readStatement_183 (by decide) (by decide +kernel) ?_
                  refine V_aload_n 191 B dX12_readStatement_191 0 rfl ?_
                  refine V_bipush 192 B (v := 116) dX12_readStatement_192 (by decide +kernel) ?_
                  refine V_bipush 194 B (v := 105) dX12_readStatement_194 (by decide +kernel) ?_
                  refine V_bipush 196 B (v := 109) dX12_readStatement_196 (by decide +kernel) ?_
                  refine V_bipush 198 B (v := 101) dX12_readStatement_198 (by decide +kernel) ?_
                  refine V_bipush 200 B (v := 111) dX12_readStatement_200 (by decide +kernel) ?_
                  refine V_bipush 202 B (v := 117) dX12_readStatement_202 (by decide +kernel) ?_
                  refine V_csl 204 B (st := [.ref h0]) (As := [.int 116, .int 105, .int 109, .int 101, .int 111, .int 117]) (fun sz => rX12_pack l D Y 116 105 109 101 111 117 sz) glS_RX12_319 ⟨rfl, rfl⟩ ⟨(Nat.le_of_ble_eq_true rfl), (Nat.le_of_ble_eq_true rfl)⟩ ⟨(Nat.le_of_ble_eq_true rfl), (Nat.le_of_ble_eq_true rfl)⟩ [] rfl rfl (Nat.le_of_ble_eq_true rfl) rfl (fun _ _ _ => rfl) dX12_readStatement_204 (fun o52 u53 w54 => ?_)
                  refine V_ws [(h0, oC 13 [.ref h1, .ref h2, .int p2, .ref h3, .ref h4, .int (nI k5), .int (nI k6), .int p7, .int p8, .int p9, .int (nI k10), .int p11, .long q12, .ref h5, .ref h6, .int (nI k15), .int (nI k16)]), (h1, aI Y 3640 f0), (h2, aZ Y 2 f1), (h3, aZ Y 80 f3), (h4, aB Y 1600 f4), (h5, aI Y 200 f13), (h6, aI Y 800 f14)] rfl ?_
                  refine V_bipush 207 B (v := 7) dX12_readStatement_207 (by decide +kernel) ?_
                  refine V_lshl 209 B dX12_readStatement_209 rfl ?_
                  refine V_nml (fun o55 _ => ?_)
                  refine V_ldc2 210 B (v := 116) dX12_readStatement_210 (mT10 45 rfl rfl) ?_
                  refine V_lor 213 B dX12_readStatement_213 rfl ?_
                  refine V_nml (fun o56 e57 => ?_)
                  refine V_cvi 214 B (st := []) (As := [.long o56]) (fun sz => rX12_isWord l D Y h0 h1 h2 h3 h4 h5 h6 p2 k5 k6 p7 p8 p9 k10 p11 q12 k15 k16 f0 f1 f3 f4 f13 f14 ph HI (by omega) HP o56 sz) glV_RX12_323 ⟨rfl, rfl⟩ ⟨(Nat.le_of_ble_eq_true rfl), (Nat.le_of_ble_eq_true rfl)⟩ ⟨(Nat.le_of_ble_eq_true rfl), (Nat.le_of_ble_eq_true rfl)⟩ [0, 0, 0, 0, 0, 0, 0] rfl 13 0 rfl rfl rfl rfl (Nat.le_of_ble_eq_true rfl) rfl (fun _ _ _ => rfl) dX12_readStatement_214 (fun j58 u59 w60 => ?_)
                  refine V_ws [(h0, oC 13 [.ref h1, .ref h2, .int p2, .ref h3, .ref h4, .int (nI k5), .int (nI k6), .int p7, .int p8, .int p9, .int (nI k10), .int p11, .long q12, .ref h5, .ref h6, .int (nI k15), .int (nI k16)]), (h1, aI Y 3640 f0), (h2, aZ Y 2 f1), (h3, aZ Y 80 f3), (h4, aB Y 1600 f4), (h5, aI Y 200 f13), (h6, aI Y 800 f14)] rfl ?_
                  have x61 := w60
                  clear w60
                  rcases x61 with rfl | rfl
                  ·
                    refine V_if_eq_t 217 B 227 dX12_readStatement_217 (by decide) (by decide +kernel) ?_
                    refine V_aload_n 227 B dX12_readStatement_227 0 rfl ?_
                    refine V_iconst 228 B (v := 1) dX12_readStatement_228 (by decide +kernel) ?_
                    refine V_cvi 229 B (st := []) (As := [.int 1]) (fun sz => rX12_fail l D Y h0 h1 h2 h3 h4 h5 h6 p2 k5 k6 p7 p8 p9 k10 p11 q12 k15 k16 f0 f1 f3 f4 f13 f14 ph HI (by omega) HP 1 sz) glV_RX12_291 ⟨rfl, rfl⟩ ⟨(Nat.le_of_ble_eq_true rfl), (Nat.le_of_ble_eq_true rfl)⟩ ⟨(Nat.le_of_ble_eq_true rfl), (Nat.le_of_ble_eq_true rfl)⟩ [0, 0, 0, 0, 0, 0, 0] rfl 13 0 rfl rfl rfl rfl (Nat.le_of_ble_eq_true rfl) rfl (fun _ _ _ => rfl) dX12_readStatement_229 (fun j62 u63 w64 => ?_)
                    refine V_ws [(h0, oC 13 [.ref h1, .ref h2, .int p2, .ref h3, .ref h4, .int (nI k5), .int (nI k6), .int (u63.2.1 0), .int (u63.2.1 1), .int p9, .int (nI k10), .int p11, .long q12, .ref h5, .ref h6, .int (nI k15), .int (nI k16)]), (h1, aI Y 3640 f0), (h2, aZ Y 2 f1), (h3, aZ Y 80 f3), (h4, aB Y 1600 f4), (h5, aI Y 200 f13), (h6, aI Y 800 f14)] rfl ?_
                    have x65 := w64
                    clear w64
                    obtain rfl := x65
                    exact V_zret 232 B rfl dX12_readStatement_232 (mkW [k6, k10] [(u63.2.1 0), (u63.2.1 1), p9, p11] [q12] [f0] [] []) ⟨(Or.inl rfl), HI, (show k10 ≤ k10 by omega), (show k10 ≤ k6 by omega), (show k6 ≤ k5 by omega), (show (p9 = 0 ∨ k10 < k6) by first | assumption | exact Or.inr (by omega))⟩ rfl
                  ·
                    refine V_if_eq_f 217 B 227 dX12_readStatement_217 (by decide) (by decide +kernel) ?_
                    refine V_aload_n 220 B dX12_readStatement_220 0 rfl ?_
                    refine V_cvi 221 B (st := []) (As := []) (fun sz => rX12_readTimeout l D Y h0 h1 h2 h3 h4 h5 h6 p2 k5 k6 p7 p8 p9 k10 p11 q12 k15 k16 f0 f1 f3 f4 f13 f14 ph HI (by omega) HP (by omega) (by omega) (by first | assumption | exact Or.inl rfl | exact Or.inr (by omega)) (by omega) sz) glV_RX12_346 ⟨rfl, rfl⟩ ⟨(Nat.le_of_ble_eq_true rfl), (Nat.le_of_ble_eq_true rfl)⟩ ⟨(Nat.le_of_ble_eq_true rfl), (Nat.le_of_ble_eq_true rfl)⟩ [0, 0, 0, 0, 0, 0, 0] rfl 13 0 rfl rfl rfl rfl (Nat.le_of_ble_eq_true rfl) rfl (fun _ _ _ => rfl) dX12_readStatement_221 (fun j66 u67 w68 => ?_)
                    refine V_ws [(h0, oC 13 [.ref h1, .ref h2, .int p2, .ref h3, .ref h4, .int (nI k5), .int (nI (u67.1 0)), .int (u67.2.1 0), .int (u67.2.1 1), .int (u67.2.1 2), .int (nI (u67.1 1)), .int (u67.2.1 3), .long (u67.2.2.1 0), .ref h5, .ref h6, .int (nI k15), .int (nI k16)]), (h1, aI Y 3640 (u67.2.2.2.1 0)), (h2, aZ Y 2 f1), (h3, aZ Y 80 f3), (h4, aB Y 1600 f4), (h5, aI Y 200 f13), (h6, aI Y 800 f14)] rfl ?_
                    obtain ⟨x69, x70, x71, x72, x73, x74⟩ := w68
                    rcases x69 with rfl | ⟨rfl, x75⟩
                    ·
                      refine V_goto 224 B 232 dX12_readStatement_224 (by decide) ?_
                      exact V_zret 232 B rfl dX12_readStatement_232 (mkW [(u67.1 0), (u67.1 1)] [(u67.2.1 0), (u67.2.1 1), (u67.2.1 2), (u67.2.1 3)] [(u67.2.2.1 0)] [(u67.2.2.2.1 0)] [] []) ⟨(Or.inl rfl), x70, (show k10 ≤ (u67.1 1) by omega), (show (u67.1 1) ≤ (u67.1 0) by omega), (show (u67.1 0) ≤ k5 by omega), (show ((u67.2.1 2) = 0 ∨ (u67.1 1) < (u67.1 0)) by first | assumption | exact Or.inr (by omega))⟩ rfl
                    ·
                      refine V_goto 224 B 232 dX12_readStatement_224 (by decide) ?_
                      exact V_zret 232 B rfl dX12_readStatement_232 (mkW [(u67.1 0), (u67.1 1)] [(u67.2.1 0), (u67.2.1 1), (u67.2.1 2), (u67.2.1 3)] [(u67.2.2.1 0)] [(u67.2.2.2.1 0)] [] []) ⟨(Or.inr ⟨rfl, (show k10 < (u67.1 1) by omega)⟩), x70, (show k10 ≤ (u67.1 1) by omega), (show (u67.1 1) ≤ (u67.1 0) by omega), (show (u67.1 0) ≤ k5 by omega), (show ((u67.2.1 2) = 0 ∨ (u67.1 1) < (u67.1 0)) by first | assumption | exact Or.inr (by omega))⟩ rfl
                ·
                  refine V_if_eq_f 183 B 191 dX12_readStatement_183 (by decide) (by decide +kernel) ?_
                  refine V_aload_n 186 B dX12_readStatement_186 0 rfl ?_
                  refine V_cvi 187 B (st := []) (As := []) (fun sz => rX12_readLayer l D Y h0 h1 h2 h3 h4 h5 h6 p2 k5 k6 p7 p8 p9 k10 p11 q12 k15 k16 f0 f1 f3 f4 f13 f14 ph HI (by omega) HP (by omega) (by omega) (by first | assumption | exact Or.inl rfl | exact Or.inr (by omega)) (by omega) sz) glV_RX12_341 ⟨rfl, rfl⟩ ⟨(Nat.le_of_ble_eq_true rfl), (Nat.le_of_ble_eq_true rfl)⟩ ⟨(Nat.le_of_ble_eq_true rfl), (Nat.le_of_ble_eq_true rfl)⟩ [0, 0, 0, 0, 0, 0, 0] rfl 13 0 rfl rfl rfl rfl (Nat.le_of_ble_eq_true rfl) rfl (fun _ _ _ => rfl) dX12_readStatement_187 (fun j76 u77 w78 => ?_)
                  refine V_ws [(h0, oC 13 [.ref h1, .ref h2, .int p2, .ref h3, .ref h4, .int (nI k5), .int (nI (u77.1 0)), .int (u77.2.1 0), .int (u77.2.1 1), .int (u77.2.1 2), .int (nI (u77.1 1)), .int (u77.2.1 3), .long (u77.2.2.1 0), .ref h5, .ref h6, .int (nI k15), .int (nI k16)]), (h1, aI Y 3640 (u77.2.2.2.1 0)), (h2, aZ Y 2 f1), (h3, aZ Y 80 f3), (h4, aB Y 1600 f4), (h5, aI Y 200 f13), (h6, aI Y 800 f14)] rfl ?_
                  obtain ⟨x79, x80, x81, x82, x83, x84⟩ := w78
                  rcases x79 with rfl | ⟨rfl, x85⟩
                  ·
                    exact V_zret 190 B rfl dX12_readStatement_190 (mkW [(u77.1 0), (u77.1 1)] [(u77.2.1 0), (u77.2.1 1), (u77.2.1 2), (u77.2.1 3)] [(u77.2.2.1 0)] [(u77.2.2.2.1 0)] [] []) ⟨(Or.inl rfl), x80, (show k10 ≤ (u77.1 1) by omega), (show (u77.1 1) ≤ (u77.1 0) by omega), (show (u77.1 0) ≤ k5 by omega), (show ((u77.2.1 2) = 0 ∨ (u77.1 1) < (u77.1 0)) by first | assumption | exact Or.inr (by omega))⟩ rfl
                  ·
                    exact V_zret 190 B rfl dX12_readStatement_190 (mkW [(u77.1 0), (u77.1 1)] [(u77.2.1 0), (u77.2.1 1), (u77.2.1 2), (u77.2.1 3)] [(u77.2.2.1 0)] [(u77.2.2.2.1 0)] [] []) ⟨(Or.inr ⟨rfl, (show k10 < (u77.1 1) by omega)⟩), x80, (show k10 ≤ (u77.1 1) by omega), (show (u77.1 1) ≤ (u77.1 0) by omega), (show (u77.1 0) ≤ k5 by omega), (show ((u77.2.1 2) = 0 ∨ (u77.1 1) < (u77.1 0)) by first | assumption | exact Or.inr (by omega))⟩ rfl
              ·
                refine V_if_eq_f 157 B 165 dX12_readStatement_157 (by decide) (by decide +kernel) ?_
                refine V_aload_n 160 B dX12_readStatement_160 0 rfl ?_
                refine V_cvi 161 B (st := []) (As := []) (fun sz => rX12_readBinding l D Y h0 h1 h2 h3 h4 h5 h6 p2 k5 k6 p7 p8 p9 k10 p11 q12 k15 k16 f0 f1 f3 f4 f13 f14 ph HI (by omega) HP (by omega) (by omega) (by first | assumption | exact Or.inl rfl | exact Or.inr (by omega)) (by omega) sz) glV_RX12_338 ⟨rfl, rfl⟩ ⟨(Nat.le_of_ble_eq_true rfl), (Nat.le_of_ble_eq_true rfl)⟩ ⟨(Nat.le_of_ble_eq_true rfl), (Nat.le_of_ble_eq_true rfl)⟩ [0, 0, 0, 0, 0, 0, 0] rfl 13 0 rfl rfl rfl rfl (Nat.le_of_ble_eq_true rfl) rfl (fun _ _ _ => rfl) dX12_readStatement_161 (fun j86 u87 w88 => ?_)
                refine V_ws [(h0, oC 13 [.ref h1, .ref h2, .int p2, .ref h3, .ref h4, .int (nI k5), .int (nI (u87.1 0)), .int (u87.2.1 0), .int (u87.2.1 1), .int (u87.2.1 2), .int (nI (u87.1 1)), .int (u87.2.1 3), .long (u87.2.2.1 0), .ref h5, .ref h6, .int (nI k15), .int (nI k16)]), (h1, aI Y 3640 (u87.2.2.2.1 0)), (h2, aZ Y 2 f1), (h3, aZ Y 80 f3), (h4, aB Y 1600 f4), (h5, aI Y 200 f13), (h6, aI Y 800 f14)] rfl ?_
                obtain ⟨x89, x90, x91, x92, x93, x94⟩ := w88
                rcases x89 with rfl | ⟨rfl, x95⟩
                ·
                  exact V_zret 164 B rfl dX12_readStatement_164 (mkW [(u87.1 0), (u87.1 1)] [(u87.2.1 0), (u87.2.1 1), (u87.2.1 2), (u87.2.1 3)] [(u87.2.2.1 0)] [(u87.2.2.2.1 0)] [] []) ⟨(Or.inl rfl), x90, (show k10 ≤ (u87.1 1) by omega), (show (u87.1 1) ≤ (u87.1 0) by omega), (show (u87.1 0) ≤ k5 by omega), (show ((u87.2.1 2) = 0 ∨ (u87.1 1) < (u87.1 0)) by first | assumption | exact Or.inr (by omega))⟩ rfl
                ·
                  exact V_zret 164 B rfl dX12_readStatement_164 (mkW [(u87.1 0), (u87.1 1)] [(u87.2.1 0), (u87.2.1 1), (u87.2.1 2), (u87.2.1 3)] [(u87.2.2.1 0)] [(u87.2.2.2.1 0)] [] []) ⟨(Or.inr ⟨rfl, (show k10 < (u87.1 1) by omega)⟩), x90, (show k10 ≤ (u87.1 1) by omega), (show (u87.1 1) ≤ (u87.1 0) by omega), (show (u87.1 0) ≤ k5 by omega), (show ((u87.2.1 2) = 0 ∨ (u87.1 1) < (u87.1 0)) by first | assumption | exact Or.inr (by omega))⟩ rfl
            ·
              refine V_if_eq_f 132 B 140 dX12_readStatement_132 (by decide) (by decide +kernel) ?_
              refine V_aload_n 135 B dX12_readStatement_135 0 rfl ?_
              refine V_cvi 136 B (st := []) (As := []) (fun sz => rX12_readReserved l D Y h0 h1 h2 h3 h4 h5 h6 p2 k5 k6 p7 p8 p9 k10 p11 q12 k15 k16 f0 f1 f3 f4 f13 f14 ph HI (by omega) HP (by omega) (by omega) (by first | assumption | exact Or.inl rfl | exact Or.inr (by omega)) (by omega) sz) glV_RX12_335 ⟨rfl, rfl⟩ ⟨(Nat.le_of_ble_eq_true rfl), (Nat.le_of_ble_eq_true rfl)⟩ ⟨(Nat.le_of_ble_eq_true rfl), (Nat.le_of_ble_eq_true rfl)⟩ [0, 0, 0, 0, 0, 0, 0] rfl 13 0 rfl rfl rfl rfl (Nat.le_of_ble_eq_true rfl) rfl (fun _ _ _ => rfl) dX12_readStatement_136 (fun j96 u97 w98 => ?_)
              refine V_ws [(h0, oC 13 [.ref h1, .ref h2, .int p2, .ref h3, .ref h4, .int (nI k5), .int (nI (u97.1 0)), .int (u97.2.1 0), .int (u97.2.1 1), .int (u97.2.1 2), .int (nI (u97.1 1)), .int p11, .long (u97.2.2.1 0), .ref h5, .ref h6, .int (nI k15), .int (nI k16)]), (h1, aI Y 3640 (u97.2.2.2.1 0)), (h2, aZ Y 2 f1), (h3, aZ Y 80 f3), (h4, aB Y 1600 f4), (h5, aI Y 200 f13), (h6, aI Y 800 f14)] rfl ?_
              obtain ⟨x99, x100, x101, x102, x103, x104⟩ := w98
              rcases x99 with rfl | ⟨rfl, x105⟩
              ·
                exact V_zret 139 B rfl dX12_readStatement_139 (mkW [(u97.1 0), (u97.1 1)] [(u97.2.1 0), (u97.2.1 1), (u97.2.1 2), p11] [(u97.2.2.1 0)] [(u97.2.2.2.1 0)] [] []) ⟨(Or.inl rfl), x100, (show k10 ≤ (u97.1 1) by omega), (show (u97.1 1) ≤ (u97.1 0) by omega), (show (u97.1 0) ≤ k5 by omega), (show ((u97.2.1 2) = 0 ∨ (u97.1 1) < (u97.1 0)) by first | assumption | exact Or.inr (by omega))⟩ rfl
              ·
                exact V_zret 139 B rfl dX12_readStatement_139 (mkW [(u97.1 0), (u97.1 1)] [(u97.2.1 0), (u97.2.1 1), (u97.2.1 2), p11] [(u97.2.2.1 0)] [(u97.2.2.2.1 0)] [] []) ⟨(Or.inr ⟨rfl, (show k10 < (u97.1 1) by omega)⟩), x100, (show k10 ≤ (u97.1 1) by omega), (show (u97.1 1) ≤ (u97.1 0) by omega), (show (u97.1 0) ≤ k5 by omega), (show ((u97.2.1 2) = 0 ∨ (u97.1 1) < (u97.1 0)) by first | assumption | exact Or.inr (by omega))⟩ rfl
          ·
            refine V_if_eq_f 97 B 106 dX12_readStatement_97 (by decide) (by decide +kernel) ?_
            refine V_aload_n 100 B dX12_readStatement_100 0 rfl ?_
            refine V_iconst 101 B (v := 2) dX12_readStatement_101 (by decide +kernel) ?_
            refine V_cvi 102 B (st := []) (As := [.int 2]) (fun sz => rX12_readCommand l D Y h0 h1 h2 h3 h4 h5 h6 p2 k5 k6 p7 p8 p9 k10 p11 q12 k15 k16 f0 f1 f3 f4 f13 f14 ph HI (by omega) HP 2 (by omega) (by omega) (by first | assumption | exact Or.inl rfl | exact Or.inr (by omega)) (by omega) sz) glV_RX12_330 ⟨rfl, rfl⟩ ⟨(Nat.le_of_ble_eq_true rfl), (Nat.le_of_ble_eq_true rfl)⟩ ⟨(Nat.le_of_ble_eq_true rfl), (Nat.le_of_ble_eq_true rfl)⟩ [0, 0, 0, 0, 0, 0, 0] rfl 13 0 rfl rfl rfl rfl (Nat.le_of_ble_eq_true rfl) rfl (fun _ _ _ => rfl) dX12_readStatement_102 (fun j106 u107 w108 => ?_)
            refine V_ws [(h0, oC 13 [.ref h1, .ref h2, .int p2, .ref h3, .ref h4, .int (nI k5), .int (nI (u107.1 0)), .int (u107.2.1 0), .int (u107.2.1 1), .int (u107.2.1 2), .int (nI (u107.1 1)), .int (u107.2.1 3), .long (u107.2.2.1 0), .ref h5, .ref h6, .int (nI k15), .int (nI k16)]), (h1, aI Y 3640 (u107.2.2.2.1 0)), (h2, aZ Y 2 f1), (h3, aZ Y 80 f3), (h4, aB Y 1600 f4), (h5, aI Y 200 f13), (h6, aI Y 800 f14)] rfl ?_
            obtain ⟨x109, x110, x111, x112, x113, x114⟩ := w108
            rcases x109 with rfl | ⟨rfl, x115⟩
            ·
              exact V_zret 105 B rfl dX12_readStatement_105 (mkW [(u107.1 0), (u107.1 1)] [(u107.2.1 0), (u107.2.1 1), (u107.2.1 2), (u107.2.1 3)] [(u107.2.2.1 0)] [(u107.2.2.2.1 0)] [] []) ⟨(Or.inl rfl), x110, (show k10 ≤ (u107.1 1) by omega), (show (u107.1 1) ≤ (u107.1 0) by omega), (show (u107.1 0) ≤ k5 by omega), (show ((u107.2.1 2) = 0 ∨ (u107.1 1) < (u107.1 0)) by first | assumption | exact Or.inr (by omega))⟩ rfl
            ·
              have e116 : (2 : Int32).toInt = 2 := by decide +kernel
              exact V_zret 105 B rfl dX12_readStatement_105 (mkW [(u107.1 0), (u107.1 1)] [(u107.2.1 0), (u107.2.1 1), (u107.2.1 2), (u107.2.1 3)] [(u107.2.2.1 0)] [(u107.2.2.2.1 0)] [] []) ⟨(Or.inr ⟨rfl, (show k10 < (u107.1 1) by omega)⟩), x110, (show k10 ≤ (u107.1 1) by omega), (show (u107.1 1) ≤ (u107.1 0) by omega), (show (u107.1 0) ≤ k5 by omega), (show ((u107.2.1 2) = 0 ∨ (u107.1 1) < (u107.1 0)) by first | assumption | exact Or.inr (by omega))⟩ rfl
        ·
          refine V_if_eq_f 71 B 80 dX12_readStatement_71 (by decide) (by decide +kernel) ?_
          refine V_aload_n 74 B dX12_readStatement_74 0 rfl ?_
          refine V_iconst 75 B (v := 1) dX12_readStatement_75 (by decide +kernel) ?_
          refine V_cvi 76 B (st := []) (As := [.int 1]) (fun sz => rX12_readCommand l D Y h0 h1 h2 h3 h4 h5 h6 p2 k5 k6 p7 p8 p9 k10 p11 q12 k15 k16 f0 f1 f3 f4 f13 f14 ph HI (by omega) HP 1 (by omega) (by omega) (by first | assumption | exact Or.inl rfl | exact Or.inr (by omega)) (by omega) sz) glV_RX12_330 ⟨rfl, rfl⟩ ⟨(Nat.le_of_ble_eq_true rfl), (Nat.le_of_ble_eq_true rfl)⟩ ⟨(Nat.le_of_ble_eq_true rfl), (Nat.le_of_ble_eq_true rfl)⟩ [0, 0, 0, 0, 0, 0, 0] rfl 13 0 rfl rfl rfl rfl (Nat.le_of_ble_eq_true rfl) rfl (fun _ _ _ => rfl) dX12_readStatement_76 (fun j117 u118 w119 => ?_)
          refine V_ws [(h0, oC 13 [.ref h1, .ref h2, .int p2, .ref h3, .ref h4, .int (nI k5), .int (nI (u118.1 0)), .int (u118.2.1 0), .int (u118.2.1 1), .int (u118.2.1 2), .int (nI (u118.1 1)), .int (u118.2.1 3), .long (u118.2.2.1 0), .ref h5, .ref h6, .int (nI k15), .int (nI k16)]), (h1, aI Y 3640 (u118.2.2.2.1 0)), (h2, aZ Y 2 f1), (h3, aZ Y 80 f3), (h4, aB Y 1600 f4), (h5, aI Y 200 f13), (h6, aI Y 800 f14)] rfl ?_
          obtain ⟨x120, x121, x122, x123, x124, x125⟩ := w119
          rcases x120 with rfl | ⟨rfl, x126⟩
          ·
            exact V_zret 79 B rfl dX12_readStatement_79 (mkW [(u118.1 0), (u118.1 1)] [(u118.2.1 0), (u118.2.1 1), (u118.2.1 2), (u118.2.1 3)] [(u118.2.2.1 0)] [(u118.2.2.2.1 0)] [] []) ⟨(Or.inl rfl), x121, (show k10 ≤ (u118.1 1) by omega), (show (u118.1 1) ≤ (u118.1 0) by omega), (show (u118.1 0) ≤ k5 by omega), (show ((u118.2.1 2) = 0 ∨ (u118.1 1) < (u118.1 0)) by first | assumption | exact Or.inr (by omega))⟩ rfl
          ·
            have e127 : (1 : Int32).toInt = 1 := by decide +kernel
            exact V_zret 79 B rfl dX12_readStatement_79 (mkW [(u118.1 0), (u118.1 1)] [(u118.2.1 0), (u118.2.1 1), (u118.2.1 2), (u118.2.1 3)] [(u118.2.2.1 0)] [(u118.2.2.2.1 0)] [] []) ⟨(Or.inr ⟨rfl, (show k10 < (u118.1 1) by omega)⟩), x121, (show k10 ≤ (u118.1 1) by omega), (show (u118.1 1) ≤ (u118.1 0) by omega), (show (u118.1 0) ≤ k5 by omega), (show ((u118.2.1 2) = 0 ∨ (u118.1 1) < (u118.1 0)) by first | assumption | exact Or.inr (by omega))⟩ rfl
      ·
        refine V_if_eq_f 43 B 52 dX12_readStatement_43 (by decide) (by decide +kernel) ?_
        refine V_aload_n 46 B dX12_readStatement_46 0 rfl ?_
        refine V_iconst 47 B (v := 0) dX12_readStatement_47 (by decide +kernel) ?_
        refine V_cvi 48 B (st := []) (As := [.int 0]) (fun sz => rX12_readCommand l D Y h0 h1 h2 h3 h4 h5 h6 p2 k5 k6 p7 p8 p9 k10 p11 q12 k15 k16 f0 f1 f3 f4 f13 f14 ph HI (by omega) HP 0 (by omega) (by omega) (by first | assumption | exact Or.inl rfl | exact Or.inr (by omega)) (by omega) sz) glV_RX12_330 ⟨rfl, rfl⟩ ⟨(Nat.le_of_ble_eq_true rfl), (Nat.le_of_ble_eq_true rfl)⟩ ⟨(Nat.le_of_ble_eq_true rfl), (Nat.le_of_ble_eq_true rfl)⟩ [0, 0, 0, 0, 0, 0, 0] rfl 13 0 rfl rfl rfl rfl (Nat.le_of_ble_eq_true rfl) rfl (fun _ _ _ => rfl) dX12_readStatement_48 (fun j128 u129 w130 => ?_)
        refine V_ws [(h0, oC 13 [.ref h1, .ref h2, .int p2, .ref h3, .ref h4, .int (nI k5), .int (nI (u129.1 0)), .int (u129.2.1 0), .int (u129.2.1 1), .int (u129.2.1 2), .int (nI (u129.1 1)), .int (u129.2.1 3), .long (u129.2.2.1 0), .ref h5, .ref h6, .int (nI k15), .int (nI k16)]), (h1, aI Y 3640 (u129.2.2.2.1 0)), (h2, aZ Y 2 f1), (h3, aZ Y 80 f3), (h4, aB Y 1600 f4), (h5, aI Y 200 f13), (h6, aI Y 800 f14)] rfl ?_
        obtain ⟨x131, x132, x133, x134, x135, x136⟩ := w130
        rcases x131 with rfl | ⟨rfl, x137⟩
        ·
          exact V_zret 51 B rfl dX12_readStatement_51 (mkW [(u129.1 0), (u129.1 1)] [(u129.2.1 0), (u129.2.1 1), (u129.2.1 2), (u129.2.1 3)] [(u129.2.2.1 0)] [(u129.2.2.2.1 0)] [] []) ⟨(Or.inl rfl), x132, (show k10 ≤ (u129.1 1) by omega), (show (u129.1 1) ≤ (u129.1 0) by omega), (show (u129.1 0) ≤ k5 by omega), (show ((u129.2.1 2) = 0 ∨ (u129.1 1) < (u129.1 0)) by first | assumption | exact Or.inr (by omega))⟩ rfl
        ·
          have e138 : (0 : Int32).toInt = 0 := by decide +kernel
          exact V_zret 51 B rfl dX12_readStatement_51 (mkW [(u129.1 0), (u129.1 1)] [(u129.2.1 0), (u129.2.1 1), (u129.2.1 2), (u129.2.1 3)] [(u129.2.2.1 0)] [(u129.2.2.2.1 0)] [] []) ⟨(Or.inr ⟨rfl, (show k10 < (u129.1 1) by omega)⟩), x132, (show k10 ≤ (u129.1 1) by omega), (show (u129.1 1) ≤ (u129.1 0) by omega), (show (u129.1 0) ≤ k5 by omega), (show ((u129.2.1 2) = 0 ∨ (u129.1 1) < (u129.1 0)) by first | assumption | exact Or.inr (by omega))⟩ rfl
    ·
      refine V_if_eq_f 17 B 25 dX12_readStatement_17 (by decide) (by decide +kernel) ?_
      refine V_aload_n 20 B dX12_readStatement_20 0 rfl ?_
      refine V_cvi 21 B (st := []) (As := []) (fun sz => rX12_readMode l D Y h0 h1 h2 h3 h4 h5 h6 p2 k5 k6 p7 p8 p9 k10 p11 q12 k15 k16 f0 f1 f3 f4 f13 f14 ph HI (by omega) HP (by omega) (by omega) (by first | assumption | exact Or.inl rfl | exact Or.inr (by omega)) (by omega) sz) glV_RX12_327 ⟨rfl, rfl⟩ ⟨(Nat.le_of_ble_eq_true rfl), (Nat.le_of_ble_eq_true rfl)⟩ ⟨(Nat.le_of_ble_eq_true rfl), (Nat.le_of_ble_eq_true rfl)⟩ [0, 0, 0, 0, 0, 0, 0] rfl 13 0 rfl rfl rfl rfl (Nat.le_of_ble_eq_true rfl) rfl (fun _ _ _ => rfl) dX12_readStatement_21 (fun j139 u140 w141 => ?_)
      refine V_ws [(h0, oC 13 [.ref h1, .ref h2, .int p2, .ref h3, .ref h4, .int (nI k5), .int (nI (u140.1 0)), .int (u140.2.1 0), .int (u140.2.1 1), .int (u140.2.1 2), .int (nI (u140.1 1)), .int (u140.2.1 3), .long (u140.2.2.1 0), .ref h5, .ref h6, .int (nI k15), .int (nI k16)]), (h1, aI Y 3640 (u140.2.2.2.1 0)), (h2, aZ Y 2 f1), (h3, aZ Y 80 f3), (h4, aB Y 1600 f4), (h5, aI Y 200 f13), (h6, aI Y 800 f14)] rfl ?_
      obtain ⟨x142, x143, x144, x145, x146, x147⟩ := w141
      rcases x142 with rfl | ⟨rfl, x148⟩
      ·
        exact V_zret 24 B rfl dX12_readStatement_24 (mkW [(u140.1 0), (u140.1 1)] [(u140.2.1 0), (u140.2.1 1), (u140.2.1 2), (u140.2.1 3)] [(u140.2.2.1 0)] [(u140.2.2.2.1 0)] [] []) ⟨(Or.inl rfl), x143, (show k10 ≤ (u140.1 1) by omega), (show (u140.1 1) ≤ (u140.1 0) by omega), (show (u140.1 0) ≤ k5 by omega), (show ((u140.2.1 2) = 0 ∨ (u140.1 1) < (u140.1 0)) by first | assumption | exact Or.inr (by omega))⟩ rfl
      ·
        exact V_zret 24 B rfl dX12_readStatement_24 (mkW [(u140.1 0), (u140.1 1)] [(u140.2.1 0), (u140.2.1 1), (u140.2.1 2), (u140.2.1 3)] [(u140.2.2.1 0)] [(u140.2.2.2.1 0)] [] []) ⟨(Or.inr ⟨rfl, (show k10 < (u140.1 1) by omega)⟩), x143, (show k10 ≤ (u140.1 1) by omega), (show (u140.1 1) ≤ (u140.1 0) by omega), (show (u140.1 0) ≤ k5 by omega), (show ((u140.2.1 2) = 0 ∨ (u140.1 1) < (u140.1 0)) by first | assumption | exact Or.inr (by omega))⟩ rfl)
theorem dX12_areTargetsThere_0 : decode cX12_areTargetsThere 0 = .ok (.iconst 0, 1) := by decide +kernel
theorem dX12_areTargetsThere_1 : decode cX12_areTargetsThere 1 = .ok (.istore_n 1, 1) := by decide +kernel
theorem dX12_areTargetsThere_2 : decode cX12_areTargetsThere 2 = .ok (.iload_n 1, 1) := by decide +kernel
theorem dX12_areTargetsThere_3 : decode cX12_areTargetsThere 3 = .ok (.aload_n 0, 1) := by decide +kernel
theorem dX12_areTargetsThere_4 : decode cX12_areTargetsThere 4 = .ok (.getfield 9, 3) := by decide +kernel
theorem dX12_areTargetsThere_7 : decode cX12_areTargetsThere 7 = .ok (.sipush 2719, 3) := by decide +kernel
theorem dX12_areTargetsThere_10 : decode cX12_areTargetsThere 10 = .ok (.iaload, 1) := by decide +kernel
theorem dX12_areTargetsThere_11 : decode cX12_areTargetsThere 11 = .ok (.if_icmp .ge 40, 3) := by decide +kernel
theorem dX12_areTargetsThere_51 : decode cX12_areTargetsThere 51 = .ok (.iconst 1, 1) := by decide +kernel
theorem dX12_areTargetsThere_52 : decode cX12_areTargetsThere 52 = .ok (.ireturn, 1) := by decide +kernel
theorem dX12_areTargetsThere_14 : decode cX12_areTargetsThere 14 = .ok (.aload_n 0, 1) := by decide +kernel
theorem dX12_areTargetsThere_15 : decode cX12_areTargetsThere 15 = .ok (.getfield 9, 3) := by decide +kernel
theorem dX12_areTargetsThere_18 : decode cX12_areTargetsThere 18 = .ok (.sipush 2752, 3) := by decide +kernel
theorem dX12_areTargetsThere_21 : decode cX12_areTargetsThere 21 = .ok (.iconst 3, 1) := by decide +kernel
theorem dX12_areTargetsThere_22 : decode cX12_areTargetsThere 22 = .ok (.iload_n 1, 1) := by decide +kernel
theorem dX12_areTargetsThere_23 : decode cX12_areTargetsThere 23 = .ok (.imul, 1) := by decide +kernel
theorem dX12_areTargetsThere_24 : decode cX12_areTargetsThere 24 = .ok (.iadd, 1) := by decide +kernel
theorem dX12_areTargetsThere_25 : decode cX12_areTargetsThere 25 = .ok (.iconst 1, 1) := by decide +kernel
theorem dX12_areTargetsThere_26 : decode cX12_areTargetsThere 26 = .ok (.iadd, 1) := by decide +kernel
theorem dX12_areTargetsThere_27 : decode cX12_areTargetsThere 27 = .ok (.iaload, 1) := by decide +kernel
theorem dX12_areTargetsThere_28 : decode cX12_areTargetsThere 28 = .ok (.aload_n 0, 1) := by decide +kernel
theorem dX12_areTargetsThere_29 : decode cX12_areTargetsThere 29 = .ok (.getfield 9, 3) := by decide +kernel
theorem dX12_areTargetsThere_32 : decode cX12_areTargetsThere 32 = .ok (.sipush 2718, 3) := by decide +kernel
theorem dX12_areTargetsThere_35 : decode cX12_areTargetsThere 35 = .ok (.iaload, 1) := by decide +kernel
theorem dX12_areTargetsThere_36 : decode cX12_areTargetsThere 36 = .ok (.if_icmp .lt 9, 3) := by decide +kernel
theorem dX12_areTargetsThere_45 : decode cX12_areTargetsThere 45 = .ok (.iinc 1 1, 3) := by decide +kernel
theorem dX12_areTargetsThere_48 : decode cX12_areTargetsThere 48 = .ok (.goto (-46), 3) := by decide +kernel
theorem dX12_areTargetsThere_39 : decode cX12_areTargetsThere 39 = .ok (.aload_n 0, 1) := by decide +kernel
theorem dX12_areTargetsThere_40 : decode cX12_areTargetsThere 40 = .ok (.iconst 5, 1) := by decide +kernel
theorem dX12_areTargetsThere_41 : decode cX12_areTargetsThere 41 = .ok (.invokevirtual 291, 3) := by decide +kernel
theorem dX12_areTargetsThere_44 : decode cX12_areTargetsThere 44 = .ok (.ireturn, 1) := by decide +kernel
set_option maxRecDepth 100000 in
set_option maxHeartbeats 4000000 in
theorem rX12_areTargetsThere (l : Launch) (D : va_G) (Y : Nat → ClassId) (h0 : Nat) (h1 : Nat) (h2 : Nat) (h3 : Nat) (h4 : Nat) (h5 : Nat) (h6 : Nat) (p2 : Int32) (k5 : Nat) (k6 : Nat) (p7 : Int32) (p8 : Int32) (p9 : Int32) (k10 : Nat) (p11 : Int32) (q12 : Int64) (k15 : Nat) (k16 : Nat) (f0 : Nat → Int32) (f1 : Nat → Int32) (f3 : Nat → Int32) (f4 : Nat → Int32) (f13 : Nat → Int32) (f14 : Nat → Int32) (ph : Nat → Int32) (HI : INV ph f0) (HL : k5 ≤ 1600) (HP : PLV f13)   (sz : Nat) : Met l yX12_areTargetsThere (WSm yX12_areTargetsThere cX12_areTargetsThere 2 (some .boolean)) (mkR 1 0 0 21) (PreC D Y [.ref h0] [(h0, oC 13 [.ref h1, .ref h2, .int p2, .ref h3, .ref h4, .int (nI k5), .int (nI k6), .int p7, .int p8, .int p9, .int (nI k10), .int p11, .long q12, .ref h5, .ref h6, .int (nI k15), .int (nI k16)]), (h1, aI Y 3640 f0), (h2, aZ Y 2 f1), (h3, aZ Y 80 f3), (h4, aB Y 1600 f4), (h5, aI Y 200 f13), (h6, aI Y 800 f14)] sz) (QI D (fun (r : Int32) (u : WU) => (r = 0 ∨ r = 1)) (fun (u : WU) => [(h0, oC 13 [.ref h1, .ref h2, .int p2, .ref h3, .ref h4, .int (nI k5), .int (nI k6), .int (u.2.1 0), .int (u.2.1 1), .int p9, .int (nI k10), .int p11, .long q12, .ref h5, .ref h6, .int (nI k15), .int (nI k16)]), (h1, aI Y 3640 f0), (h2, aZ Y 2 f1), (h3, aZ Y 80 f3), (h4, aB Y 1600 f4), (h5, aI Y 200 f13), (h6, aI Y 800 f14)]) (va_A [(h0, oC 13 [.ref h1, .ref h2, .int p2, .ref h3, .ref h4, .int (nI k5), .int (nI k6), .int p7, .int p8, .int p9, .int (nI k10), .int p11, .long q12, .ref h5, .ref h6, .int (nI k15), .int (nI k16)]), (h1, aI Y 3640 f0), (h2, aZ Y 2 f1), (h3, aZ Y 80 f3), (h4, aB Y 1600 f4), (h5, aI Y 200 f13), (h6, aI Y 800 f14)] sz)) 0 0 (va_A [(h0, oC 13 [.ref h1, .ref h2, .int p2, .ref h3, .ref h4, .int (nI k5), .int (nI k6), .int p7, .int p8, .int p9, .int (nI k10), .int p11, .long q12, .ref h5, .ref h6, .int (nI k15), .int (nI k16)]), (h1, aI Y 3640 f0), (h2, aZ Y 2 f1), (h3, aZ Y 80 f3), (h4, aB Y 1600 f4), (h5, aI Y 200 f13), (h6, aI Y 800 f14)] sz) :=
  met_of  (by decide +kernel) (Nat.le_of_ble_eq_true rfl) (fun p e s m args below meth c B hin hsz => by
    have B : VB p s m args meth c D Y (va_A [(h0, oC 13 [.ref h1, .ref h2, .int p2, .ref h3, .ref h4, .int (nI k5), .int (nI k6), .int p7, .int p8, .int p9, .int (nI k10), .int p11, .long q12, .ref h5, .ref h6, .int (nI k15), .int (nI k16)]), (h1, aI Y 3640 f0), (h2, aZ Y 2 f1), (h3, aZ Y 80 f3), (h4, aB Y 1600 f4), (h5, aI Y 200 f13), (h6, aI Y 800 f14)] sz) cX12_areTargetsThere 2 RX12 (some .boolean) := B
    refine V_iconst 0 B (v := 0) dX12_areTargetsThere_0 (by decide +kernel) ?_
    refine V_istore_n 1 B (lv2 := [(1, .int 0), (0, .ref h0)]) dX12_areTargetsThere_1 (by decide) rfl ?_
    refine V_wloop (α := WU) (fun a => 100000 - (a.1 0)) (fun a => (a.1 0) ≤ 4000) (fun a => [(1, .int (nI (a.1 0))), (0, .ref h0)]) (fun a => [(h0, oC 13 [.ref h1, .ref h2, .int p2, .ref h3, .ref h4, .int (nI k5), .int (nI k6), .int (a.2.1 0), .int (a.2.1 1), .int p9, .int (nI k10), .int p11, .long q12, .ref h5, .ref h6, .int (nI k15), .int (nI k16)]), (h1, aI Y 3640 f0), (h2, aZ Y 2 f1), (h3, aZ Y 80 f3), (h4, aB Y 1600 f4), (h5, aI Y 200 f13), (h6, aI Y 800 f14)]) (mkW [0] [p7, p8] [] [] [] []) (show 0 ≤ 4000 by omega) rfl rfl (fun a0 hI2 IH1 => ?_)
    refine V_lv [(1, .int (nI (a0.1 0))), (0, .ref h0)] [0, 1] rfl ?_
    refine V_ws [(h0, oC 13 [.ref h1, .ref h2, .int p2, .ref h3, .ref h4, .int (nI k5), .int (nI k6), .int (a0.2.1 0), .int (a0.2.1 1), .int p9, .int (nI k10), .int p11, .long q12, .ref h5, .ref h6, .int (nI k15), .int (nI k16)]), (h1, aI Y 3640 f0), (h2, aZ Y 2 f1), (h3, aZ Y 80 f3), (h4, aB Y 1600 f4), (h5, aI Y 200 f13), (h6, aI Y 800 f14)] rfl ?_
    have x3 := hI2
    refine V_iload_n 2 B dX12_areTargetsThere_2 0 rfl ?_
    refine V_aload_n 3 B dX12_areTargetsThere_3 1 rfl ?_
    refine V_get 4 B gf_RX12_9 0 rfl rfl dX12_areTargetsThere_4 ?_
    refine V_sipush 7 B (v := 2719) dX12_areTargetsThere_7 (by decide +kernel) ?_
    have x4 : (gN f0 2719) ≤ 40 := gN_le HI (by omega) (show bd 2719 = (0, ((40 : Nat) : Int)) by decide +kernel)
    refine V_iald 10 B (v := (nI (gN f0 2719))) 1 rfl (vpin _ _ (by decide +kernel)) dX12_areTargetsThere_10 (by show f0 2719 = _; exact gN_eq HI (by omega) (show bd 2719 = (0, ((40 : Nat) : Int)) by decide +kernel)) ?_
    refine V_icmp_ge 11 B 51 dX12_areTargetsThere_11 (by decide) (fun kk5 => ?_) (fun kk5 => ?_)
    ·
      have x6 := n_le (a := (gN f0 2719)) (b := (a0.1 0)) kk5 (by omega) (by omega)
      refine V_iconst 51 B (v := 1) dX12_areTargetsThere_51 (by decide +kernel) ?_
      exact V_zret 52 B rfl dX12_areTargetsThere_52 (mkW [] [(a0.2.1 0), (a0.2.1 1)] [] [] [] []) (Or.inr rfl) rfl
    ·
      have x7 := n_nle (a := (gN f0 2719)) (b := (a0.1 0)) kk5 (by omega) (by omega)
      refine V_aload_n 14 B dX12_areTargetsThere_14 1 rfl ?_
      refine V_get 15 B gf_RX12_9 0 rfl rfl dX12_areTargetsThere_15 ?_
      refine V_sipush 18 B (v := 2752) dX12_areTargetsThere_18 (by decide +kernel) ?_
      refine V_iconst 21 B (v := 3) dX12_areTargetsThere_21 (by decide +kernel) ?_
      refine V_iload_n 22 B dX12_areTargetsThere_22 0 rfl ?_
      refine V_imul 23 B (v := (nI (3 * (a0.1 0)))) dX12_areTargetsThere_23 (nI_mulE (a := 3) (b := (a0.1 0)) (by omega)) ?_
      refine V_iadd 24 B (v := (nI (2752 + 3 * (a0.1 0)))) dX12_areTargetsThere_24 (nI_addE (a := 2752) (b := 3 * (a0.1 0)) (by omega)) ?_
      refine V_iconst 25 B (v := 1) dX12_areTargetsThere_25 (by decide +kernel) ?_
      refine V_iadd 26 B (v := (nI (2753 + 3 * (a0.1 0)))) dX12_areTargetsThere_26 (nI_addE (a := 2752 + 3 * (a0.1 0)) (b := 1) (by omega)) ?_
      refine V_iald 27 B (v := f0 (2753 + 3 * (a0.1 0))) 1 rfl (vp_in_nI (n := 2753 + 3 * (a0.1 0)) (by omega) (by decide)) dX12_areTargetsThere_27 (by rw [nI_clamp (show 2753 + 3 * (a0.1 0) < 2 ^ 31 by omega)]) ?_
      refine V_nmi (fun j8 e9 => ?_)
      have x10 : (-1) ≤ j8.toInt ∧ j8.toInt ≤ 5 := by rw [e9]; exact ⟨INV_lo HI (by omega) (rl28 (a0.1 0) (by omega)), INV_hi HI (by omega) (rl28 (a0.1 0) (by omega))⟩
      refine V_aload_n 28 B dX12_areTargetsThere_28 1 rfl ?_
      refine V_get 29 B gf_RX12_9 0 rfl rfl dX12_areTargetsThere_29 ?_
      refine V_sipush 32 B (v := 2718) dX12_areTargetsThere_32 (by decide +kernel) ?_
      have x11 : (gN f0 2718) ≤ 6 := gN_le HI (by omega) (show bd 2718 = (0, ((6 : Nat) : Int)) by decide +kernel)
      refine V_iald 35 B (v := (nI (gN f0 2718))) 1 rfl (vpin _ _ (by decide +kernel)) dX12_areTargetsThere_35 (by show f0 2718 = _; exact gN_eq HI (by omega) (show bd 2718 = (0, ((6 : Nat) : Int)) by decide +kernel)) ?_
      refine V_icmp_lt 36 B 45 dX12_areTargetsThere_36 (by decide) (fun kk12 => ?_) (fun kk12 => ?_)
      ·
        have x13 := x_lt kk12
        rw [nI_toInt (show (gN f0 2718) < 2 ^ 31 by omega)] at x13
        refine V_iinc 45 B (v := (nI (1 + (a0.1 0)))) (lv2 := [(1, .int (nI (1 + (a0.1 0)))), (0, .ref h0)]) dX12_areTargetsThere_45 0 rfl (nI_addE (a := (a0.1 0)) (b := 1) (by omega)) (by decide) rfl ?_
        refine V_goto 48 B 2 dX12_areTargetsThere_48 (by decide) ?_
        refine V_lv [(1, .int (nI (1 + (a0.1 0)))), (0, .ref h0)] [0, 1] rfl ?_
        exact IH1 (mkW [1 + (a0.1 0)] [(a0.2.1 0), (a0.2.1 1)] [] [] [] []) (show 1 + (a0.1 0) ≤ 4000 by omega) (by show 100000 - (1 + (a0.1 0)) < 100000 - (a0.1 0); omega)
      ·
        have x14 := x_nlt kk12
        rw [nI_toInt (show (gN f0 2718) < 2 ^ 31 by omega)] at x14
        refine V_aload_n 39 B dX12_areTargetsThere_39 1 rfl ?_
        refine V_iconst 40 B (v := 5) dX12_areTargetsThere_40 (by decide +kernel) ?_
        refine V_cvi 41 B (st := []) (As := [.int 5]) (fun sz => rX12_fail l D Y h0 h1 h2 h3 h4 h5 h6 p2 k5 k6 (a0.2.1 0) (a0.2.1 1) p9 k10 p11 q12 k15 k16 f0 f1 f3 f4 f13 f14 ph HI (by omega) HP 5 sz) glV_RX12_291 ⟨rfl, rfl⟩ ⟨(Nat.le_of_ble_eq_true rfl), (Nat.le_of_ble_eq_true rfl)⟩ ⟨(Nat.le_of_ble_eq_true rfl), (Nat.le_of_ble_eq_true rfl)⟩ [0, 0, 0, 0, 0, 0, 0] rfl 13 0 rfl rfl rfl rfl (Nat.le_of_ble_eq_true rfl) rfl (fun _ _ _ => rfl) dX12_areTargetsThere_41 (fun j15 u16 w17 => ?_)
        refine V_ws [(h0, oC 13 [.ref h1, .ref h2, .int p2, .ref h3, .ref h4, .int (nI k5), .int (nI k6), .int (u16.2.1 0), .int (u16.2.1 1), .int p9, .int (nI k10), .int p11, .long q12, .ref h5, .ref h6, .int (nI k15), .int (nI k16)]), (h1, aI Y 3640 f0), (h2, aZ Y 2 f1), (h3, aZ Y 80 f3), (h4, aB Y 1600 f4), (h5, aI Y 200 f13), (h6, aI Y 800 f14)] rfl ?_
        have x18 := w17
        clear w17
        obtain rfl := x18
        exact V_zret 44 B rfl dX12_areTargetsThere_44 (mkW [] [(u16.2.1 0), (u16.2.1 1)] [] [] [] []) (Or.inl rfl) rfl)
theorem dX12_load_0 : decode cX12_load 0 = .ok (.aload_n 0, 1) := by decide +kernel
theorem dX12_load_1 : decode cX12_load 1 = .ok (.iconst 0, 1) := by decide +kernel
theorem dX12_load_2 : decode cX12_load 2 = .ok (.putfield 38, 3) := by decide +kernel
theorem dX12_load_5 : decode cX12_load 5 = .ok (.aload_n 0, 1) := by decide +kernel
theorem dX12_load_6 : decode cX12_load 6 = .ok (.iconst 3, 1) := by decide +kernel
theorem dX12_load_7 : decode cX12_load 7 = .ok (.invokevirtual 34, 3) := by decide +kernel
theorem glV_RX12_34 : GLV RX12 34 yX12_clearBlock RX12 cX12_clearBlock 3 none 1 := ⟨⟨(mT7 133 rfl rfl), (mT7 135 rfl rfl), (mTs 27 rfl rfl), (mT1 13 rfl rfl), (mT7 136 rfl rfl)⟩, by decide +kernel⟩
theorem dX12_load_10 : decode cX12_load 10 = .ok (.aload_n 0, 1) := by decide +kernel
theorem dX12_load_11 : decode cX12_load 11 = .ok (.invokevirtual 349, 3) := by decide +kernel
theorem glV_RX12_349 : GLV RX12 349 yX12_beginText RX12 cX12_beginText 1 none 0 := ⟨⟨(mT9 193 rfl rfl), (mT9 195 rfl rfl), (mTs 72 rfl rfl), (mT1 13 rfl rfl), (mT9 196 rfl rfl)⟩, by decide +kernel⟩
theorem dX12_load_14 : decode cX12_load 14 = .ok (.iconst 1, 1) := by decide +kernel
theorem dX12_load_15 : decode cX12_load 15 = .ok (.istore_n 1, 1) := by decide +kernel
theorem dX12_load_16 : decode cX12_load 16 = .ok (.iload_n 1, 1) := by decide +kernel
theorem dX12_load_17 : decode cX12_load 17 = .ok (.ifCond .eq 18, 3) := by decide +kernel
theorem dX12_load_35 : decode cX12_load 35 = .ok (.iload_n 1, 1) := by decide +kernel
theorem dX12_load_36 : decode cX12_load 36 = .ok (.ifCond .eq 20, 3) := by decide +kernel
theorem dX12_load_56 : decode cX12_load 56 = .ok (.aload_n 0, 1) := by decide +kernel
theorem dX12_load_57 : decode cX12_load 57 = .ok (.iconst 0, 1) := by decide +kernel
theorem dX12_load_58 : decode cX12_load 58 = .ok (.putfield 240, 3) := by decide +kernel
theorem dX12_load_61 : decode cX12_load 61 = .ok (.iload_n 1, 1) := by decide +kernel
theorem dX12_load_62 : decode cX12_load 62 = .ok (.ifCond .ne 6, 3) := by decide +kernel
theorem dX12_load_65 : decode cX12_load 65 = .ok (.bipush (-3), 2) := by decide +kernel
theorem dX12_load_67 : decode cX12_load 67 = .ok (.ireturn, 1) := by decide +kernel
theorem dX12_load_20 : decode cX12_load 20 = .ok (.aload_n 0, 1) := by decide +kernel
theorem dX12_load_21 : decode cX12_load 21 = .ok (.getfield 283, 3) := by decide +kernel
theorem dX12_load_24 : decode cX12_load 24 = .ok (.ifCond .eq 11, 3) := by decide +kernel
theorem dX12_load_39 : decode cX12_load 39 = .ok (.aload_n 0, 1) := by decide +kernel
theorem dX12_load_40 : decode cX12_load 40 = .ok (.invokevirtual 355, 3) := by decide +kernel
theorem glV_RX12_355 : GLV RX12 355 yX12_areTargetsThere RX12 cX12_areTargetsThere 2 (some .boolean) 0 := ⟨⟨(mT10 50 rfl rfl), (mT10 52 rfl rfl), (mTs 91 rfl rfl), (mT1 13 rfl rfl), (mT10 53 rfl rfl)⟩, by decide +kernel⟩
theorem dX12_load_43 : decode cX12_load 43 = .ok (.ifCond .ne 13, 3) := by decide +kernel
theorem dX12_load_46 : decode cX12_load 46 = .ok (.aload_n 0, 1) := by decide +kernel
theorem dX12_load_47 : decode cX12_load 47 = .ok (.iconst 5, 1) := by decide +kernel
theorem dX12_load_48 : decode cX12_load 48 = .ok (.aload_n 0, 1) := by decide +kernel
theorem dX12_load_49 : decode cX12_load 49 = .ok (.getfield 240, 3) := by decide +kernel
theorem dX12_load_52 : decode cX12_load 52 = .ok (.invokevirtual 313, 3) := by decide +kernel
theorem dX12_load_55 : decode cX12_load 55 = .ok (.istore_n 1, 1) := by decide +kernel
theorem dX12_load_68 : decode cX12_load 68 = .ok (.aload_n 0, 1) := by decide +kernel
theorem dX12_load_69 : decode cX12_load 69 = .ok (.iconst 3, 1) := by decide +kernel
theorem dX12_load_70 : decode cX12_load 70 = .ok (.iconst 0, 1) := by decide +kernel
theorem dX12_load_71 : decode cX12_load 71 = .ok (.invokevirtual 45, 3) := by decide +kernel
theorem dX12_load_74 : decode cX12_load 74 = .ok (.aload_n 0, 1) := by decide +kernel
theorem dX12_load_75 : decode cX12_load 75 = .ok (.getfield 13, 3) := by decide +kernel
theorem dX12_load_78 : decode cX12_load 78 = .ok (.iconst 0, 1) := by decide +kernel
theorem dX12_load_79 : decode cX12_load 79 = .ok (.iconst 0, 1) := by decide +kernel
theorem dX12_load_80 : decode cX12_load 80 = .ok (.bastore, 1) := by decide +kernel
theorem dX12_load_81 : decode cX12_load 81 = .ok (.aload_n 0, 1) := by decide +kernel
theorem dX12_load_82 : decode cX12_load 82 = .ok (.getfield 13, 3) := by decide +kernel
theorem dX12_load_85 : decode cX12_load 85 = .ok (.iconst 1, 1) := by decide +kernel
theorem dX12_load_86 : decode cX12_load 86 = .ok (.iconst 0, 1) := by decide +kernel
theorem dX12_load_87 : decode cX12_load 87 = .ok (.bastore, 1) := by decide +kernel
theorem dX12_load_88 : decode cX12_load 88 = .ok (.aload_n 0, 1) := by decide +kernel
theorem dX12_load_89 : decode cX12_load 89 = .ok (.getfield 9, 3) := by decide +kernel
theorem dX12_load_92 : decode cX12_load 92 = .ok (.iconst 3, 1) := by decide +kernel
theorem dX12_load_93 : decode cX12_load 93 = .ok (.iaload, 1) := by decide +kernel
theorem dX12_load_94 : decode cX12_load 94 = .ok (.ireturn, 1) := by decide +kernel
theorem dX12_load_27 : decode cX12_load 27 = .ok (.aload_n 0, 1) := by decide +kernel
theorem dX12_load_28 : decode cX12_load 28 = .ok (.invokevirtual 352, 3) := by decide +kernel
theorem glV_RX12_352 : GLV RX12 352 yX12_readStatement RX12 cX12_readStatement 1 (some .boolean) 0 := ⟨⟨(mT9 221 rfl rfl), (mT9 223 rfl rfl), (mTs 75 rfl rfl), (mT1 13 rfl rfl), (mT9 224 rfl rfl)⟩, by decide +kernel⟩
theorem dX12_load_31 : decode cX12_load 31 = .ok (.istore_n 1, 1) := by decide +kernel
theorem dX12_load_32 : decode cX12_load 32 = .ok (.goto (-16), 3) := by decide +kernel
set_option maxRecDepth 100000 in
set_option maxHeartbeats 4000000 in
theorem rX12_load (l : Launch) (D : va_G) (Y : Nat → ClassId) (h0 : Nat) (h1 : Nat) (h2 : Nat) (h3 : Nat) (h4 : Nat) (h5 : Nat) (h6 : Nat) (p2 : Int32) (k5 : Nat) (k6 : Nat) (p7 : Int32) (p8 : Int32) (p9 : Int32) (k10 : Nat) (p11 : Int32) (q12 : Int64) (k15 : Nat) (k16 : Nat) (f0 : Nat → Int32) (f1 : Nat → Int32) (f3 : Nat → Int32) (f4 : Nat → Int32) (f13 : Nat → Int32) (f14 : Nat → Int32) (ph : Nat → Int32) (HI : INV ph f0) (HL : k5 ≤ 1600) (HP : PLV f13)  (hx0 : SN ph f1) (sz : Nat) : Met l yX12_load (WSm yX12_load cX12_load 2 (some .int)) (mkR 7 0 0 152) (PreC D Y [.ref h0] [(h0, oC 13 [.ref h1, .ref h2, .int p2, .ref h3, .ref h4, .int (nI k5), .int (nI k6), .int p7, .int p8, .int p9, .int (nI k10), .int p11, .long q12, .ref h5, .ref h6, .int (nI k15), .int (nI k16)]), (h1, aI Y 3640 f0), (h2, aZ Y 2 f1), (h3, aZ Y 80 f3), (h4, aB Y 1600 f4), (h5, aI Y 200 f13), (h6, aI Y 800 f14)] sz) (QI D (fun (r : Int32) (u : WU) => (∃ ph2 : Nat → Int32, INV ph2 (u.2.2.2.1 0) ∧ SN ph2 (u.2.2.2.1 1)) ∧ (u.1 0) ≤ 1600) (fun (u : WU) => [(h0, oC 13 [.ref h1, .ref h2, .int (u.2.1 0), .ref h3, .ref h4, .int (nI (u.1 0)), .int (nI (u.1 1)), .int (u.2.1 1), .int (u.2.1 2), .int (u.2.1 3), .int (nI (u.1 2)), .int (u.2.1 4), .long (u.2.2.1 0), .ref h5, .ref h6, .int (nI k15), .int (nI k16)]), (h1, aI Y 3640 (u.2.2.2.1 0)), (h2, aZ Y 2 (u.2.2.2.1 1)), (h3, aZ Y 80 f3), (h4, aB Y 1600 f4), (h5, aI Y 200 f13), (h6, aI Y 800 f14)]) (va_A [(h0, oC 13 [.ref h1, .ref h2, .int p2, .ref h3, .ref h4, .int (nI k5), .int (nI k6), .int p7, .int p8, .int p9, .int (nI k10), .int p11, .long q12, .ref h5, .ref h6, .int (nI k15), .int (nI k16)]), (h1, aI Y 3640 f0), (h2, aZ Y 2 f1), (h3, aZ Y 80 f3), (h4, aB Y 1600 f4), (h5, aI Y 200 f13), (h6, aI Y 800 f14)] sz)) 0 0 (va_A [(h0, oC 13 [.ref h1, .ref h2, .int p2, .ref h3, .ref h4, .int (nI k5), .int (nI k6), .int p7, .int p8, .int p9, .int (nI k10), .int p11, .long q12, .ref h5, .ref h6, .int (nI k15), .int (nI k16)]), (h1, aI Y 3640 f0), (h2, aZ Y 2 f1), (h3, aZ Y 80 f3), (h4, aB Y 1600 f4), (h5, aI Y 200 f13), (h6, aI Y 800 f14)] sz) :=
  met_of  (by decide +kernel) (Nat.le_of_ble_eq_true rfl) (fun p e s m args below meth c B hin hsz => by
    have B : VB p s m args meth c D Y (va_A [(h0, oC 13 [.ref h1, .ref h2, .int p2, .ref h3, .ref h4, .int (nI k5), .int (nI k6), .int p7, .int p8, .int p9, .int (nI k10), .int p11, .long q12, .ref h5, .ref h6, .int (nI k15), .int (nI k16)]), (h1, aI Y 3640 f0), (h2, aZ Y 2 f1), (h3, aZ Y 80 f3), (h4, aB Y 1600 f4), (h5, aI Y 200 f13), (h6, aI Y 800 f14)] sz) cX12_load 2 RX12 (some .int) := B
    refine V_aload_n 0 B dX12_load_0 0 rfl ?_
    refine V_iconst 1 B (v := 0) dX12_load_1 (by decide +kernel) ?_
    refine V_put 2 B gp_RX12_38 0 rfl (Nat.le_of_ble_eq_true rfl) rfl rfl dX12_load_2 [(h0, oC 13 [.ref h1, .ref h2, .int 0, .ref h3, .ref h4, .int (nI k5), .int (nI k6), .int p7, .int p8, .int p9, .int (nI k10), .int p11, .long q12, .ref h5, .ref h6, .int (nI k15), .int (nI k16)]), (h1, aI Y 3640 f0), (h2, aZ Y 2 f1), (h3, aZ Y 80 f3), (h4, aB Y 1600 f4), (h5, aI Y 200 f13), (h6, aI Y 800 f14)] rfl ?_
    refine V_aload_n 5 B dX12_load_5 0 rfl ?_
    refine V_iconst 6 B (v := 3) dX12_load_6 (by decide +kernel) ?_
    refine V_cvv 7 B (st := []) (As := [.int (nI 3)]) (fun sz => mX12_clearBlock_m l D Y h0 h1 (.ref h2) (.int 0) (.ref h3) (.ref h4) (.int (nI k5)) (.int (nI k6)) (.int p7) (.int p8) (.int p9) (.int (nI k10)) (.int p11) (.long q12) (.ref h5) (.ref h6) (.int (nI k15)) (.int (nI k16)) f0 3 (by omega) sz) glV_RX12_34 ⟨rfl, rfl⟩ ⟨(Nat.le_of_ble_eq_true rfl), (Nat.le_of_ble_eq_true rfl)⟩ ⟨(Nat.le_of_ble_eq_true rfl), (Nat.le_of_ble_eq_true rfl)⟩ [0, 0] rfl 13 0 rfl rfl rfl rfl (Nat.le_of_ble_eq_true rfl) rfl (fun _ _ => rfl) dX12_load_7 (fun u0 w1 => ?_)
    have x2 : INV (upd ph 2734 (-1)) (clB 3 f0) := INV_clB HI
    refine V_ws [(h0, oC 13 [.ref h1, .ref h2, .int 0, .ref h3, .ref h4, .int (nI k5), .int (nI k6), .int p7, .int p8, .int p9, .int (nI k10), .int p11, .long q12, .ref h5, .ref h6, .int (nI k15), .int (nI k16)]), (h1, aI Y 3640 (clB 3 f0)), (h2, aZ Y 2 f1), (h3, aZ Y 80 f3), (h4, aB Y 1600 f4), (h5, aI Y 200 f13), (h6, aI Y 800 f14)] rfl ?_
    refine V_aload_n 10 B dX12_load_10 0 rfl ?_
    refine V_cvv 11 B (st := []) (As := []) (fun sz => rX12_beginText l D Y h0 h1 h2 h3 h4 h5 h6 0 k5 k6 p7 p8 p9 k10 p11 q12 k15 k16 (clB 3 f0) f1 f3 f4 f13 f14 (upd ph 2734 (-1)) x2 (by omega) HP sz) glV_RX12_349 ⟨rfl, rfl⟩ ⟨(Nat.le_of_ble_eq_true rfl), (Nat.le_of_ble_eq_true rfl)⟩ ⟨(Nat.le_of_ble_eq_true rfl), (Nat.le_of_ble_eq_true rfl)⟩ [0, 0, 0, 0, 0, 0, 0] rfl 13 0 rfl rfl rfl rfl (Nat.le_of_ble_eq_true rfl) rfl (fun _ _ => rfl) dX12_load_11 (fun u4 w5 => ?_)
    refine V_ws [(h0, oC 13 [.ref h1, .ref h2, .int 0, .ref h3, .ref h4, .int (nI k5), .int (nI (u4.1 0)), .int (u4.2.1 0), .int (u4.2.1 1), .int (u4.2.1 2), .int (nI (u4.1 1)), .int p11, .long (u4.2.2.1 0), .ref h5, .ref h6, .int (nI k15), .int (nI k16)]), (h1, aI Y 3640 (clB 3 f0)), (h2, aZ Y 2 f1), (h3, aZ Y 80 f3), (h4, aB Y 1600 f4), (h5, aI Y 200 f13), (h6, aI Y 800 f14)] rfl ?_
    obtain ⟨x6, x7, x8⟩ := w5
    refine V_iconst 14 B (v := 1) dX12_load_14 (by decide +kernel) ?_
    refine V_istore_n 15 B (lv2 := [(1, .int 1), (0, .ref h0)]) dX12_load_15 (by decide) rfl ?_
    refine V_wloop (α := WU) (fun a => ldM (a.2.1 0) (a.1 1)) (fun a => INV (upd ph 2734 (-1)) (a.2.2.2.1 0) ∧ ((a.2.1 0) = 0 ∨ (a.2.1 0) = 1) ∧ ((a.1 1) ≤ (a.1 0) ∧ (a.1 0) ≤ k5 ∧ ((a.2.1 3) = 0 ∨ (a.1 1) < (a.1 0)))) (fun a => [(1, .int (a.2.1 0)), (0, .ref h0)]) (fun a => [(h0, oC 13 [.ref h1, .ref h2, .int 0, .ref h3, .ref h4, .int (nI k5), .int (nI (a.1 0)), .int (a.2.1 1), .int (a.2.1 2), .int (a.2.1 3), .int (nI (a.1 1)), .int (a.2.1 4), .long (a.2.2.1 0), .ref h5, .ref h6, .int (nI k15), .int (nI k16)]), (h1, aI Y 3640 (a.2.2.2.1 0)), (h2, aZ Y 2 f1), (h3, aZ Y 80 f3), (h4, aB Y 1600 f4), (h5, aI Y 200 f13), (h6, aI Y 800 f14)]) (mkW [(u4.1 0), (u4.1 1)] [1, (u4.2.1 0), (u4.2.1 1), (u4.2.1 2), p11] [(u4.2.2.1 0)] [(clB 3 f0)] [] []) ⟨x2, (Or.inr rfl), ⟨(show (u4.1 1) ≤ (u4.1 0) by omega), (show (u4.1 0) ≤ k5 by omega), (show ((u4.2.1 2) = 0 ∨ (u4.1 1) < (u4.1 0)) by first | assumption | exact Or.inr (by omega))⟩⟩ rfl rfl (fun a9 hI11 IH10 => ?_)
    refine V_lv [(1, .int (a9.2.1 0)), (0, .ref h0)] [0, 1] rfl ?_
    refine V_ws [(h0, oC 13 [.ref h1, .ref h2, .int 0, .ref h3, .ref h4, .int (nI k5), .int (nI (a9.1 0)), .int (a9.2.1 1), .int (a9.2.1 2), .int (a9.2.1 3), .int (nI (a9.1 1)), .int (a9.2.1 4), .long (a9.2.2.1 0), .ref h5, .ref h6, .int (nI k15), .int (nI k16)]), (h1, aI Y 3640 (a9.2.2.2.1 0)), (h2, aZ Y 2 f1), (h3, aZ Y 80 f3), (h4, aB Y 1600 f4), (h5, aI Y 200 f13), (h6, aI Y 800 f14)] rfl ?_
    obtain ⟨x12, x13, x14⟩ := hI11
    obtain ⟨x15, x16, x17⟩ := x14
    rcases x13 with e18 | e18
    ·
      refine V_lv [(1, .int 0), (0, .ref h0)] [0, 1] (by rw [e18]; rfl) ?_
      refine V_iload_n 16 B dX12_load_16 0 rfl ?_
      refine V_if_eq_t 17 B 35 dX12_load_17 (by decide) (by decide +kernel) ?_
      refine V_iload_n 35 B dX12_load_35 0 rfl ?_
      refine V_if_eq_t 36 B 56 dX12_load_36 (by decide) (by decide +kernel) ?_
      refine V_aload_n 56 B dX12_load_56 1 rfl ?_
      refine V_iconst 57 B (v := 0) dX12_load_57 (by decide +kernel) ?_
      refine V_put 58 B gp_RX12_240 0 rfl (Nat.le_of_ble_eq_true rfl) rfl rfl dX12_load_58 [(h0, oC 13 [.ref h1, .ref h2, .int 0, .ref h3, .ref h4, .int 0, .int (nI (a9.1 0)), .int (a9.2.1 1), .int (a9.2.1 2), .int (a9.2.1 3), .int (nI (a9.1 1)), .int (a9.2.1 4), .long (a9.2.2.1 0), .ref h5, .ref h6, .int (nI k15), .int (nI k16)]), (h1, aI Y 3640 (a9.2.2.2.1 0)), (h2, aZ Y 2 f1), (h3, aZ Y 80 f3), (h4, aB Y 1600 f4), (h5, aI Y 200 f13), (h6, aI Y 800 f14)] rfl ?_
      refine V_iload_n 61 B dX12_load_61 0 rfl ?_
      refine V_if_ne_f 62 B 68 dX12_load_62 (by decide) (by decide +kernel) ?_
      refine V_bipush 65 B (v := (-3)) dX12_load_65 (by decide +kernel) ?_
      exact V_iret 67 B dX12_load_67 (mkW [0, (a9.1 0), (a9.1 1)] [0, (a9.2.1 1), (a9.2.1 2), (a9.2.1 3), (a9.2.1 4)] [(a9.2.2.1 0)] [(a9.2.2.2.1 0), f1] [] []) ⟨⟨(upd ph 2734 (-1)), x12, (SN_cl hx0)⟩, (show 0 ≤ 1600 by omega)⟩ rfl
    ·
      refine V_lv [(1, .int 1), (0, .ref h0)] [0, 1] (by rw [e18]; rfl) ?_
      refine V_iload_n 16 B dX12_load_16 0 rfl ?_
      refine V_if_eq_f 17 B 35 dX12_load_17 (by decide) (by decide +kernel) ?_
      refine V_aload_n 20 B dX12_load_20 1 rfl ?_
      refine V_get 21 B gf_RX12_283 0 rfl rfl dX12_load_21 ?_
      refine V_if_eq 24 B 35 dX12_load_24 (by decide) (fun kk19 => ?_) (fun kk19 => ?_)
      ·
        have x20 := x_eq kk19
        rw [show (0 : Int32).toInt = 0 by decide +kernel] at x20
        refine V_iload_n 35 B dX12_load_35 0 rfl ?_
        refine V_if_eq_f 36 B 56 dX12_load_36 (by decide) (by decide +kernel) ?_
        refine V_aload_n 39 B dX12_load_39 1 rfl ?_
        refine V_cvi 40 B (st := []) (As := []) (fun sz => rX12_areTargetsThere l D Y h0 h1 h2 h3 h4 h5 h6 0 k5 (a9.1 0) (a9.2.1 1) (a9.2.1 2) (a9.2.1 3) (a9.1 1) (a9.2.1 4) (a9.2.2.1 0) k15 k16 (a9.2.2.2.1 0) f1 f3 f4 f13 f14 (upd ph 2734 (-1)) x12 (by omega) HP sz) glV_RX12_355 ⟨rfl, rfl⟩ ⟨(Nat.le_of_ble_eq_true rfl), (Nat.le_of_ble_eq_true rfl)⟩ ⟨(Nat.le_of_ble_eq_true rfl), (Nat.le_of_ble_eq_true rfl)⟩ [0, 0, 0, 0, 0, 0, 0] rfl 13 0 rfl rfl rfl rfl (Nat.le_of_ble_eq_true rfl) rfl (fun _ _ _ => rfl) dX12_load_40 (fun j21 u22 w23 => ?_)
        refine V_ws [(h0, oC 13 [.ref h1, .ref h2, .int 0, .ref h3, .ref h4, .int (nI k5), .int (nI (a9.1 0)), .int (u22.2.1 0), .int (u22.2.1 1), .int (a9.2.1 3), .int (nI (a9.1 1)), .int (a9.2.1 4), .long (a9.2.2.1 0), .ref h5, .ref h6, .int (nI k15), .int (nI k16)]), (h1, aI Y 3640 (a9.2.2.2.1 0)), (h2, aZ Y 2 f1), (h3, aZ Y 80 f3), (h4, aB Y 1600 f4), (h5, aI Y 200 f13), (h6, aI Y 800 f14)] rfl ?_
        have x24 := w23
        clear w23
        rcases x24 with rfl | rfl
        ·
          refine V_if_ne_f 43 B 56 dX12_load_43 (by decide) (by decide +kernel) ?_
          refine V_aload_n 46 B dX12_load_46 1 rfl ?_
          refine V_iconst 47 B (v := 5) dX12_load_47 (by decide +kernel) ?_
          refine V_aload_n 48 B dX12_load_48 1 rfl ?_
          refine V_get 49 B gf_RX12_240 0 rfl rfl dX12_load_49 ?_
          refine V_cvi 52 B (st := []) (As := [.int 5, .int (nI k5)]) (fun sz => rX12_failAt l D Y h0 h1 h2 h3 h4 h5 h6 0 k5 (a9.1 0) (u22.2.1 0) (u22.2.1 1) (a9.2.1 3) (a9.1 1) (a9.2.1 4) (a9.2.2.1 0) k15 k16 (a9.2.2.2.1 0) f1 f3 f4 f13 f14 (upd ph 2734 (-1)) x12 (by omega) HP 5 (nI k5) sz) glV_RX12_313 ⟨rfl, rfl⟩ ⟨(Nat.le_of_ble_eq_true rfl), (Nat.le_of_ble_eq_true rfl)⟩ ⟨(Nat.le_of_ble_eq_true rfl), (Nat.le_of_ble_eq_true rfl)⟩ [0, 0, 0, 0, 0, 0, 0] rfl 13 0 rfl rfl rfl rfl (Nat.le_of_ble_eq_true rfl) rfl (fun _ _ _ => rfl) dX12_load_52 (fun j25 u26 w27 => ?_)
          refine V_ws [(h0, oC 13 [.ref h1, .ref h2, .int 0, .ref h3, .ref h4, .int (nI k5), .int (nI (a9.1 0)), .int (u26.2.1 0), .int (u26.2.1 1), .int (a9.2.1 3), .int (nI (a9.1 1)), .int (a9.2.1 4), .long (a9.2.2.1 0), .ref h5, .ref h6, .int (nI k15), .int (nI k16)]), (h1, aI Y 3640 (a9.2.2.2.1 0)), (h2, aZ Y 2 f1), (h3, aZ Y 80 f3), (h4, aB Y 1600 f4), (h5, aI Y 200 f13), (h6, aI Y 800 f14)] rfl ?_
          have x28 := w27
          clear w27
          obtain rfl := x28
          refine V_istore_n 55 B (lv2 := [(1, .int 0), (0, .ref h0)]) dX12_load_55 (by decide) rfl ?_
          refine V_aload_n 56 B dX12_load_56 1 rfl ?_
          refine V_iconst 57 B (v := 0) dX12_load_57 (by decide +kernel) ?_
          refine V_put 58 B gp_RX12_240 0 rfl (Nat.le_of_ble_eq_true rfl) rfl rfl dX12_load_58 [(h0, oC 13 [.ref h1, .ref h2, .int 0, .ref h3, .ref h4, .int 0, .int (nI (a9.1 0)), .int (u26.2.1 0), .int (u26.2.1 1), .int (a9.2.1 3), .int (nI (a9.1 1)), .int (a9.2.1 4), .long (a9.2.2.1 0), .ref h5, .ref h6, .int (nI k15), .int (nI k16)]), (h1, aI Y 3640 (a9.2.2.2.1 0)), (h2, aZ Y 2 f1), (h3, aZ Y 80 f3), (h4, aB Y 1600 f4), (h5, aI Y 200 f13), (h6, aI Y 800 f14)] rfl ?_
          refine V_iload_n 61 B dX12_load_61 0 rfl ?_
          refine V_if_ne_f 62 B 68 dX12_load_62 (by decide) (by decide +kernel) ?_
          refine V_bipush 65 B (v := (-3)) dX12_load_65 (by decide +kernel) ?_
          exact V_iret 67 B dX12_load_67 (mkW [0, (a9.1 0), (a9.1 1)] [0, (u26.2.1 0), (u26.2.1 1), (a9.2.1 3), (a9.2.1 4)] [(a9.2.2.1 0)] [(a9.2.2.2.1 0), f1] [] []) ⟨⟨(upd ph 2734 (-1)), x12, (SN_cl hx0)⟩, (show 0 ≤ 1600 by omega)⟩ rfl
        ·
          refine V_if_ne_t 43 B 56 dX12_load_43 (by decide) (by decide +kernel) ?_
          refine V_aload_n 56 B dX12_load_56 1 rfl ?_
          refine V_iconst 57 B (v := 0) dX12_load_57 (by decide +kernel) ?_
          refine V_put 58 B gp_RX12_240 0 rfl (Nat.le_of_ble_eq_true rfl) rfl rfl dX12_load_58 [(h0, oC 13 [.ref h1, .ref h2, .int 0, .ref h3, .ref h4, .int 0, .int (nI (a9.1 0)), .int (u22.2.1 0), .int (u22.2.1 1), .int (a9.2.1 3), .int (nI (a9.1 1)), .int (a9.2.1 4), .long (a9.2.2.1 0), .ref h5, .ref h6, .int (nI k15), .int (nI k16)]), (h1, aI Y 3640 (a9.2.2.2.1 0)), (h2, aZ Y 2 f1), (h3, aZ Y 80 f3), (h4, aB Y 1600 f4), (h5, aI Y 200 f13), (h6, aI Y 800 f14)] rfl ?_
          refine V_iload_n 61 B dX12_load_61 0 rfl ?_
          refine V_if_ne_t 62 B 68 dX12_load_62 (by decide) (by decide +kernel) ?_
          refine V_aload_n 68 B dX12_load_68 1 rfl ?_
          refine V_iconst 69 B (v := 3) dX12_load_69 (by decide +kernel) ?_
          refine V_iconst 70 B (v := 0) dX12_load_70 (by decide +kernel) ?_
          refine V_cvv 71 B (st := []) (As := [.int (nI 3), .int (nI 0)]) (fun sz => mX12_copyBlock_m l D Y h0 h1 (.ref h2) (.int 0) (.ref h3) (.ref h4) (.int 0) (.int (nI (a9.1 0))) (.int (u22.2.1 0)) (.int (u22.2.1 1)) (.int (a9.2.1 3)) (.int (nI (a9.1 1))) (.int (a9.2.1 4)) (.long (a9.2.2.1 0)) (.ref h5) (.ref h6) (.int (nI k15)) (.int (nI k16)) (a9.2.2.2.1 0) 3 0 (by omega) (by omega) (by omega) sz) glV_RX12_45 ⟨rfl, rfl⟩ ⟨(Nat.le_of_ble_eq_true rfl), (Nat.le_of_ble_eq_true rfl)⟩ ⟨(Nat.le_of_ble_eq_true rfl), (Nat.le_of_ble_eq_true rfl)⟩ [0, 0] rfl 13 0 rfl rfl rfl rfl (Nat.le_of_ble_eq_true rfl) rfl (fun _ _ => rfl) dX12_load_71 (fun u29 w30 => ?_)
          have x31 : INV (upd ph 2734 (-1)) (cpB 3 0 906 (a9.2.2.2.1 0)) := INV_cpR x12 (by omega) (by omega) upd_at
          refine V_ws [(h0, oC 13 [.ref h1, .ref h2, .int 0, .ref h3, .ref h4, .int 0, .int (nI (a9.1 0)), .int (u22.2.1 0), .int (u22.2.1 1), .int (a9.2.1 3), .int (nI (a9.1 1)), .int (a9.2.1 4), .long (a9.2.2.1 0), .ref h5, .ref h6, .int (nI k15), .int (nI k16)]), (h1, aI Y 3640 (cpB 3 0 906 (a9.2.2.2.1 0))), (h2, aZ Y 2 f1), (h3, aZ Y 80 f3), (h4, aB Y 1600 f4), (h5, aI Y 200 f13), (h6, aI Y 800 f14)] rfl ?_
          refine V_aload_n 74 B dX12_load_74 1 rfl ?_
          refine V_get 75 B gf_RX12_13 0 rfl rfl dX12_load_75 ?_
          refine V_iconst 78 B (v := 0) dX12_load_78 (by decide +kernel) ?_
          refine V_iconst 79 B (v := 0) dX12_load_79 (by decide +kernel) ?_
          refine V_zast 80 B 2 rfl (vpin _ _ (by decide +kernel)) dX12_load_80 [(h0, oC 13 [.ref h1, .ref h2, .int 0, .ref h3, .ref h4, .int 0, .int (nI (a9.1 0)), .int (u22.2.1 0), .int (u22.2.1 1), .int (a9.2.1 3), .int (nI (a9.1 1)), .int (a9.2.1 4), .long (a9.2.2.1 0), .ref h5, .ref h6, .int (nI k15), .int (nI k16)]), (h1, aI Y 3640 (cpB 3 0 906 (a9.2.2.2.1 0))), (h2, aZ Y 2 (upd f1 0 (vp_nar .boolean 0))), (h3, aZ Y 80 f3), (h4, aB Y 1600 f4), (h5, aI Y 200 f13), (h6, aI Y 800 f14)] rfl ?_
          refine V_aload_n 81 B dX12_load_81 1 rfl ?_
          refine V_get 82 B gf_RX12_13 0 rfl rfl dX12_load_82 ?_
          refine V_iconst 85 B (v := 1) dX12_load_85 (by decide +kernel) ?_
          refine V_iconst 86 B (v := 0) dX12_load_86 (by decide +kernel) ?_
          refine V_zast 87 B 2 rfl (vpin _ _ (by decide +kernel)) dX12_load_87 [(h0, oC 13 [.ref h1, .ref h2, .int 0, .ref h3, .ref h4, .int 0, .int (nI (a9.1 0)), .int (u22.2.1 0), .int (u22.2.1 1), .int (a9.2.1 3), .int (nI (a9.1 1)), .int (a9.2.1 4), .long (a9.2.2.1 0), .ref h5, .ref h6, .int (nI k15), .int (nI k16)]), (h1, aI Y 3640 (cpB 3 0 906 (a9.2.2.2.1 0))), (h2, aZ Y 2 (upd (upd f1 0 (vp_nar .boolean 0)) 1 (vp_nar .boolean 0))), (h3, aZ Y 80 f3), (h4, aB Y 1600 f4), (h5, aI Y 200 f13), (h6, aI Y 800 f14)] rfl ?_
          refine V_aload_n 88 B dX12_load_88 1 rfl ?_
          refine V_get 89 B gf_RX12_9 0 rfl rfl dX12_load_89 ?_
          refine V_iconst 92 B (v := 3) dX12_load_92 (by decide +kernel) ?_
          have x32 : (gN (cpB 3 0 906 (a9.2.2.2.1 0)) 3) ≤ 80 := gN_le x31 (by omega) (show bd 3 = (0, ((80 : Nat) : Int)) by decide +kernel)
          refine V_iald 93 B (v := (nI ((gN (cpB 3 0 906 (a9.2.2.2.1 0)) 3)))) 1 rfl (vpin _ _ (by decide +kernel)) dX12_load_93 (by show (cpB 3 0 906 (a9.2.2.2.1 0)) 3 = _; exact gN_eq x31 (by omega) (show bd 3 = (0, ((80 : Nat) : Int)) by decide +kernel)) ?_
          exact V_iret 94 B dX12_load_94 (mkW [0, (a9.1 0), (a9.1 1)] [0, (u22.2.1 0), (u22.2.1 1), (a9.2.1 3), (a9.2.1 4)] [(a9.2.2.1 0)] [(cpB 3 0 906 (a9.2.2.2.1 0)), (upd (upd f1 0 (vp_nar .boolean 0)) 1 (vp_nar .boolean 0))] [] []) ⟨⟨(upd ph 2734 (-1)), x31, SN_no⟩, (show 0 ≤ 1600 by omega)⟩ rfl
      ·
        have x33 := x_ne kk19
        rw [show (0 : Int32).toInt = 0 by decide +kernel] at x33
        have x34 : (a9.1 1) < (a9.1 0) := by
          rcases x17 with z | z
          · first | contradiction | exact absurd z (by decide) | omega
          · exact z
        refine V_aload_n 27 B dX12_load_27 1 rfl ?_
        refine V_cvi 28 B (st := []) (As := []) (fun sz => rX12_readStatement l D Y h0 h1 h2 h3 h4 h5 h6 0 k5 (a9.1 0) (a9.2.1 1) (a9.2.1 2) (a9.2.1 3) (a9.1 1) (a9.2.1 4) (a9.2.2.1 0) k15 k16 (a9.2.2.2.1 0) f1 f3 f4 f13 f14 (upd ph 2734 (-1)) x12 (by omega) HP (by omega) (by omega) (by first | assumption | exact Or.inl rfl | exact Or.inr (by omega)) (by omega) sz) glV_RX12_352 ⟨rfl, rfl⟩ ⟨(Nat.le_of_ble_eq_true rfl), (Nat.le_of_ble_eq_true rfl)⟩ ⟨(Nat.le_of_ble_eq_true rfl), (Nat.le_of_ble_eq_true rfl)⟩ [0, 0, 0, 0, 0, 0, 0] rfl 13 0 rfl rfl rfl rfl (Nat.le_of_ble_eq_true rfl) rfl (fun _ _ _ => rfl) dX12_load_28 (fun j35 u36 w37 => ?_)
        refine V_ws [(h0, oC 13 [.ref h1, .ref h2, .int 0, .ref h3, .ref h4, .int (nI k5), .int (nI (u36.1 0)), .int (u36.2.1 0), .int (u36.2.1 1), .int (u36.2.1 2), .int (nI (u36.1 1)), .int (u36.2.1 3), .long (u36.2.2.1 0), .ref h5, .ref h6, .int (nI k15), .int (nI k16)]), (h1, aI Y 3640 (u36.2.2.2.1 0)), (h2, aZ Y 2 f1), (h3, aZ Y 80 f3), (h4, aB Y 1600 f4), (h5, aI Y 200 f13), (h6, aI Y 800 f14)] rfl ?_
        obtain ⟨x38, x39, x40, x41, x42, x43⟩ := w37
        rcases x38 with rfl | ⟨rfl, x44⟩
        ·
          refine V_istore_n 31 B (lv2 := [(1, .int 0), (0, .ref h0)]) dX12_load_31 (by decide) rfl ?_
          refine V_goto 32 B 16 dX12_load_32 (by decide) ?_
          refine V_lv [(1, .int 0), (0, .ref h0)] [0, 1] rfl ?_
          exact IH10 (mkW [(u36.1 0), (u36.1 1)] [0, (u36.2.1 0), (u36.2.1 1), (u36.2.1 2), (u36.2.1 3)] [(u36.2.2.1 0)] [(u36.2.2.2.1 0)] [] []) ⟨x39, (Or.inl rfl), ⟨(show (u36.1 1) ≤ (u36.1 0) by omega), (show (u36.1 0) ≤ k5 by omega), (show ((u36.2.1 2) = 0 ∨ (u36.1 1) < (u36.1 0)) by first | assumption | exact Or.inr (by omega))⟩⟩ (ld0 e18)
        ·
          refine V_istore_n 31 B (lv2 := [(1, .int 1), (0, .ref h0)]) dX12_load_31 (by decide) rfl ?_
          refine V_goto 32 B 16 dX12_load_32 (by decide) ?_
          refine V_lv [(1, .int 1), (0, .ref h0)] [0, 1] rfl ?_
          exact IH10 (mkW [(u36.1 0), (u36.1 1)] [1, (u36.2.1 0), (u36.2.1 1), (u36.2.1 2), (u36.2.1 3)] [(u36.2.2.1 0)] [(u36.2.2.2.1 0)] [] []) ⟨x39, (Or.inr rfl), ⟨(show (u36.1 1) ≤ (u36.1 0) by omega), (show (u36.1 0) ≤ k5 by omega), (show ((u36.2.1 2) = 0 ∨ (u36.1 1) < (u36.1 0)) by first | assumption | exact Or.inr (by omega))⟩⟩ (ld1 (s := (a9.1 1)) (t := (u36.1 1)) e18 (by omega) (by omega)))
theorem dX12_commandHere_0 : decode cX12_commandHere 0 = .ok (.aload_n 0, 1) := by decide +kernel
theorem dX12_commandHere_1 : decode cX12_commandHere 1 = .ok (.bipush 112, 2) := by decide +kernel
theorem dX12_commandHere_3 : decode cX12_commandHere 3 = .ok (.bipush 114, 2) := by decide +kernel
theorem dX12_commandHere_5 : decode cX12_commandHere 5 = .ok (.bipush 101, 2) := by decide +kernel
theorem dX12_commandHere_7 : decode cX12_commandHere 7 = .ok (.bipush 115, 2) := by decide +kernel
theorem dX12_commandHere_9 : decode cX12_commandHere 9 = .ok (.bipush 115, 2) := by decide +kernel
theorem dX12_commandHere_11 : decode cX12_commandHere 11 = .ok (.iconst 0, 1) := by decide +kernel
theorem dX12_commandHere_12 : decode cX12_commandHere 12 = .ok (.invokestatic 319, 3) := by decide +kernel
theorem dX12_commandHere_15 : decode cX12_commandHere 15 = .ok (.invokevirtual 323, 3) := by decide +kernel
theorem dX12_commandHere_18 : decode cX12_commandHere 18 = .ok (.ifCond .eq 5, 3) := by decide +kernel
theorem dX12_commandHere_23 : decode cX12_commandHere 23 = .ok (.aload_n 0, 1) := by decide +kernel
theorem dX12_commandHere_24 : decode cX12_commandHere 24 = .ok (.bipush 114, 2) := by decide +kernel
theorem dX12_commandHere_26 : decode cX12_commandHere 26 = .ok (.bipush 101, 2) := by decide +kernel
theorem dX12_commandHere_28 : decode cX12_commandHere 28 = .ok (.bipush 108, 2) := by decide +kernel
theorem dX12_commandHere_30 : decode cX12_commandHere 30 = .ok (.bipush 101, 2) := by decide +kernel
theorem dX12_commandHere_32 : decode cX12_commandHere 32 = .ok (.bipush 97, 2) := by decide +kernel
theorem dX12_commandHere_34 : decode cX12_commandHere 34 = .ok (.bipush 115, 2) := by decide +kernel
theorem dX12_commandHere_36 : decode cX12_commandHere 36 = .ok (.invokestatic 319, 3) := by decide +kernel
theorem dX12_commandHere_39 : decode cX12_commandHere 39 = .ok (.bipush 7, 2) := by decide +kernel
theorem dX12_commandHere_41 : decode cX12_commandHere 41 = .ok (.lshl, 1) := by decide +kernel
theorem dX12_commandHere_42 : decode cX12_commandHere 42 = .ok (.ldc2_w 333, 3) := by decide +kernel
theorem dX12_commandHere_45 : decode cX12_commandHere 45 = .ok (.lor, 1) := by decide +kernel
theorem dX12_commandHere_46 : decode cX12_commandHere 46 = .ok (.invokevirtual 323, 3) := by decide +kernel
theorem dX12_commandHere_49 : decode cX12_commandHere 49 = .ok (.ifCond .eq 5, 3) := by decide +kernel
theorem dX12_commandHere_54 : decode cX12_commandHere 54 = .ok (.aload_n 0, 1) := by decide +kernel
theorem dX12_commandHere_55 : decode cX12_commandHere 55 = .ok (.bipush 104, 2) := by decide +kernel
theorem dX12_commandHere_57 : decode cX12_commandHere 57 = .ok (.bipush 111, 2) := by decide +kernel
theorem dX12_commandHere_59 : decode cX12_commandHere 59 = .ok (.bipush 108, 2) := by decide +kernel
theorem dX12_commandHere_61 : decode cX12_commandHere 61 = .ok (.bipush 100, 2) := by decide +kernel
theorem dX12_commandHere_63 : decode cX12_commandHere 63 = .ok (.iconst 0, 1) := by decide +kernel
theorem dX12_commandHere_64 : decode cX12_commandHere 64 = .ok (.iconst 0, 1) := by decide +kernel
theorem dX12_commandHere_65 : decode cX12_commandHere 65 = .ok (.invokestatic 319, 3) := by decide +kernel
theorem dX12_commandHere_68 : decode cX12_commandHere 68 = .ok (.invokevirtual 323, 3) := by decide +kernel
theorem dX12_commandHere_71 : decode cX12_commandHere 71 = .ok (.ifCond .eq 5, 3) := by decide +kernel
theorem dX12_commandHere_76 : decode cX12_commandHere 76 = .ok (.aload_n 0, 1) := by decide +kernel
theorem dX12_commandHere_77 : decode cX12_commandHere 77 = .ok (.bipush 116, 2) := by decide +kernel
theorem dX12_commandHere_79 : decode cX12_commandHere 79 = .ok (.bipush 105, 2) := by decide +kernel
theorem dX12_commandHere_81 : decode cX12_commandHere 81 = .ok (.bipush 99, 2) := by decide +kernel
theorem dX12_commandHere_83 : decode cX12_commandHere 83 = .ok (.bipush 107, 2) := by decide +kernel
theorem dX12_commandHere_85 : decode cX12_commandHere 85 = .ok (.iconst 0, 1) := by decide +kernel
theorem dX12_commandHere_86 : decode cX12_commandHere 86 = .ok (.iconst 0, 1) := by decide +kernel
theorem dX12_commandHere_87 : decode cX12_commandHere 87 = .ok (.invokestatic 319, 3) := by decide +kernel
theorem dX12_commandHere_90 : decode cX12_commandHere 90 = .ok (.invokevirtual 323, 3) := by decide +kernel
theorem dX12_commandHere_93 : decode cX12_commandHere 93 = .ok (.ifCond .eq 5, 3) := by decide +kernel
theorem dX12_commandHere_98 : decode cX12_commandHere 98 = .ok (.aload_n 0, 1) := by decide +kernel
theorem dX12_commandHere_99 : decode cX12_commandHere 99 = .ok (.bipush 117, 2) := by decide +kernel
theorem dX12_commandHere_101 : decode cX12_commandHere 101 = .ok (.bipush 110, 2) := by decide +kernel
theorem dX12_commandHere_103 : decode cX12_commandHere 103 = .ok (.bipush 98, 2) := by decide +kernel
theorem dX12_commandHere_105 : decode cX12_commandHere 105 = .ok (.bipush 105, 2) := by decide +kernel
theorem dX12_commandHere_107 : decode cX12_commandHere 107 = .ok (.bipush 110, 2) := by decide +kernel
theorem dX12_commandHere_109 : decode cX12_commandHere 109 = .ok (.bipush 100, 2) := by decide +kernel
theorem dX12_commandHere_111 : decode cX12_commandHere 111 = .ok (.invokestatic 319, 3) := by decide +kernel
theorem dX12_commandHere_114 : decode cX12_commandHere 114 = .ok (.invokevirtual 323, 3) := by decide +kernel
theorem dX12_commandHere_117 : decode cX12_commandHere 117 = .ok (.ifCond .eq 5, 3) := by decide +kernel
theorem dX12_commandHere_122 : decode cX12_commandHere 122 = .ok (.aload_n 0, 1) := by decide +kernel
theorem dX12_commandHere_123 : decode cX12_commandHere 123 = .ok (.bipush 116, 2) := by decide +kernel
theorem dX12_commandHere_125 : decode cX12_commandHere 125 = .ok (.bipush 121, 2) := by decide +kernel
theorem dX12_commandHere_127 : decode cX12_commandHere 127 = .ok (.bipush 112, 2) := by decide +kernel
theorem dX12_commandHere_129 : decode cX12_commandHere 129 = .ok (.bipush 101, 2) := by decide +kernel
theorem dX12_commandHere_131 : decode cX12_commandHere 131 = .ok (.iconst 0, 1) := by decide +kernel
theorem dX12_commandHere_132 : decode cX12_commandHere 132 = .ok (.iconst 0, 1) := by decide +kernel
theorem dX12_commandHere_133 : decode cX12_commandHere 133 = .ok (.invokestatic 319, 3) := by decide +kernel
theorem dX12_commandHere_136 : decode cX12_commandHere 136 = .ok (.invokevirtual 323, 3) := by decide +kernel
theorem dX12_commandHere_139 : decode cX12_commandHere 139 = .ok (.ifCond .eq 5, 3) := by decide +kernel
theorem dX12_commandHere_144 : decode cX12_commandHere 144 = .ok (.aload_n 0, 1) := by decide +kernel
theorem dX12_commandHere_145 : decode cX12_commandHere 145 = .ok (.bipush 98, 2) := by decide +kernel
theorem dX12_commandHere_147 : decode cX12_commandHere 147 = .ok (.bipush 105, 2) := by decide +kernel
theorem dX12_commandHere_149 : decode cX12_commandHere 149 = .ok (.bipush 110, 2) := by decide +kernel
theorem dX12_commandHere_151 : decode cX12_commandHere 151 = .ok (.bipush 100, 2) := by decide +kernel
theorem dX12_commandHere_153 : decode cX12_commandHere 153 = .ok (.iconst 0, 1) := by decide +kernel
theorem dX12_commandHere_154 : decode cX12_commandHere 154 = .ok (.iconst 0, 1) := by decide +kernel
theorem dX12_commandHere_155 : decode cX12_commandHere 155 = .ok (.invokestatic 319, 3) := by decide +kernel
theorem dX12_commandHere_158 : decode cX12_commandHere 158 = .ok (.invokevirtual 323, 3) := by decide +kernel
theorem dX12_commandHere_161 : decode cX12_commandHere 161 = .ok (.ifCond .eq 6, 3) := by decide +kernel
theorem dX12_commandHere_167 : decode cX12_commandHere 167 = .ok (.aload_n 0, 1) := by decide +kernel
theorem dX12_commandHere_168 : decode cX12_commandHere 168 = .ok (.bipush 102, 2) := by decide +kernel
theorem dX12_commandHere_170 : decode cX12_commandHere 170 = .ok (.bipush 111, 2) := by decide +kernel
theorem dX12_commandHere_172 : decode cX12_commandHere 172 = .ok (.bipush 114, 2) := by decide +kernel
theorem dX12_commandHere_174 : decode cX12_commandHere 174 = .ok (.bipush 99, 2) := by decide +kernel
theorem dX12_commandHere_176 : decode cX12_commandHere 176 = .ok (.bipush 101, 2) := by decide +kernel
theorem dX12_commandHere_178 : decode cX12_commandHere 178 = .ok (.iconst 0, 1) := by decide +kernel
theorem dX12_commandHere_179 : decode cX12_commandHere 179 = .ok (.invokestatic 319, 3) := by decide +kernel
theorem dX12_commandHere_182 : decode cX12_commandHere 182 = .ok (.invokevirtual 323, 3) := by decide +kernel
theorem dX12_commandHere_185 : decode cX12_commandHere 185 = .ok (.ifCond .eq 8, 3) := by decide +kernel
theorem dX12_commandHere_193 : decode cX12_commandHere 193 = .ok (.iconst (-1), 1) := by decide +kernel
theorem dX12_commandHere_194 : decode cX12_commandHere 194 = .ok (.ireturn, 1) := by decide +kernel
theorem dX12_commandHere_188 : decode cX12_commandHere 188 = .ok (.bipush 7, 2) := by decide +kernel
theorem dX12_commandHere_190 : decode cX12_commandHere 190 = .ok (.goto 4, 3) := by decide +kernel
theorem dX12_commandHere_164 : decode cX12_commandHere 164 = .ok (.bipush 6, 2) := by decide +kernel
theorem dX12_commandHere_166 : decode cX12_commandHere 166 = .ok (.ireturn, 1) := by decide +kernel
theorem dX12_commandHere_142 : decode cX12_commandHere 142 = .ok (.iconst 5, 1) := by decide +kernel
theorem dX12_commandHere_143 : decode cX12_commandHere 143 = .ok (.ireturn, 1) := by decide +kernel
theorem dX12_commandHere_120 : decode cX12_commandHere 120 = .ok (.iconst 4, 1) := by decide +kernel
theorem dX12_commandHere_121 : decode cX12_commandHere 121 = .ok (.ireturn, 1) := by decide +kernel
theorem dX12_commandHere_96 : decode cX12_commandHere 96 = .ok (.iconst 3, 1) := by decide +kernel
theorem dX12_commandHere_97 : decode cX12_commandHere 97 = .ok (.ireturn, 1) := by decide +kernel
theorem dX12_commandHere_74 : decode cX12_commandHere 74 = .ok (.iconst 2, 1) := by decide +kernel
theorem dX12_commandHere_75 : decode cX12_commandHere 75 = .ok (.ireturn, 1) := by decide +kernel
theorem dX12_commandHere_52 : decode cX12_commandHere 52 = .ok (.iconst 1, 1) := by decide +kernel
theorem dX12_commandHere_53 : decode cX12_commandHere 53 = .ok (.ireturn, 1) := by decide +kernel
theorem dX12_commandHere_21 : decode cX12_commandHere 21 = .ok (.iconst 0, 1) := by decide +kernel
theorem dX12_commandHere_22 : decode cX12_commandHere 22 = .ok (.ireturn, 1) := by decide +kernel
set_option maxRecDepth 100000 in
set_option maxHeartbeats 4000000 in
theorem rX12_commandHere (l : Launch) (D : va_G) (Y : Nat → ClassId) (h0 : Nat) (h1 : Nat) (h2 : Nat) (h3 : Nat) (h4 : Nat) (h5 : Nat) (h6 : Nat) (p2 : Int32) (k5 : Nat) (k6 : Nat) (p7 : Int32) (p8 : Int32) (p9 : Int32) (k10 : Nat) (p11 : Int32) (q12 : Int64) (k15 : Nat) (k16 : Nat) (f0 : Nat → Int32) (f1 : Nat → Int32) (f3 : Nat → Int32) (f4 : Nat → Int32) (f13 : Nat → Int32) (f14 : Nat → Int32) (ph : Nat → Int32) (HI : INV ph f0) (HL : k5 ≤ 1600) (HP : PLV f13)   (sz : Nat) : Met l yX12_commandHere (WSm yX12_commandHere cX12_commandHere 1 (some .int)) (mkR 1 0 0 27) (PreC D Y [.ref h0] [(h0, oC 13 [.ref h1, .ref h2, .int p2, .ref h3, .ref h4, .int (nI k5), .int (nI k6), .int p7, .int p8, .int p9, .int (nI k10), .int p11, .long q12, .ref h5, .ref h6, .int (nI k15), .int (nI k16)]), (h1, aI Y 3640 f0), (h2, aZ Y 2 f1), (h3, aZ Y 80 f3), (h4, aB Y 1600 f4), (h5, aI Y 200 f13), (h6, aI Y 800 f14)] sz) (QI D (fun (r : Int32) (u : WU) => True) (fun (u : WU) => [(h0, oC 13 [.ref h1, .ref h2, .int p2, .ref h3, .ref h4, .int (nI k5), .int (nI k6), .int p7, .int p8, .int p9, .int (nI k10), .int p11, .long q12, .ref h5, .ref h6, .int (nI k15), .int (nI k16)]), (h1, aI Y 3640 f0), (h2, aZ Y 2 f1), (h3, aZ Y 80 f3), (h4, aB Y 1600 f4), (h5, aI Y 200 f13), (h6, aI Y 800 f14)]) (va_A [(h0, oC 13 [.ref h1, .ref h2, .int p2, .ref h3, .ref h4, .int (nI k5), .int (nI k6), .int p7, .int p8, .int p9, .int (nI k10), .int p11, .long q12, .ref h5, .ref h6, .int (nI k15), .int (nI k16)]), (h1, aI Y 3640 f0), (h2, aZ Y 2 f1), (h3, aZ Y 80 f3), (h4, aB Y 1600 f4), (h5, aI Y 200 f13), (h6, aI Y 800 f14)] sz)) 0 0 (va_A [(h0, oC 13 [.ref h1, .ref h2, .int p2, .ref h3, .ref h4, .int (nI k5), .int (nI k6), .int p7, .int p8, .int p9, .int (nI k10), .int p11, .long q12, .ref h5, .ref h6, .int (nI k15), .int (nI k16)]), (h1, aI Y 3640 f0), (h2, aZ Y 2 f1), (h3, aZ Y 80 f3), (h4, aB Y 1600 f4), (h5, aI Y 200 f13), (h6, aI Y 800 f14)] sz) :=
  met_of  (by decide +kernel) (Nat.le_of_ble_eq_true rfl) (fun p e s m args below meth c B hin hsz => by
    have B : VB p s m args meth c D Y (va_A [(h0, oC 13 [.ref h1, .ref h2, .int p2, .ref h3, .ref h4, .int (nI k5), .int (nI k6), .int p7, .int p8, .int p9, .int (nI k10), .int p11, .long q12, .ref h5, .ref h6, .int (nI k15), .int (nI k16)]), (h1, aI Y 3640 f0), (h2, aZ Y 2 f1), (h3, aZ Y 80 f3), (h4, aB Y 1600 f4), (h5, aI Y 200 f13), (h6, aI Y 800 f14)] sz) cX12_commandHere 1 RX12 (some .int) := B
    refine V_aload_n 0 B dX12_commandHere_0 0 rfl ?_
    refine V_bipush 1 B (v := 112) dX12_commandHere_1 (by decide +kernel) ?_
    refine V_bipush 3 B (v := 114) dX12_commandHere_3 (by decide +kernel) ?_
    refine V_bipush 5 B (v := 101) dX12_commandHere_5 (by decide +kernel) ?_
    refine V_bipush 7 B (v := 115) dX12_commandHere_7 (by decide +kernel) ?_
    refine V_bipush 9 B (v := 115) dX12_commandHere_9 (by decide +kernel) ?_
    refine V_iconst 11 B (v := 0) dX12_commandHere_11 (by decide +kernel) ?_
    refine V_csl 12 B (st := [.ref h0]) (As := [.int 112, .int 114, .int 101, .int 115, .int 115, .int 0]) (fun sz => rX12_pack l D Y 112 114 101 115 115 0 sz) glS_RX12_319 ⟨rfl, rfl⟩ ⟨(Nat.le_of_ble_eq_true rfl), (Nat.le_of_ble_eq_true rfl)⟩ ⟨(Nat.le_of_ble_eq_true rfl), (Nat.le_of_ble_eq_true rfl)⟩ [] rfl rfl (Nat.le_of_ble_eq_true rfl) rfl (fun _ _ _ => rfl) dX12_commandHere_12 (fun o0 u1 w2 => ?_)
    refine V_ws [(h0, oC 13 [.ref h1, .ref h2, .int p2, .ref h3, .ref h4, .int (nI k5), .int (nI k6), .int p7, .int p8, .int p9, .int (nI k10), .int p11, .long q12, .ref h5, .ref h6, .int (nI k15), .int (nI k16)]), (h1, aI Y 3640 f0), (h2, aZ Y 2 f1), (h3, aZ Y 80 f3), (h4, aB Y 1600 f4), (h5, aI Y 200 f13), (h6, aI Y 800 f14)] rfl ?_
    refine V_cvi 15 B (st := []) (As := [.long o0]) (fun sz => rX12_isWord l D Y h0 h1 h2 h3 h4 h5 h6 p2 k5 k6 p7 p8 p9 k10 p11 q12 k15 k16 f0 f1 f3 f4 f13 f14 ph HI (by omega) HP o0 sz) glV_RX12_323 ⟨rfl, rfl⟩ ⟨(Nat.le_of_ble_eq_true rfl), (Nat.le_of_ble_eq_true rfl)⟩ ⟨(Nat.le_of_ble_eq_true rfl), (Nat.le_of_ble_eq_true rfl)⟩ [0, 0, 0, 0, 0, 0, 0] rfl 13 0 rfl rfl rfl rfl (Nat.le_of_ble_eq_true rfl) rfl (fun _ _ _ => rfl) dX12_commandHere_15 (fun j3 u4 w5 => ?_)
    refine V_ws [(h0, oC 13 [.ref h1, .ref h2, .int p2, .ref h3, .ref h4, .int (nI k5), .int (nI k6), .int p7, .int p8, .int p9, .int (nI k10), .int p11, .long q12, .ref h5, .ref h6, .int (nI k15), .int (nI k16)]), (h1, aI Y 3640 f0), (h2, aZ Y 2 f1), (h3, aZ Y 80 f3), (h4, aB Y 1600 f4), (h5, aI Y 200 f13), (h6, aI Y 800 f14)] rfl ?_
    have x6 := w5
    clear w5
    rcases x6 with rfl | rfl
    ·
      refine V_if_eq_t 18 B 23 dX12_commandHere_18 (by decide) (by decide +kernel) ?_
      refine V_aload_n 23 B dX12_commandHere_23 0 rfl ?_
      refine V_bipush 24 B (v := 114) dX12_commandHere_24 (by decide +kernel) ?_
      refine V_bipush 26 B (v := 101) dX12_commandHere_26 (by decide +kernel) ?_
      refine V_bipush 28 B (v := 108) dX12_commandHere_28 (by decide +kernel) ?_
      refine V_bipush 30 B (v := 101) dX12_commandHere_30 (by decide +kernel) ?_
      refine V_bipush 32 B (v := 97) dX12_commandHere_32 (by decide +kernel) ?_
      refine V_bipush 34 B (v := 115) dX12_commandHere_34 (by decide +kernel) ?_
      refine V_csl 36 B (st := [.ref h0]) (As := [.int 114, .int 101, .int 108, .int 101, .int 97, .int 115]) (fun sz => rX12_pack l D Y 114 101 108 101 97 115 sz) glS_RX12_319 ⟨rfl, rfl⟩ ⟨(Nat.le_of_ble_eq_true rfl), (Nat.le_of_ble_eq_true rfl)⟩ ⟨(Nat.le_of_ble_eq_true rfl), (Nat.le_of_ble_eq_true rfl)⟩ [] rfl rfl (Nat.le_of_ble_eq_true rfl) rfl (fun _ _ _ => rfl) dX12_commandHere_36 (fun o7 u8 w9 => ?_)
      refine V_ws [(h0, oC 13 [.ref h1, .ref h2, .int p2, .ref h3, .ref h4, .int (nI k5), .int (nI k6), .int p7, .int p8, .int p9, .int (nI k10), .int p11, .long q12, .ref h5, .ref h6, .int (nI k15), .int (nI k16)]), (h1, aI Y 3640 f0), (h2, aZ Y 2 f1), (h3, aZ Y 80 f3), (h4, aB Y 1600 f4), (h5, aI Y 200 f13), (h6, aI Y 800 f14)] rfl ?_
      refine V_bipush 39 B (v := 7) dX12_commandHere_39 (by decide +kernel) ?_
      refine V_lshl 41 B dX12_commandHere_41 rfl ?_
      refine V_nml (fun o10 _ => ?_)
      refine V_ldc2 42 B (v := 101) dX12_commandHere_42 (mT10 12 rfl rfl) ?_
      refine V_lor 45 B dX12_commandHere_45 rfl ?_
      refine V_nml (fun o11 e12 => ?_)
      refine V_cvi 46 B (st := []) (As := [.long o11]) (fun sz => rX12_isWord l D Y h0 h1 h2 h3 h4 h5 h6 p2 k5 k6 p7 p8 p9 k10 p11 q12 k15 k16 f0 f1 f3 f4 f13 f14 ph HI (by omega) HP o11 sz) glV_RX12_323 ⟨rfl, rfl⟩ ⟨(Nat.le_of_ble_eq_true rfl), (Nat.le_of_ble_eq_true rfl)⟩ ⟨(Nat.le_of_ble_eq_true rfl), (Nat.le_of_ble_eq_true rfl)⟩ [0, 0, 0, 0, 0, 0, 0] rfl 13 0 rfl rfl rfl rfl (Nat.le_of_ble_eq_true rfl) rfl (fun _ _ _ => rfl) dX12_commandHere_46 (fun j13 u14 w15 => ?_)
      refine V_ws [(h0, oC 13 [.ref h1, .ref h2, .int p2, .ref h3, .ref h4, .int (nI k5), .int (nI k6), .int p7, .int p8, .int p9, .int (nI k10), .int p11, .long q12, .ref h5, .ref h6, .int (nI k15), .int (nI k16)]), (h1, aI Y 3640 f0), (h2, aZ Y 2 f1), (h3, aZ Y 80 f3), (h4, aB Y 1600 f4), (h5, aI Y 200 f13), (h6, aI Y 800 f14)] rfl ?_
      have x16 := w15
      clear w15
      rcases x16 with rfl | rfl
      ·
        refine V_if_eq_t 49 B 54 dX12_commandHere_49 (by decide) (by decide +kernel) ?_
        refine V_aload_n 54 B dX12_commandHere_54 0 rfl ?_
        refine V_bipush 55 B (v := 104) dX12_commandHere_55 (by decide +kernel) ?_
        refine V_bipush 57 B (v := 111) dX12_commandHere_57 (by decide +kernel) ?_
        refine V_bipush 59 B (v := 108) dX12_commandHere_59 (by decide +kernel) ?_
        refine V_bipush 61 B (v := 100) dX12_commandHere_61 (by decide +kernel) ?_
        refine V_iconst 63 B (v := 0) dX12_commandHere_63 (by decide +kernel) ?_
        refine V_iconst 64 B (v := 0) dX12_commandHere_64 (by decide +kernel) ?_
        refine V_csl 65 B (st := [.ref h0]) (As := [.int 104, .int 111, .int 108, .int 100, .int 0, .int 0]) (fun sz => rX12_pack l D Y 104 111 108 100 0 0 sz) glS_RX12_319 ⟨rfl, rfl⟩ ⟨(Nat.le_of_ble_eq_true rfl), (Nat.le_of_ble_eq_true rfl)⟩ ⟨(Nat.le_of_ble_eq_true rfl), (Nat.le_of_ble_eq_true rfl)⟩ [] rfl rfl (Nat.le_of_ble_eq_true rfl) rfl (fun _ _ _ => rfl) dX12_commandHere_65 (fun o17 u18 w19 => ?_)
        refine V_ws [(h0, oC 13 [.ref h1, .ref h2, .int p2, .ref h3, .ref h4, .int (nI k5), .int (nI k6), .int p7, .int p8, .int p9, .int (nI k10), .int p11, .long q12, .ref h5, .ref h6, .int (nI k15), .int (nI k16)]), (h1, aI Y 3640 f0), (h2, aZ Y 2 f1), (h3, aZ Y 80 f3), (h4, aB Y 1600 f4), (h5, aI Y 200 f13), (h6, aI Y 800 f14)] rfl ?_
        refine V_cvi 68 B (st := []) (As := [.long o17]) (fun sz => rX12_isWord l D Y h0 h1 h2 h3 h4 h5 h6 p2 k5 k6 p7 p8 p9 k10 p11 q12 k15 k16 f0 f1 f3 f4 f13 f14 ph HI (by omega) HP o17 sz) glV_RX12_323 ⟨rfl, rfl⟩ ⟨(Nat.le_of_ble_eq_true rfl), (Nat.le_of_ble_eq_true rfl)⟩ ⟨(Nat.le_of_ble_eq_true rfl), (Nat.le_of_ble_eq_true rfl)⟩ [0, 0, 0, 0, 0, 0, 0] rfl 13 0 rfl rfl rfl rfl (Nat.le_of_ble_eq_true rfl) rfl (fun _ _ _ => rfl) dX12_commandHere_68 (fun j20 u21 w22 => ?_)
        refine V_ws [(h0, oC 13 [.ref h1, .ref h2, .int p2, .ref h3, .ref h4, .int (nI k5), .int (nI k6), .int p7, .int p8, .int p9, .int (nI k10), .int p11, .long q12, .ref h5, .ref h6, .int (nI k15), .int (nI k16)]), (h1, aI Y 3640 f0), (h2, aZ Y 2 f1), (h3, aZ Y 80 f3), (h4, aB Y 1600 f4), (h5, aI Y 200 f13), (h6, aI Y 800 f14)] rfl ?_
        have x23 := w22
        clear w22
        rcases x23 with rfl | rfl
        ·
          refine V_if_eq_t 71 B 76 dX12_commandHere_71 (by decide) (by decide +kernel) ?_
          refine V_aload_n 76 B dX12_commandHere_76 0 rfl ?_
          refine V_bipush 77 B (v := 116) dX12_commandHere_77 (by decide +kernel) ?_
          refine V_bipush 79 B (v := 105) dX12_commandHere_79 (by decide +kernel) ?_
          refine V_bipush 81 B (v := 99) dX12_commandHere_81 (by decide +kernel) ?_
          refine V_bipush 83 B (v := 107) dX12_commandHere_83 (by decide +kernel) ?_
          refine V_iconst 85 B (v := 0) dX12_commandHere_85 (by decide +kernel) ?_
          refine V_iconst 86 B (v := 0) dX12_commandHere_86 (by decide +kernel) ?_
          refine V_csl 87 B (st := [.ref h0]) (As := [.int 116, .int 105, .int 99, .int 107, .int 0, .int 0]) (fun sz => rX12_pack l D Y 116 105 99 107 0 0 sz) glS_RX12_319 ⟨rfl, rfl⟩ ⟨(Nat.le_of_ble_eq_true rfl), (Nat.le_of_ble_eq_true rfl)⟩ ⟨(Nat.le_of_ble_eq_true rfl), (Nat.le_of_ble_eq_true rfl)⟩ [] rfl rfl (Nat.le_of_ble_eq_true rfl) rfl (fun _ _ _ => rfl) dX12_commandHere_87 (fun o24 u25 w26 => ?_)
          refine V_ws [(h0, oC 13 [.ref h1, .ref h2, .int p2, .ref h3, .ref h4, .int (nI k5), .int (nI k6), .int p7, .int p8, .int p9, .int (nI k10), .int p11, .long q12, .ref h5, .ref h6, .int (nI k15), .int (nI k16)]), (h1, aI Y 3640 f0), (h2, aZ Y 2 f1), (h3, aZ Y 80 f3), (h4, aB Y 1600 f4), (h5, aI Y 200 f13), (h6, aI Y 800 f14)] rfl ?_
          refine V_cvi 90 B (st := []) (As := [.long o24]) (fun sz => rX12_isWord l D Y h0 h1 h2 h3 h4 h5 h6 p2 k5 k6 p7 p8 p9 k10 p11 q12 k15 k16 f0 f1 f3 f4 f13 f14 ph HI (by omega) HP o24 sz) glV_RX12_323 ⟨rfl, rfl⟩ ⟨(Nat.le_of_ble_eq_true rfl), (Nat.le_of_ble_eq_true rfl)⟩ ⟨(Nat.le_of_ble_eq_true rfl), (Nat.le_of_ble_eq_true rfl)⟩ [0, 0, 0, 0, 0, 0, 0] rfl 13 0 rfl rfl rfl rfl (Nat.le_of_ble_eq_true rfl) rfl (fun _ _ _ => rfl) dX12_commandHere_90 (fun j27 u28 w29 => ?_)
          refine V_ws [(h0, oC 13 [.ref h1, .ref h2, .int p2, .ref h3, .ref h4, .int (nI k5), .int (nI k6), .int p7, .int p8, .int p9, .int (nI k10), .int p11, .long q12, .ref h5, .ref h6, .int (nI k15), .int (nI k16)]), (h1, aI Y 3640 f0), (h2, aZ Y 2 f1), (h3, aZ Y 80 f3), (h4, aB Y 1600 f4), (h5, aI Y 200 f13), (h6, aI Y 800 f14)] rfl ?_
          have x30 := w29
          clear w29
          rcases x30 with rfl | rfl
          ·
            refine V_if_eq_t 93 B 98 dX12_commandHere_93 (by decide) (by decide +kernel) ?_
            refine V_aload_n 98 B dX12_commandHere_98 0 rfl ?_
            refine V_bipush 99 B (v := 117) dX12_commandHere_99 (by decide +kernel) ?_
            refine V_bipush 101 B (v := 110) dX12_commandHere_101 (by decide +kernel) ?_
            refine V_bipush 103 B (v := 98) dX12_commandHere_103 (by decide +kernel) ?_
            refine V_bipush 105 B (v := 105) dX12_commandHere_105 (by decide +kernel) ?_
            refine V_bipush 107 B (v := 110) dX12_commandHere_107 (by decide +kernel) ?_
            refine V_bipush 109 B (v := 100) dX12_commandHere_109 (by decide +kernel) ?_
            refine V_csl 111 B (st := [.ref h0]) (As := [.int 117, .int 110, .int 98, .int 105, .int 110, .int 100]) (fun sz => rX12_pack l D Y 117 110 98 105 110 100 sz) glS_RX12_319 ⟨rfl, rfl⟩ ⟨(Nat.le_of_ble_eq_true rfl), (Nat.le_of_ble_eq_true rfl)⟩ ⟨(Nat.le_of_ble_eq_true rfl), (Nat.le_of_ble_eq_true rfl)⟩ [] rfl rfl (Nat.le_of_ble_eq_true rfl) rfl (fun _ _ _ => rfl) dX12_commandHere_111 (fun o31 u32 w33 => ?_)
            refine V_ws [(h0, oC 13 [.ref h1, .ref h2, .int p2, .ref h3, .ref h4, .int (nI k5), .int (nI k6), .int p7, .int p8, .int p9, .int (nI k10), .int p11, .long q12, .ref h5, .ref h6, .int (nI k15), .int (nI k16)]), (h1, aI Y 3640 f0), (h2, aZ Y 2 f1), (h3, aZ Y 80 f3), (h4, aB Y 1600 f4), (h5, aI Y 200 f13), (h6, aI Y 800 f14)] rfl ?_
            refine V_cvi 114 B (st := []) (As := [.long o31]) (fun sz => rX12_isWord l D Y h0 h1 h2 h3 h4 h5 h6 p2 k5 k6 p7 p8 p9 k10 p11 q12 k15 k16 f0 f1 f3 f4 f13 f14 ph HI (by omega) HP o31 sz) glV_RX12_323 ⟨rfl, rfl⟩ ⟨(Nat.le_of_ble_eq_true rfl), (Nat.le_of_ble_eq_true rfl)⟩ ⟨(Nat.le_of_ble_eq_true rfl), (Nat.le_of_ble_eq_true rfl)⟩ [0, 0, 0, 0, 0, 0, 0] rfl 13 0 rfl rfl rfl rfl (Nat.le_of_ble_eq_true rfl) rfl (fun _ _ _ => rfl) dX12_commandHere_114 (fun j34 u35 w36 => ?_)
            refine V_ws [(h0, oC 13 [.ref h1, .ref h2, .int p2, .ref h3, .ref h4, .int (nI k5), .int (nI k6), .int p7, .int p8, .int p9, .int (nI k10), .int p11, .long q12, .ref h5, .ref h6, .int (nI k15), .int (nI k16)]), (h1, aI Y 3640 f0), (h2, aZ Y 2 f1), (h3, aZ Y 80 f3), (h4, aB Y 1600 f4), (h5, aI Y 200 f13), (h6, aI Y 800 f14)] rfl ?_
            have x37 := w36
            clear w36
            rcases x37 with rfl | rfl
            ·
              refine V_if_eq_t 117 B 122 dX12_commandHere_117 (by decide) (by decide +kernel) ?_
              refine V_aload_n 122 B dX12_commandHere_122 0 rfl ?_
              refine V_bipush 123 B (v := 116) dX12_commandHere_123 (by decide +kernel) ?_
              refine V_bipush 125 B (v := 121) dX12_commandHere_125 (by decide +kernel) ?_
              refine V_bipush 127 B (v := 112) dX12_commandHere_127 (by decide +kernel) ?_
              refine V_bipush 129 B (v := 101) dX12_commandHere_129 (by decide +kernel) ?_
              refine V_iconst 131 B (v := 0) dX12_commandHere_131 (by decide +kernel) ?_
              refine V_iconst 132 B (v := 0) dX12_commandHere_132 (by decide +kernel) ?_
              refine V_csl 133 B (st := [.ref h0]) (As := [.int 116, .int 121, .int 112, .int 101, .int 0, .int 0]) (fun sz => rX12_pack l D Y 116 121 112 101 0 0 sz) glS_RX12_319 ⟨rfl, rfl⟩ ⟨(Nat.le_of_ble_eq_true rfl), (Nat.le_of_ble_eq_true rfl)⟩ ⟨(Nat.le_of_ble_eq_true rfl), (Nat.le_of_ble_eq_true rfl)⟩ [] rfl rfl (Nat.le_of_ble_eq_true rfl) rfl (fun _ _ _ => rfl) dX12_commandHere_133 (fun o38 u39 w40 => ?_)
              refine V_ws [(h0, oC 13 [.ref h1, .ref h2, .int p2, .ref h3, .ref h4, .int (nI k5), .int (nI k6), .int p7, .int p8, .int p9, .int (nI k10), .int p11, .long q12, .ref h5, .ref h6, .int (nI k15), .int (nI k16)]), (h1, aI Y 3640 f0), (h2, aZ Y 2 f1), (h3, aZ Y 80 f3), (h4, aB Y 1600 f4), (h5, aI Y 200 f13), (h6, aI Y 800 f14)] rfl ?_
              refine V_cvi 136 B (st := []) (As := [.long o38]) (fun sz => rX12_isWord l D Y h0 h1 h2 h3 h4 h5 h6 p2 k5 k6 p7 p8 p9 k10 p11 q12 k15 k16 f0 f1 f3 f4 f13 f14 ph HI (by omega) HP o38 sz) glV_RX12_323 ⟨rfl, rfl⟩ ⟨(Nat.le_of_ble_eq_true rfl), (Nat.le_of_ble_eq_true rfl)⟩ ⟨(Nat.le_of_ble_eq_true rfl), (Nat.le_of_ble_eq_true rfl)⟩ [0, 0, 0, 0, 0, 0, 0] rfl 13 0 rfl rfl rfl rfl (Nat.le_of_ble_eq_true rfl) rfl (fun _ _ _ => rfl) dX12_commandHere_136 (fun j41 u42 w43 => ?_)
              refine V_ws [(h0, oC 13 [.ref h1, .ref h2, .int p2, .ref h3, .ref h4, .int (nI k5), .int (nI k6), .int p7, .int p8, .int p9, .int (nI k10), .int p11, .long q12, .ref h5, .ref h6, .int (nI k15), .int (nI k16)]), (h1, aI Y 3640 f0), (h2, aZ Y 2 f1), (h3, aZ Y 80 f3), (h4, aB Y 1600 f4), (h5, aI Y 200 f13), (h6, aI Y 800 f14)] rfl ?_
              have x44 := w43
              clear w43
              rcases x44 with rfl | rfl
              ·
                refine V_if_eq_t 139 B 144 dX12_commandHere_139 (by decide) (by decide +kernel) ?_
                refine V_aload_n 144 B dX12_commandHere_144 0 rfl ?_
                refine V_bipush 145 B (v := 98) dX12_commandHere_145 (by decide +kernel) ?_
                refine V_bipush 147 B (v := 105) dX12_commandHere_147 (by decide +kernel) ?_
                refine V_bipush 149 B (v := 110) dX12_commandHere_149 (by decide +kernel) ?_
                refine V_bipush 151 B (v := 100) dX12_commandHere_151 (by decide +kernel) ?_
                refine V_iconst 153 B (v := 0) dX12_commandHere_153 (by decide +kernel) ?_
                refine V_iconst 154 B (v := 0) dX12_commandHere_154 (by decide +kernel) ?_
                refine V_csl 155 B (st := [.ref h0]) (As := [.int 98, .int 105, .int 110, .int 100, .int 0, .int 0]) (fun sz => rX12_pack l D Y 98 105 110 100 0 0 sz) glS_RX12_319 ⟨rfl, rfl⟩ ⟨(Nat.le_of_ble_eq_true rfl), (Nat.le_of_ble_eq_true rfl)⟩ ⟨(Nat.le_of_ble_eq_true rfl), (Nat.le_of_ble_eq_true rfl)⟩ [] rfl rfl (Nat.le_of_ble_eq_true rfl) rfl (fun _ _ _ => rfl) dX12_commandHere_155 (fun o45 u46 w47 => ?_)
                refine V_ws [(h0, oC 13 [.ref h1, .ref h2, .int p2, .ref h3, .ref h4, .int (nI k5), .int (nI k6), .int p7, .int p8, .int p9, .int (nI k10), .int p11, .long q12, .ref h5, .ref h6, .int (nI k15), .int (nI k16)]), (h1, aI Y 3640 f0), (h2, aZ Y 2 f1), (h3, aZ Y 80 f3), (h4, aB Y 1600 f4), (h5, aI Y 200 f13), (h6, aI Y 800 f14)] rfl ?_
                refine V_cvi 158 B (st := []) (As := [.long o45]) (fun sz => rX12_isWord l D Y h0 h1 h2 h3 h4 h5 h6 p2 k5 k6 p7 p8 p9 k10 p11 q12 k15 k16 f0 f1 f3 f4 f13 f14 ph HI (by omega) HP o45 sz) glV_RX12_323 ⟨rfl, rfl⟩ ⟨(Nat.le_of_ble_eq_true rfl), (Nat.le_of_ble_eq_true rfl)⟩ ⟨(Nat.le_of_ble_eq_true rfl), (Nat.le_of_ble_eq_true rfl)⟩ [0, 0, 0, 0, 0, 0, 0] rfl 13 0 rfl rfl rfl rfl (Nat.le_of_ble_eq_true rfl) rfl (fun _ _ _ => rfl) dX12_commandHere_158 (fun j48 u49 w50 => ?_)
                refine V_ws [(h0, oC 13 [.ref h1, .ref h2, .int p2, .ref h3, .ref h4, .int (nI k5), .int (nI k6), .int p7, .int p8, .int p9, .int (nI k10), .int p11, .long q12, .ref h5, .ref h6, .int (nI k15), .int (nI k16)]), (h1, aI Y 3640 f0), (h2, aZ Y 2 f1), (h3, aZ Y 80 f3), (h4, aB Y 1600 f4), (h5, aI Y 200 f13), (h6, aI Y 800 f14)] rfl ?_
                have x51 := w50
                clear w50
                rcases x51 with rfl | rfl
                ·
                  refine V_if_eq_t 161 B 167 dX12_commandHere_161 (by decide) (by decide +kernel) ?_
                  refine V_aload_n 167 B dX12_commandHere_167 0 rfl ?_
                  refine V_bipush 168 B (v := 102) dX12_commandHere_168 (by decide +kernel) ?_
                  refine V_bipush 170 B (v := 111) dX12_commandHere_170 (by decide +kernel) ?_
                  refine V_bipush 172 B (v := 114) dX12_commandHere_172 (by decide +kernel) ?_
                  refine V_bipush 174 B (v := 99) dX12_commandHere_174 (by decide +kernel) ?_
                  refine V_bipush 176 B (v := 101) dX12_commandHere_176 (by decide +kernel) ?_
                  refine V_iconst 178 B (v := 0) dX12_commandHere_178 (by decide +kernel) ?_
                  refine V_csl 179 B (st := [.ref h0]) (As := [.int 102, .int 111, .int 114, .int 99, .int 101, .int 0]) (fun sz => rX12_pack l D Y 102 111 114 99 101 0 sz) glS_RX12_319 ⟨rfl, rfl⟩ ⟨(Nat.le_of_ble_eq_true rfl), (Nat.le_of_ble_eq_true rfl)⟩ ⟨(Nat.le_of_ble_eq_true rfl), (Nat.le_of_ble_eq_true rfl)⟩ [] rfl rfl (Nat.le_of_ble_eq_true rfl) rfl (fun _ _ _ => rfl) dX12_commandHere_179 (fun o52 u53 w54 => ?_)
                  refine V_ws [(h0, oC 13 [.ref h1, .ref h2, .int p2, .ref h3, .ref h4, .int (nI k5), .int (nI k6), .int p7, .int p8, .int p9, .int (nI k10), .int p11, .long q12, .ref h5, .ref h6, .int (nI k15), .int (nI k16)]), (h1, aI Y 3640 f0), (h2, aZ Y 2 f1), (h3, aZ Y 80 f3), (h4, aB Y 1600 f4), (h5, aI Y 200 f13), (h6, aI Y 800 f14)] rfl ?_
                  refine V_cvi 182 B (st := []) (As := [.long o52]) (fun sz => rX12_isWord l D Y h0 h1 h2 h3 h4 h5 h6 p2 k5 k6 p7 p8 p9 k10 p11 q12 k15 k16 f0 f1 f3 f4 f13 f14 ph HI (by omega) HP o52 sz) glV_RX12_323 ⟨rfl, rfl⟩ ⟨(Nat.le_of_ble_eq_true rfl), (Nat.le_of_ble_eq_true rfl)⟩ ⟨(Nat.le_of_ble_eq_true rfl), (Nat.le_of_ble_eq_true rfl)⟩ [0, 0, 0, 0, 0, 0, 0] rfl 13 0 rfl rfl rfl rfl (Nat.le_of_ble_eq_true rfl) rfl (fun _ _ _ => rfl) dX12_commandHere_182 (fun j55 u56 w57 => ?_)
                  refine V_ws [(h0, oC 13 [.ref h1, .ref h2, .int p2, .ref h3, .ref h4, .int (nI k5), .int (nI k6), .int p7, .int p8, .int p9, .int (nI k10), .int p11, .long q12, .ref h5, .ref h6, .int (nI k15), .int (nI k16)]), (h1, aI Y 3640 f0), (h2, aZ Y 2 f1), (h3, aZ Y 80 f3), (h4, aB Y 1600 f4), (h5, aI Y 200 f13), (h6, aI Y 800 f14)] rfl ?_
                  have x58 := w57
                  clear w57
                  rcases x58 with rfl | rfl
                  ·
                    refine V_if_eq_t 185 B 193 dX12_commandHere_185 (by decide) (by decide +kernel) ?_
                    refine V_iconst 193 B (v := (-1)) dX12_commandHere_193 (by decide +kernel) ?_
                    exact V_iret 194 B dX12_commandHere_194 (mkW [] [] [] [] [] []) trivial rfl
                  ·
                    refine V_if_eq_f 185 B 193 dX12_commandHere_185 (by decide) (by decide +kernel) ?_
                    refine V_bipush 188 B (v := 7) dX12_commandHere_188 (by decide +kernel) ?_
                    refine V_goto 190 B 194 dX12_commandHere_190 (by decide) ?_
                    exact V_iret 194 B dX12_commandHere_194 (mkW [] [] [] [] [] []) trivial rfl
                ·
                  refine V_if_eq_f 161 B 167 dX12_commandHere_161 (by decide) (by decide +kernel) ?_
                  refine V_bipush 164 B (v := 6) dX12_commandHere_164 (by decide +kernel) ?_
                  exact V_iret 166 B dX12_commandHere_166 (mkW [] [] [] [] [] []) trivial rfl
              ·
                refine V_if_eq_f 139 B 144 dX12_commandHere_139 (by decide) (by decide +kernel) ?_
                refine V_iconst 142 B (v := 5) dX12_commandHere_142 (by decide +kernel) ?_
                exact V_iret 143 B dX12_commandHere_143 (mkW [] [] [] [] [] []) trivial rfl
            ·
              refine V_if_eq_f 117 B 122 dX12_commandHere_117 (by decide) (by decide +kernel) ?_
              refine V_iconst 120 B (v := 4) dX12_commandHere_120 (by decide +kernel) ?_
              exact V_iret 121 B dX12_commandHere_121 (mkW [] [] [] [] [] []) trivial rfl
          ·
            refine V_if_eq_f 93 B 98 dX12_commandHere_93 (by decide) (by decide +kernel) ?_
            refine V_iconst 96 B (v := 3) dX12_commandHere_96 (by decide +kernel) ?_
            exact V_iret 97 B dX12_commandHere_97 (mkW [] [] [] [] [] []) trivial rfl
        ·
          refine V_if_eq_f 71 B 76 dX12_commandHere_71 (by decide) (by decide +kernel) ?_
          refine V_iconst 74 B (v := 2) dX12_commandHere_74 (by decide +kernel) ?_
          exact V_iret 75 B dX12_commandHere_75 (mkW [] [] [] [] [] []) trivial rfl
      ·
        refine V_if_eq_f 49 B 54 dX12_commandHere_49 (by decide) (by decide +kernel) ?_
        refine V_iconst 52 B (v := 1) dX12_commandHere_52 (by decide +kernel) ?_
        exact V_iret 53 B dX12_commandHere_53 (mkW [] [] [] [] [] []) trivial rfl
    ·
      refine V_if_eq_f 18 B 23 dX12_commandHere_18 (by decide) (by decide +kernel) ?_
      refine V_iconst 21 B (v := 0) dX12_commandHere_21 (by decide +kernel) ?_
      exact V_iret 22 B dX12_commandHere_22 (mkW [] [] [] [] [] []) trivial rfl)
