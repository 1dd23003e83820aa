theorem dX12_beginText_0 : decode cX12_beginText 0 = .ok (.aload_n 0, 1) := by decide +kernel
theorem dX12_beginText_1 : decode cX12_beginText 1 = .ok (.iconst 0, 1) := by decide +kernel
theorem dX12_beginText_2 : decode cX12_beginText 2 = .ok (.putfield 246, 3) := by decide +kernel
theorem gp_RX12_246 : GP RX12 246 13 7 .int false := ⟨RX12, TX12, 17, ⟨rfl, inw_X12, Nat.le_of_ble_eq_true rfl, (mT7 144 rfl rfl)⟩, ⟨tyX12, tyX12_ok⟩, nmX12, rfl, by decide +kernel, fun h => nomatch h⟩
theorem dX12_beginText_5 : decode cX12_beginText 5 = .ok (.aload_n 0, 1) := by decide +kernel
theorem dX12_beginText_6 : decode cX12_beginText 6 = .ok (.iconst (-1), 1) := by decide +kernel
theorem dX12_beginText_7 : decode cX12_beginText 7 = .ok (.putfield 24, 3) := by decide +kernel
theorem gp_RX12_24 : GP RX12 24 13 8 .int false := ⟨RX12, TX12, 17, ⟨rfl, inw_X12, Nat.le_of_ble_eq_true rfl, (mT7 145 rfl rfl)⟩, ⟨tyX12, tyX12_ok⟩, nmX12, rfl, by decide +kernel, fun h => nomatch h⟩
theorem dX12_beginText_10 : decode cX12_beginText 10 = .ok (.aload_n 0, 1) := by decide +kernel
theorem dX12_beginText_11 : decode cX12_beginText 11 = .ok (.iconst 0, 1) := by decide +kernel
theorem dX12_beginText_12 : decode cX12_beginText 12 = .ok (.putfield 264, 3) := by decide +kernel
theorem dX12_beginText_15 : decode cX12_beginText 15 = .ok (.aload_n 0, 1) := by decide +kernel
theorem dX12_beginText_16 : decode cX12_beginText 16 = .ok (.invokevirtual 288, 3) := by decide +kernel
theorem glV_RX12_288 : GLV RX12 288 yX12_advance RX12 cX12_advance 2 none 0 := ⟨⟨(mT9 197 rfl rfl), (mT9 199 rfl rfl), (mTs 73 rfl rfl), (mT1 13 rfl rfl), (mT9 200 rfl rfl)⟩, by decide +kernel⟩
theorem dX12_beginText_19 : decode cX12_beginText 19 = .ok (.return_, 1) := by decide +kernel
set_option maxRecDepth 100000 in
set_option maxHeartbeats 4000000 in
theorem rX12_beginText (l : Launch) (D : va_G) (Y : Nat → ClassId) (h0 : Nat) (h1 : Nat) (h2 : Nat) (h3 : Nat) (h4 : Nat) (h5 : Nat) (h6 : Nat) (p2 : Int32) (k5 : Nat) (k6 : Nat) (p7 : Int32) (p8 : Int32) (p9 : Int32) (k10 : Nat) (p11 : Int32) (q12 : Int64) (k15 : Nat) (k16 : Nat) (f0 : Nat → Int32) (f1 : Nat → Int32) (f3 : Nat → Int32) (f4 : Nat → Int32) (f13 : Nat → Int32) (f14 : Nat → Int32) (HI : INV f0) (HL : k5 ≤ 1600) (HP : PLV f13)   (sz : Nat) : Met l yX12_beginText (WSm yX12_beginText cX12_beginText 1 none) (mkR 4 0 0 86) (PreC D Y [.ref h0] [(h0, oC 13 [.ref h1, .ref h2, .int p2, .ref h3, .ref h4, .int (nI k5), .int (nI k6), .int p7, .int p8, .int p9, .int (nI k10), .int p11, .long q12, .ref h5, .ref h6, .int (nI k15), .int (nI k16)]), (h1, aI Y 3640 f0), (h2, aZ Y 2 f1), (h3, aZ Y 80 f3), (h4, aB Y 1600 f4), (h5, aI Y 200 f13), (h6, aI Y 800 f14)] sz) (QV D (fun (u : WU) => (u.1 1) ≤ (u.1 0) ∧ (u.1 0) ≤ k5 ∧ ((u.2.1 2) = 0 ∨ (u.1 1) < (u.1 0))) (fun (u : WU) => [(h0, oC 13 [.ref h1, .ref h2, .int p2, .ref h3, .ref h4, .int (nI k5), .int (nI (u.1 0)), .int (u.2.1 0), .int (u.2.1 1), .int (u.2.1 2), .int (nI (u.1 1)), .int p11, .long (u.2.2.1 0), .ref h5, .ref h6, .int (nI k15), .int (nI k16)]), (h1, aI Y 3640 f0), (h2, aZ Y 2 f1), (h3, aZ Y 80 f3), (h4, aB Y 1600 f4), (h5, aI Y 200 f13), (h6, aI Y 800 f14)]) (va_A [(h0, oC 13 [.ref h1, .ref h2, .int p2, .ref h3, .ref h4, .int (nI k5), .int (nI k6), .int p7, .int p8, .int p9, .int (nI k10), .int p11, .long q12, .ref h5, .ref h6, .int (nI k15), .int (nI k16)]), (h1, aI Y 3640 f0), (h2, aZ Y 2 f1), (h3, aZ Y 80 f3), (h4, aB Y 1600 f4), (h5, aI Y 200 f13), (h6, aI Y 800 f14)] sz)) 0 0 (va_A [(h0, oC 13 [.ref h1, .ref h2, .int p2, .ref h3, .ref h4, .int (nI k5), .int (nI k6), .int p7, .int p8, .int p9, .int (nI k10), .int p11, .long q12, .ref h5, .ref h6, .int (nI k15), .int (nI k16)]), (h1, aI Y 3640 f0), (h2, aZ Y 2 f1), (h3, aZ Y 80 f3), (h4, aB Y 1600 f4), (h5, aI Y 200 f13), (h6, aI Y 800 f14)] sz) :=
  met_of  (by decide +kernel) (Nat.le_of_ble_eq_true rfl) (fun p e s m args below meth c B hin hsz => by
    have B : VB p s m args meth c D Y (va_A [(h0, oC 13 [.ref h1, .ref h2, .int p2, .ref h3, .ref h4, .int (nI k5), .int (nI k6), .int p7, .int p8, .int p9, .int (nI k10), .int p11, .long q12, .ref h5, .ref h6, .int (nI k15), .int (nI k16)]), (h1, aI Y 3640 f0), (h2, aZ Y 2 f1), (h3, aZ Y 80 f3), (h4, aB Y 1600 f4), (h5, aI Y 200 f13), (h6, aI Y 800 f14)] sz) cX12_beginText 1 RX12 none := B
    refine V_aload_n 0 B dX12_beginText_0 0 rfl ?_
    refine V_iconst 1 B (v := 0) dX12_beginText_1 (by decide +kernel) ?_
    refine V_put 2 B gp_RX12_246 0 rfl (Nat.le_of_ble_eq_true rfl) rfl rfl dX12_beginText_2 [(h0, oC 13 [.ref h1, .ref h2, .int p2, .ref h3, .ref h4, .int (nI k5), .int (nI k6), .int 0, .int p8, .int p9, .int (nI k10), .int p11, .long q12, .ref h5, .ref h6, .int (nI k15), .int (nI k16)]), (h1, aI Y 3640 f0), (h2, aZ Y 2 f1), (h3, aZ Y 80 f3), (h4, aB Y 1600 f4), (h5, aI Y 200 f13), (h6, aI Y 800 f14)] rfl ?_
    refine V_aload_n 5 B dX12_beginText_5 0 rfl ?_
    refine V_iconst 6 B (v := (-1)) dX12_beginText_6 (by decide +kernel) ?_
    refine V_put 7 B gp_RX12_24 0 rfl (Nat.le_of_ble_eq_true rfl) rfl rfl dX12_beginText_7 [(h0, oC 13 [.ref h1, .ref h2, .int p2, .ref h3, .ref h4, .int (nI k5), .int (nI k6), .int 0, .int (-1), .int p9, .int (nI k10), .int p11, .long q12, .ref h5, .ref h6, .int (nI k15), .int (nI k16)]), (h1, aI Y 3640 f0), (h2, aZ Y 2 f1), (h3, aZ Y 80 f3), (h4, aB Y 1600 f4), (h5, aI Y 200 f13), (h6, aI Y 800 f14)] rfl ?_
    refine V_aload_n 10 B dX12_beginText_10 0 rfl ?_
    refine V_iconst 11 B (v := 0) dX12_beginText_11 (by decide +kernel) ?_
    refine V_put 12 B gp_RX12_264 0 rfl (Nat.le_of_ble_eq_true rfl) rfl rfl dX12_beginText_12 [(h0, oC 13 [.ref h1, .ref h2, .int p2, .ref h3, .ref h4, .int (nI k5), .int 0, .int 0, .int (-1), .int p9, .int (nI k10), .int p11, .long q12, .ref h5, .ref h6, .int (nI k15), .int (nI k16)]), (h1, aI Y 3640 f0), (h2, aZ Y 2 f1), (h3, aZ Y 80 f3), (h4, aB Y 1600 f4), (h5, aI Y 200 f13), (h6, aI Y 800 f14)] rfl ?_
    refine V_aload_n 15 B dX12_beginText_15 0 rfl ?_
    refine V_cvv 16 B (st := []) (As := []) (fun sz => rX12_advance l D Y h0 h1 h2 h3 h4 h5 h6 p2 k5 0 0 (-1) p9 k10 p11 q12 k15 k16 f0 f1 f3 f4 f13 f14 HI (by omega) HP (by omega) sz) glV_RX12_288 ⟨rfl, rfl⟩ ⟨(Nat.le_of_ble_eq_true rfl), (Nat.le_of_ble_eq_true rfl)⟩ ⟨(Nat.le_of_ble_eq_true rfl), (Nat.le_of_ble_eq_true rfl)⟩ [0, 0, 0, 0, 0, 0, 0] rfl 13 0 rfl rfl rfl rfl (Nat.le_of_ble_eq_true rfl) rfl (fun _ _ => rfl) dX12_beginText_16 (fun u1 w2 => ?_)
    refine V_ws [(h0, oC 13 [.ref h1, .ref h2, .int p2, .ref h3, .ref h4, .int (nI k5), .int (nI (u1.1 0)), .int 0, .int (-1), .int (u1.2.1 0), .int (nI (u1.1 1)), .int p11, .long (u1.2.2.1 0), .ref h5, .ref h6, .int (nI k15), .int (nI k16)]), (h1, aI Y 3640 f0), (h2, aZ Y 2 f1), (h3, aZ Y 80 f3), (h4, aB Y 1600 f4), (h5, aI Y 200 f13), (h6, aI Y 800 f14)] rfl ?_
    obtain ⟨x3, x4, x5, x6⟩ := w2
    exact V_vret 19 B dX12_beginText_19 (mkW [(u1.1 0), (u1.1 1)] [0, (-1), (u1.2.1 0)] [(u1.2.2.1 0)] [] [] []) ⟨(show (u1.1 1) ≤ (u1.1 0) by omega), (show (u1.1 0) ≤ k5 by omega), (show ((u1.2.1 0) = 0 ∨ (u1.1 1) < (u1.1 0)) by first | assumption | exact Or.inr (by omega))⟩ rfl)
theorem dX12_fail_0 : decode cX12_fail 0 = .ok (.aload_n 0, 1) := by decide +kernel
theorem dX12_fail_1 : decode cX12_fail 1 = .ok (.iload_n 1, 1) := by decide +kernel
theorem dX12_fail_2 : decode cX12_fail 2 = .ok (.putfield 246, 3) := by decide +kernel
theorem dX12_fail_5 : decode cX12_fail 5 = .ok (.aload_n 0, 1) := by decide +kernel
theorem dX12_fail_6 : decode cX12_fail 6 = .ok (.aload_n 0, 1) := by decide +kernel
theorem dX12_fail_7 : decode cX12_fail 7 = .ok (.getfield 270, 3) := by decide +kernel
theorem dX12_fail_10 : decode cX12_fail 10 = .ok (.putfield 24, 3) := by decide +kernel
theorem dX12_fail_13 : decode cX12_fail 13 = .ok (.iconst 0, 1) := by decide +kernel
theorem dX12_fail_14 : decode cX12_fail 14 = .ok (.ireturn, 1) := by decide +kernel
set_option maxRecDepth 100000 in
set_option maxHeartbeats 4000000 in
theorem rX12_fail (l : Launch) (D : va_G) (Y : Nat → ClassId) (h0 : Nat) (h1 : Nat) (h2 : Nat) (h3 : Nat) (h4 : Nat) (h5 : Nat) (h6 : Nat) (p2 : Int32) (k5 : Nat) (k6 : Nat) (p7 : Int32) (p8 : Int32) (p9 : Int32) (k10 : Nat) (p11 : Int32) (q12 : Int64) (k15 : Nat) (k16 : Nat) (f0 : Nat → Int32) (f1 : Nat → Int32) (f3 : Nat → Int32) (f4 : Nat → Int32) (f13 : Nat → Int32) (f14 : Nat → Int32) (HI : INV f0) (HL : k5 ≤ 1600) (HP : PLV f13) (s0 : Int32)  (sz : Nat) : Met l yX12_fail (WSm yX12_fail cX12_fail 2 (some .boolean)) (mkR 0 0 0 0) (PreC D Y [.ref h0, .int s0] [(h0, oC 13 [.ref h1, .ref h2, .int p2, .ref h3, .ref h4, .int (nI k5), .int (nI k6), .int p7, .int p8, .int p9, .int (nI k10), .int p11, .long q12, .ref h5, .ref h6, .int (nI k15), .int (nI k16)]), (h1, aI Y 3640 f0), (h2, aZ Y 2 f1), (h3, aZ Y 80 f3), (h4, aB Y 1600 f4), (h5, aI Y 200 f13), (h6, aI Y 800 f14)] sz) (QI D (fun (r : Int32) (u : WU) => r = 0) (fun (u : WU) => [(h0, oC 13 [.ref h1, .ref h2, .int p2, .ref h3, .ref h4, .int (nI k5), .int (nI k6), .int (u.2.1 0), .int (u.2.1 1), .int p9, .int (nI k10), .int p11, .long q12, .ref h5, .ref h6, .int (nI k15), .int (nI k16)]), (h1, aI Y 3640 f0), (h2, aZ Y 2 f1), (h3, aZ Y 80 f3), (h4, aB Y 1600 f4), (h5, aI Y 200 f13), (h6, aI Y 800 f14)]) (va_A [(h0, oC 13 [.ref h1, .ref h2, .int p2, .ref h3, .ref h4, .int (nI k5), .int (nI k6), .int p7, .int p8, .int p9, .int (nI k10), .int p11, .long q12, .ref h5, .ref h6, .int (nI k15), .int (nI k16)]), (h1, aI Y 3640 f0), (h2, aZ Y 2 f1), (h3, aZ Y 80 f3), (h4, aB Y 1600 f4), (h5, aI Y 200 f13), (h6, aI Y 800 f14)] sz)) 0 0 (va_A [(h0, oC 13 [.ref h1, .ref h2, .int p2, .ref h3, .ref h4, .int (nI k5), .int (nI k6), .int p7, .int p8, .int p9, .int (nI k10), .int p11, .long q12, .ref h5, .ref h6, .int (nI k15), .int (nI k16)]), (h1, aI Y 3640 f0), (h2, aZ Y 2 f1), (h3, aZ Y 80 f3), (h4, aB Y 1600 f4), (h5, aI Y 200 f13), (h6, aI Y 800 f14)] sz) :=
  met_of  (by decide +kernel) (Nat.le_of_ble_eq_true rfl) (fun p e s m args below meth c B hin hsz => by
    have B : VB p s m args meth c D Y (va_A [(h0, oC 13 [.ref h1, .ref h2, .int p2, .ref h3, .ref h4, .int (nI k5), .int (nI k6), .int p7, .int p8, .int p9, .int (nI k10), .int p11, .long q12, .ref h5, .ref h6, .int (nI k15), .int (nI k16)]), (h1, aI Y 3640 f0), (h2, aZ Y 2 f1), (h3, aZ Y 80 f3), (h4, aB Y 1600 f4), (h5, aI Y 200 f13), (h6, aI Y 800 f14)] sz) cX12_fail 2 RX12 (some .boolean) := B
    refine V_aload_n 0 B dX12_fail_0 0 rfl ?_
    refine V_iload_n 1 B dX12_fail_1 1 rfl ?_
    refine V_put 2 B gp_RX12_246 0 rfl (Nat.le_of_ble_eq_true rfl) rfl rfl dX12_fail_2 [(h0, oC 13 [.ref h1, .ref h2, .int p2, .ref h3, .ref h4, .int (nI k5), .int (nI k6), .int s0, .int p8, .int p9, .int (nI k10), .int p11, .long q12, .ref h5, .ref h6, .int (nI k15), .int (nI k16)]), (h1, aI Y 3640 f0), (h2, aZ Y 2 f1), (h3, aZ Y 80 f3), (h4, aB Y 1600 f4), (h5, aI Y 200 f13), (h6, aI Y 800 f14)] rfl ?_
    refine V_aload_n 5 B dX12_fail_5 0 rfl ?_
    refine V_aload_n 6 B dX12_fail_6 0 rfl ?_
    refine V_get 7 B gf_RX12_270 0 rfl rfl dX12_fail_7 ?_
    refine V_put 10 B gp_RX12_24 0 rfl (Nat.le_of_ble_eq_true rfl) rfl rfl dX12_fail_10 [(h0, oC 13 [.ref h1, .ref h2, .int p2, .ref h3, .ref h4, .int (nI k5), .int (nI k6), .int s0, .int (nI k10), .int p9, .int (nI k10), .int p11, .long q12, .ref h5, .ref h6, .int (nI k15), .int (nI k16)]), (h1, aI Y 3640 f0), (h2, aZ Y 2 f1), (h3, aZ Y 80 f3), (h4, aB Y 1600 f4), (h5, aI Y 200 f13), (h6, aI Y 800 f14)] rfl ?_
    refine V_iconst 13 B (v := 0) dX12_fail_13 (by decide +kernel) ?_
    exact V_zret 14 B rfl dX12_fail_14 (mkW [] [s0, (nI k10)] [] [] [] []) rfl rfl)
theorem dX12_failAt_0 : decode cX12_failAt 0 = .ok (.aload_n 0, 1) := by decide +kernel
theorem dX12_failAt_1 : decode cX12_failAt 1 = .ok (.iload_n 1, 1) := by decide +kernel
theorem dX12_failAt_2 : decode cX12_failAt 2 = .ok (.putfield 246, 3) := by decide +kernel
theorem dX12_failAt_5 : decode cX12_failAt 5 = .ok (.aload_n 0, 1) := by decide +kernel
theorem dX12_failAt_6 : decode cX12_failAt 6 = .ok (.iload_n 2, 1) := by decide +kernel
theorem dX12_failAt_7 : decode cX12_failAt 7 = .ok (.putfield 24, 3) := by decide +kernel
theorem dX12_failAt_10 : decode cX12_failAt 10 = .ok (.iconst 0, 1) := by decide +kernel
theorem dX12_failAt_11 : decode cX12_failAt 11 = .ok (.ireturn, 1) := by decide +kernel
set_option maxRecDepth 100000 in
set_option maxHeartbeats 4000000 in
theorem rX12_failAt (l : Launch) (D : va_G) (Y : Nat → ClassId) (h0 : Nat) (h1 : Nat) (h2 : Nat) (h3 : Nat) (h4 : Nat) (h5 : Nat) (h6 : Nat) (p2 : Int32) (k5 : Nat) (k6 : Nat) (p7 : Int32) (p8 : Int32) (p9 : Int32) (k10 : Nat) (p11 : Int32) (q12 : Int64) (k15 : Nat) (k16 : Nat) (f0 : Nat → Int32) (f1 : Nat → Int32) (f3 : Nat → Int32) (f4 : Nat → Int32) (f13 : Nat → Int32) (f14 : Nat → Int32) (HI : INV f0) (HL : k5 ≤ 1600) (HP : PLV f13) (s0 : Int32) (s1 : Int32)  (sz : Nat) : Met l yX12_failAt (WSm yX12_failAt cX12_failAt 3 (some .boolean)) (mkR 0 0 0 0) (PreC D Y [.ref h0, .int s0, .int s1] [(h0, oC 13 [.ref h1, .ref h2, .int p2, .ref h3, .ref h4, .int (nI k5), .int (nI k6), .int p7, .int p8, .int p9, .int (nI k10), .int p11, .long q12, .ref h5, .ref h6, .int (nI k15), .int (nI k16)]), (h1, aI Y 3640 f0), (h2, aZ Y 2 f1), (h3, aZ Y 80 f3), (h4, aB Y 1600 f4), (h5, aI Y 200 f13), (h6, aI Y 800 f14)] sz) (QI D (fun (r : Int32) (u : WU) => r = 0) (fun (u : WU) => [(h0, oC 13 [.ref h1, .ref h2, .int p2, .ref h3, .ref h4, .int (nI k5), .int (nI k6), .int (u.2.1 0), .int (u.2.1 1), .int p9, .int (nI k10), .int p11, .long q12, .ref h5, .ref h6, .int (nI k15), .int (nI k16)]), (h1, aI Y 3640 f0), (h2, aZ Y 2 f1), (h3, aZ Y 80 f3), (h4, aB Y 1600 f4), (h5, aI Y 200 f13), (h6, aI Y 800 f14)]) (va_A [(h0, oC 13 [.ref h1, .ref h2, .int p2, .ref h3, .ref h4, .int (nI k5), .int (nI k6), .int p7, .int p8, .int p9, .int (nI k10), .int p11, .long q12, .ref h5, .ref h6, .int (nI k15), .int (nI k16)]), (h1, aI Y 3640 f0), (h2, aZ Y 2 f1), (h3, aZ Y 80 f3), (h4, aB Y 1600 f4), (h5, aI Y 200 f13), (h6, aI Y 800 f14)] sz)) 0 0 (va_A [(h0, oC 13 [.ref h1, .ref h2, .int p2, .ref h3, .ref h4, .int (nI k5), .int (nI k6), .int p7, .int p8, .int p9, .int (nI k10), .int p11, .long q12, .ref h5, .ref h6, .int (nI k15), .int (nI k16)]), (h1, aI Y 3640 f0), (h2, aZ Y 2 f1), (h3, aZ Y 80 f3), (h4, aB Y 1600 f4), (h5, aI Y 200 f13), (h6, aI Y 800 f14)] sz) :=
  met_of  (by decide +kernel) (Nat.le_of_ble_eq_true rfl) (fun p e s m args below meth c B hin hsz => by
    have B : VB p s m args meth c D Y (va_A [(h0, oC 13 [.ref h1, .ref h2, .int p2, .ref h3, .ref h4, .int (nI k5), .int (nI k6), .int p7, .int p8, .int p9, .int (nI k10), .int p11, .long q12, .ref h5, .ref h6, .int (nI k15), .int (nI k16)]), (h1, aI Y 3640 f0), (h2, aZ Y 2 f1), (h3, aZ Y 80 f3), (h4, aB Y 1600 f4), (h5, aI Y 200 f13), (h6, aI Y 800 f14)] sz) cX12_failAt 3 RX12 (some .boolean) := B
    refine V_aload_n 0 B dX12_failAt_0 0 rfl ?_
    refine V_iload_n 1 B dX12_failAt_1 1 rfl ?_
    refine V_put 2 B gp_RX12_246 0 rfl (Nat.le_of_ble_eq_true rfl) rfl rfl dX12_failAt_2 [(h0, oC 13 [.ref h1, .ref h2, .int p2, .ref h3, .ref h4, .int (nI k5), .int (nI k6), .int s0, .int p8, .int p9, .int (nI k10), .int p11, .long q12, .ref h5, .ref h6, .int (nI k15), .int (nI k16)]), (h1, aI Y 3640 f0), (h2, aZ Y 2 f1), (h3, aZ Y 80 f3), (h4, aB Y 1600 f4), (h5, aI Y 200 f13), (h6, aI Y 800 f14)] rfl ?_
    refine V_aload_n 5 B dX12_failAt_5 0 rfl ?_
    refine V_iload_n 6 B dX12_failAt_6 2 rfl ?_
    refine V_put 7 B gp_RX12_24 0 rfl (Nat.le_of_ble_eq_true rfl) rfl rfl dX12_failAt_7 [(h0, oC 13 [.ref h1, .ref h2, .int p2, .ref h3, .ref h4, .int (nI k5), .int (nI k6), .int s0, .int s1, .int p9, .int (nI k10), .int p11, .long q12, .ref h5, .ref h6, .int (nI k15), .int (nI k16)]), (h1, aI Y 3640 f0), (h2, aZ Y 2 f1), (h3, aZ Y 80 f3), (h4, aB Y 1600 f4), (h5, aI Y 200 f13), (h6, aI Y 800 f14)] rfl ?_
    refine V_iconst 10 B (v := 0) dX12_failAt_10 (by decide +kernel) ?_
    exact V_zret 11 B rfl dX12_failAt_11 (mkW [] [s0, s1] [] [] [] []) rfl rfl)
theorem dX12_readNumber_0 : decode cX12_readNumber 0 = .ok (.aload_n 0, 1) := by decide +kernel
theorem dX12_readNumber_1 : decode cX12_readNumber 1 = .ok (.getfield 283, 3) := by decide +kernel
theorem dX12_readNumber_4 : decode cX12_readNumber 4 = .ok (.iconst 2, 1) := by decide +kernel
theorem dX12_readNumber_5 : decode cX12_readNumber 5 = .ok (.if_icmp .eq 9, 3) := by decide +kernel
theorem dX12_readNumber_14 : decode cX12_readNumber 14 = .ok (.aload_n 0, 1) := by decide +kernel
theorem dX12_readNumber_15 : decode cX12_readNumber 15 = .ok (.getfield 273, 3) := by decide +kernel
theorem dX12_readNumber_18 : decode cX12_readNumber 18 = .ok (.iload_n 1, 1) := by decide +kernel
theorem dX12_readNumber_19 : decode cX12_readNumber 19 = .ok (.i2l, 1) := by decide +kernel
theorem dX12_readNumber_20 : decode cX12_readNumber 20 = .ok (.iload_n 2, 1) := by decide +kernel
theorem dX12_readNumber_21 : decode cX12_readNumber 21 = .ok (.i2l, 1) := by decide +kernel
theorem dX12_readNumber_22 : decode cX12_readNumber 22 = .ok (.invokestatic 41, 3) := by decide +kernel
theorem dX12_readNumber_25 : decode cX12_readNumber 25 = .ok (.ifCond .ne 9, 3) := by decide +kernel
theorem dX12_readNumber_28 : decode cX12_readNumber 28 = .ok (.aload_n 0, 1) := by decide +kernel
theorem dX12_readNumber_29 : decode cX12_readNumber 29 = .ok (.iconst 2, 1) := by decide +kernel
theorem dX12_readNumber_30 : decode cX12_readNumber 30 = .ok (.invokevirtual 291, 3) := by decide +kernel
theorem glV_RX12_291 : GLV RX12 291 yX12_fail RX12 cX12_fail 2 (some .boolean) 1 := ⟨⟨(mT9 236 rfl rfl), (mT9 238 rfl rfl), (mTs 78 rfl rfl), (mT1 13 rfl rfl), (mT9 239 rfl rfl)⟩, by decide +kernel⟩
theorem dX12_readNumber_33 : decode cX12_readNumber 33 = .ok (.ireturn, 1) := by decide +kernel
theorem dX12_readNumber_34 : decode cX12_readNumber 34 = .ok (.aload_n 0, 1) := by decide +kernel
theorem dX12_readNumber_35 : decode cX12_readNumber 35 = .ok (.aload_n 0, 1) := by decide +kernel
theorem dX12_readNumber_36 : decode cX12_readNumber 36 = .ok (.getfield 273, 3) := by decide +kernel
theorem dX12_readNumber_39 : decode cX12_readNumber 39 = .ok (.l2i, 1) := by decide +kernel
theorem dX12_readNumber_40 : decode cX12_readNumber 40 = .ok (.putfield 294, 3) := by decide +kernel
theorem gp_RX12_294 : GP RX12 294 13 11 .int false := ⟨RX12, TX12, 17, ⟨rfl, inw_X12, Nat.le_of_ble_eq_true rfl, (mT7 148 rfl rfl)⟩, ⟨tyX12, tyX12_ok⟩, nmX12, rfl, by decide +kernel, fun h => nomatch h⟩
theorem dX12_readNumber_43 : decode cX12_readNumber 43 = .ok (.aload_n 0, 1) := by decide +kernel
theorem dX12_readNumber_44 : decode cX12_readNumber 44 = .ok (.invokevirtual 288, 3) := by decide +kernel
theorem dX12_readNumber_47 : decode cX12_readNumber 47 = .ok (.iconst 1, 1) := by decide +kernel
theorem dX12_readNumber_48 : decode cX12_readNumber 48 = .ok (.ireturn, 1) := by decide +kernel
theorem dX12_readNumber_8 : decode cX12_readNumber 8 = .ok (.aload_n 0, 1) := by decide +kernel
theorem dX12_readNumber_9 : decode cX12_readNumber 9 = .ok (.iconst 1, 1) := by decide +kernel
theorem dX12_readNumber_10 : decode cX12_readNumber 10 = .ok (.invokevirtual 291, 3) := by decide +kernel
theorem dX12_readNumber_13 : decode cX12_readNumber 13 = .ok (.ireturn, 1) := by decide +kernel
set_option maxRecDepth 100000 in
set_option maxHeartbeats 4000000 in
theorem rX12_readNumber (l : Launch) (D : va_G) (Y : Nat → ClassId) (h0 : Nat) (h1 : Nat) (h2 : Nat) (h3 : Nat) (h4 : Nat) (h5 : Nat) (h6 : Nat) (p2 : Int32) (k5 : Nat) (k6 : Nat) (p7 : Int32) (p8 : Int32) (p9 : Int32) (k10 : Nat) (p11 : Int32) (q12 : Int64) (k15 : Nat) (k16 : Nat) (f0 : Nat → Int32) (f1 : Nat → Int32) (f3 : Nat → Int32) (f4 : Nat → Int32) (f13 : Nat → Int32) (f14 : Nat → Int32) (HI : INV f0) (HL : k5 ≤ 1600) (HP : PLV f13) (s0 : Int32) (s1 : Int32) (hx0 : k10 ≤ k6) (hx1 : k6 ≤ k5) (hx2 : (p9 = 0 ∨ k10 < k6)) (hx3 : 0 ≤ s0.toInt) (sz : Nat) : Met l yX12_readNumber (WSm yX12_readNumber cX12_readNumber 3 (some .boolean)) (mkR 4 0 0 86) (PreC D Y [.ref h0, .int s0, .int s1] [(h0, oC 13 [.ref h1, .ref h2, .int p2, .ref h3, .ref h4, .int (nI k5), .int (nI k6), .int p7, .int p8, .int p9, .int (nI k10), .int p11, .long q12, .ref h5, .ref h6, .int (nI k15), .int (nI k16)]), (h1, aI Y 3640 f0), (h2, aZ Y 2 f1), (h3, aZ Y 80 f3), (h4, aB Y 1600 f4), (h5, aI Y 200 f13), (h6, aI Y 800 f14)] sz) (QI D (fun (r : Int32) (u : WU) => (r = 0 ∨ (r = 1 ∧ k10 < (u.1 1) ∧ s0.toInt ≤ (u.2.1 3).toInt ∧ (u.2.1 3).toInt ≤ s1.toInt)) ∧ k10 ≤ (u.1 1) ∧ (u.1 1) ≤ (u.1 0) ∧ (u.1 0) ≤ k5 ∧ ((u.2.1 2) = 0 ∨ (u.1 1) < (u.1 0))) (fun (u : WU) => [(h0, oC 13 [.ref h1, .ref h2, .int p2, .ref h3, .ref h4, .int (nI k5), .int (nI (u.1 0)), .int (u.2.1 0), .int (u.2.1 1), .int (u.2.1 2), .int (nI (u.1 1)), .int (u.2.1 3), .long (u.2.2.1 0), .ref h5, .ref h6, .int (nI k15), .int (nI k16)]), (h1, aI Y 3640 f0), (h2, aZ Y 2 f1), (h3, aZ Y 80 f3), (h4, aB Y 1600 f4), (h5, aI Y 200 f13), (h6, aI Y 800 f14)]) (va_A [(h0, oC 13 [.ref h1, .ref h2, .int p2, .ref h3, .ref h4, .int (nI k5), .int (nI k6), .int p7, .int p8, .int p9, .int (nI k10), .int p11, .long q12, .ref h5, .ref h6, .int (nI k15), .int (nI k16)]), (h1, aI Y 3640 f0), (h2, aZ Y 2 f1), (h3, aZ Y 80 f3), (h4, aB Y 1600 f4), (h5, aI Y 200 f13), (h6, aI Y 800 f14)] sz)) 0 0 (va_A [(h0, oC 13 [.ref h1, .ref h2, .int p2, .ref h3, .ref h4, .int (nI k5), .int (nI k6), .int p7, .int p8, .int p9, .int (nI k10), .int p11, .long q12, .ref h5, .ref h6, .int (nI k15), .int (nI k16)]), (h1, aI Y 3640 f0), (h2, aZ Y 2 f1), (h3, aZ Y 80 f3), (h4, aB Y 1600 f4), (h5, aI Y 200 f13), (h6, aI Y 800 f14)] sz) :=
  met_of  (by decide +kernel) (Nat.le_of_ble_eq_true rfl) (fun p e s m args below meth c B hin hsz => by
    have B : VB p s m args meth c D Y (va_A [(h0, oC 13 [.ref h1, .ref h2, .int p2, .ref h3, .ref h4, .int (nI k5), .int (nI k6), .int p7, .int p8, .int p9, .int (nI k10), .int p11, .long q12, .ref h5, .ref h6, .int (nI k15), .int (nI k16)]), (h1, aI Y 3640 f0), (h2, aZ Y 2 f1), (h3, aZ Y 80 f3), (h4, aB Y 1600 f4), (h5, aI Y 200 f13), (h6, aI Y 800 f14)] sz) cX12_readNumber 3 RX12 (some .boolean) := B
    refine V_aload_n 0 B dX12_readNumber_0 0 rfl ?_
    refine V_get 1 B gf_RX12_283 0 rfl rfl dX12_readNumber_1 ?_
    refine V_iconst 4 B (v := 2) dX12_readNumber_4 (by decide +kernel) ?_
    refine V_icmp_eq 5 B 14 dX12_readNumber_5 (by decide) (fun kk0 => ?_) (fun kk0 => ?_)
    ·
      obtain rfl : p9 = 2 := kk0
      have e2 : (2 : Int32).toInt = 2 := by decide +kernel
      refine V_aload_n 14 B dX12_readNumber_14 0 rfl ?_
      refine V_get 15 B gf_RX12_273 0 rfl rfl dX12_readNumber_15 ?_
      refine V_iload_n 18 B dX12_readNumber_18 1 rfl ?_
      refine V_i2l 19 B dX12_readNumber_19 rfl ?_
      refine V_nml (fun o3 e4 => ?_)
      have x5 : o3.toInt = s0.toInt := by rw [e4, Int32.toInt_toInt64]
      refine V_iload_n 20 B dX12_readNumber_20 2 rfl ?_
      refine V_i2l 21 B dX12_readNumber_21 rfl ?_
      refine V_nml (fun o6 e7 => ?_)
      have x8 : o6.toInt = s1.toInt := by rw [e7, Int32.toInt_toInt64]
      refine V_csi 22 B (st := []) (As := [.long q12, .long o3, .long o6]) (fun sz => rX12_inRange l D Y q12 o3 o6 sz) glS_RX12_41 ⟨rfl, rfl⟩ ⟨(Nat.le_of_ble_eq_true rfl), (Nat.le_of_ble_eq_true rfl)⟩ ⟨(Nat.le_of_ble_eq_true rfl), (Nat.le_of_ble_eq_true rfl)⟩ [] rfl rfl (Nat.le_of_ble_eq_true rfl) rfl (fun _ _ _ => rfl) dX12_readNumber_22 (fun j9 u10 w11 => ?_)
      refine V_ws [(h0, oC 13 [.ref h1, .ref h2, .int p2, .ref h3, .ref h4, .int (nI k5), .int (nI k6), .int p7, .int p8, .int 2, .int (nI k10), .int p11, .long q12, .ref h5, .ref h6, .int (nI k15), .int (nI k16)]), (h1, aI Y 3640 f0), (h2, aZ Y 2 f1), (h3, aZ Y 80 f3), (h4, aB Y 1600 f4), (h5, aI Y 200 f13), (h6, aI Y 800 f14)] rfl ?_
      rcases w11 with ⟨rfl, x14⟩ | ⟨rfl, x12, x13⟩
      ·
        refine V_if_ne_f 25 B 34 dX12_readNumber_25 (by decide) (by decide +kernel) ?_
        refine V_aload_n 28 B dX12_readNumber_28 0 rfl ?_
        refine V_iconst 29 B (v := 2) dX12_readNumber_29 (by decide +kernel) ?_
        refine V_cvi 30 B (st := []) (As := [.int 2]) (fun sz => rX12_fail l D Y h0 h1 h2 h3 h4 h5 h6 p2 k5 k6 p7 p8 2 k10 p11 q12 k15 k16 f0 f1 f3 f4 f13 f14 HI (by omega) HP 2 sz) glV_RX12_291 ⟨rfl, rfl⟩ ⟨(Nat.le_of_ble_eq_true rfl), (Nat.le_of_ble_eq_true rfl)⟩ ⟨(Nat.le_of_ble_eq_true rfl), (Nat.le_of_ble_eq_true rfl)⟩ [0, 0, 0, 0, 0, 0, 0] rfl 13 0 rfl rfl rfl rfl (Nat.le_of_ble_eq_true rfl) rfl (fun _ _ _ => rfl) dX12_readNumber_30 (fun j15 u16 w17 => ?_)
        refine V_ws [(h0, oC 13 [.ref h1, .ref h2, .int p2, .ref h3, .ref h4, .int (nI k5), .int (nI k6), .int (u16.2.1 0), .int (u16.2.1 1), .int 2, .int (nI k10), .int p11, .long q12, .ref h5, .ref h6, .int (nI k15), .int (nI k16)]), (h1, aI Y 3640 f0), (h2, aZ Y 2 f1), (h3, aZ Y 80 f3), (h4, aB Y 1600 f4), (h5, aI Y 200 f13), (h6, aI Y 800 f14)] rfl ?_
        have x18 := w17
        clear w17
        obtain rfl := x18
        exact V_zret 33 B rfl dX12_readNumber_33 (mkW [k6, k10] [(u16.2.1 0), (u16.2.1 1), 2, p11] [q12] [] [] []) ⟨(Or.inl rfl), (show k10 ≤ k10 by omega), (show k10 ≤ k6 by omega), (show k6 ≤ k5 by omega), (Or.inr (show k10 < k6 by first | omega | exact (Or.resolve_left hx2 (by decide))))⟩ rfl
      ·
        refine V_if_ne_t 25 B 34 dX12_readNumber_25 (by decide) (by decide +kernel) ?_
        refine V_aload_n 34 B dX12_readNumber_34 0 rfl ?_
        refine V_aload_n 35 B dX12_readNumber_35 0 rfl ?_
        refine V_get 36 B gf_RX12_273 0 rfl rfl dX12_readNumber_36 ?_
        refine V_l2i 39 B dX12_readNumber_39 rfl ?_
        refine V_nmi (fun j19 e20 => ?_)
        have x21 : j19.toInt = q12.toInt := by rw [e20]; exact l2i_rng (h := s1.toInt) (by omega) (by omega) (i_hi _)
        have x22 : k10 < k6 := by
          rcases hx2 with z | z
          · first | contradiction | exact absurd z (by decide) | omega
          · exact z
        refine V_put 40 B gp_RX12_294 0 rfl (Nat.le_of_ble_eq_true rfl) rfl rfl dX12_readNumber_40 [(h0, oC 13 [.ref h1, .ref h2, .int p2, .ref h3, .ref h4, .int (nI k5), .int (nI k6), .int p7, .int p8, .int 2, .int (nI k10), .int j19, .long q12, .ref h5, .ref h6, .int (nI k15), .int (nI k16)]), (h1, aI Y 3640 f0), (h2, aZ Y 2 f1), (h3, aZ Y 80 f3), (h4, aB Y 1600 f4), (h5, aI Y 200 f13), (h6, aI Y 800 f14)] rfl ?_
        refine V_aload_n 43 B dX12_readNumber_43 0 rfl ?_
        refine V_cvv 44 B (st := []) (As := []) (fun sz => rX12_advance l D Y h0 h1 h2 h3 h4 h5 h6 p2 k5 k6 p7 p8 2 k10 j19 q12 k15 k16 f0 f1 f3 f4 f13 f14 HI (by omega) HP (by omega) sz) glV_RX12_288 ⟨rfl, rfl⟩ ⟨(Nat.le_of_ble_eq_true rfl), (Nat.le_of_ble_eq_true rfl)⟩ ⟨(Nat.le_of_ble_eq_true rfl), (Nat.le_of_ble_eq_true rfl)⟩ [0, 0, 0, 0, 0, 0, 0] rfl 13 0 rfl rfl rfl rfl (Nat.le_of_ble_eq_true rfl) rfl (fun _ _ => rfl) dX12_readNumber_44 (fun u24 w25 => ?_)
        refine V_ws [(h0, oC 13 [.ref h1, .ref h2, .int p2, .ref h3, .ref h4, .int (nI k5), .int (nI (u24.1 0)), .int p7, .int p8, .int (u24.2.1 0), .int (nI (u24.1 1)), .int j19, .long (u24.2.2.1 0), .ref h5, .ref h6, .int (nI k15), .int (nI k16)]), (h1, aI Y 3640 f0), (h2, aZ Y 2 f1), (h3, aZ Y 80 f3), (h4, aB Y 1600 f4), (h5, aI Y 200 f13), (h6, aI Y 800 f14)] rfl ?_
        obtain ⟨x26, x27, x28, x29⟩ := w25
        refine V_iconst 47 B (v := 1) dX12_readNumber_47 (by decide +kernel) ?_
        exact V_zret 48 B rfl dX12_readNumber_48 (mkW [(u24.1 0), (u24.1 1)] [p7, p8, (u24.2.1 0), j19] [(u24.2.2.1 0)] [] [] []) ⟨(Or.inr ⟨rfl, (show k10 < (u24.1 1) by omega), (show s0.toInt ≤ (j19 : Int32).toInt ∧ (j19 : Int32).toInt ≤ s1.toInt by omega)⟩), (show k10 ≤ (u24.1 1) by omega), (show (u24.1 1) ≤ (u24.1 0) by omega), (show (u24.1 0) ≤ k5 by omega), (show ((u24.2.1 0) = 0 ∨ (u24.1 1) < (u24.1 0)) by first | assumption | exact Or.inr (by omega))⟩ rfl
    ·
      have x30 := x_ne kk0
      rw [show (2 : Int32).toInt = 2 by decide +kernel] at x30
      refine V_aload_n 8 B dX12_readNumber_8 0 rfl ?_
      refine V_iconst 9 B (v := 1) dX12_readNumber_9 (by decide +kernel) ?_
      refine V_cvi 10 B (st := []) (As := [.int 1]) (fun sz => rX12_fail l D Y h0 h1 h2 h3 h4 h5 h6 p2 k5 k6 p7 p8 p9 k10 p11 q12 k15 k16 f0 f1 f3 f4 f13 f14 HI (by omega) HP 1 sz) glV_RX12_291 ⟨rfl, rfl⟩ ⟨(Nat.le_of_ble_eq_true rfl), (Nat.le_of_ble_eq_true rfl)⟩ ⟨(Nat.le_of_ble_eq_true rfl), (Nat.le_of_ble_eq_true rfl)⟩ [0, 0, 0, 0, 0, 0, 0] rfl 13 0 rfl rfl rfl rfl (Nat.le_of_ble_eq_true rfl) rfl (fun _ _ _ => rfl) dX12_readNumber_10 (fun j31 u32 w33 => ?_)
      refine V_ws [(h0, oC 13 [.ref h1, .ref h2, .int p2, .ref h3, .ref h4, .int (nI k5), .int (nI k6), .int (u32.2.1 0), .int (u32.2.1 1), .int p9, .int (nI k10), .int p11, .long q12, .ref h5, .ref h6, .int (nI k15), .int (nI k16)]), (h1, aI Y 3640 f0), (h2, aZ Y 2 f1), (h3, aZ Y 80 f3), (h4, aB Y 1600 f4), (h5, aI Y 200 f13), (h6, aI Y 800 f14)] rfl ?_
      have x34 := w33
      clear w33
      obtain rfl := x34
      exact V_zret 13 B rfl dX12_readNumber_13 (mkW [k6, k10] [(u32.2.1 0), (u32.2.1 1), p9, p11] [q12] [] [] []) ⟨(Or.inl rfl), (show k10 ≤ k10 by omega), (show k10 ≤ k6 by omega), (show k6 ≤ k5 by omega), (show (p9 = 0 ∨ k10 < k6) by first | assumption | exact Or.inr (by omega))⟩ rfl)
theorem dX12_readEnd_0 : decode cX12_readEnd 0 = .ok (.aload_n 0, 1) := by decide +kernel
theorem dX12_readEnd_1 : decode cX12_readEnd 1 = .ok (.getfield 283, 3) := by decide +kernel
theorem dX12_readEnd_4 : decode cX12_readEnd 4 = .ok (.iconst 3, 1) := by decide +kernel
theorem dX12_readEnd_5 : decode cX12_readEnd 5 = .ok (.if_icmp .eq 9, 3) := by decide +kernel
theorem dX12_readEnd_14 : decode cX12_readEnd 14 = .ok (.aload_n 0, 1) := by decide +kernel
theorem dX12_readEnd_15 : decode cX12_readEnd 15 = .ok (.invokevirtual 288, 3) := by decide +kernel
theorem dX12_readEnd_18 : decode cX12_readEnd 18 = .ok (.iconst 1, 1) := by decide +kernel
theorem dX12_readEnd_19 : decode cX12_readEnd 19 = .ok (.ireturn, 1) := by decide +kernel
theorem dX12_readEnd_8 : decode cX12_readEnd 8 = .ok (.aload_n 0, 1) := by decide +kernel
theorem dX12_readEnd_9 : decode cX12_readEnd 9 = .ok (.iconst 1, 1) := by decide +kernel
theorem dX12_readEnd_10 : decode cX12_readEnd 10 = .ok (.invokevirtual 291, 3) := by decide +kernel
theorem dX12_readEnd_13 : decode cX12_readEnd 13 = .ok (.ireturn, 1) := by decide +kernel
set_option maxRecDepth 100000 in
set_option maxHeartbeats 4000000 in
theorem rX12_readEnd (l : Launch) (D : va_G) (Y : Nat → ClassId) (h0 : Nat) (h1 : Nat) (h2 : Nat) (h3 : Nat) (h4 : Nat) (h5 : Nat) (h6 : Nat) (p2 : Int32) (k5 : Nat) (k6 : Nat) (p7 : Int32) (p8 : Int32) (p9 : Int32) (k10 : Nat) (p11 : Int32) (q12 : Int64) (k15 : Nat) (k16 : Nat) (f0 : Nat → Int32) (f1 : Nat → Int32) (f3 : Nat → Int32) (f4 : Nat → Int32) (f13 : Nat → Int32) (f14 : Nat → Int32) (HI : INV f0) (HL : k5 ≤ 1600) (HP : PLV f13)  (hx0 : k10 ≤ k6) (hx1 : k6 ≤ k5) (hx2 : (p9 = 0 ∨ k10 < k6)) (sz : Nat) : Met l yX12_readEnd (WSm yX12_readEnd cX12_readEnd 1 (some .boolean)) (mkR 4 0 0 86) (PreC D Y [.ref h0] [(h0, oC 13 [.ref h1, .ref h2, .int p2, .ref h3, .ref h4, .int (nI k5), .int (nI k6), .int p7, .int p8, .int p9, .int (nI k10), .int p11, .long q12, .ref h5, .ref h6, .int (nI k15), .int (nI k16)]), (h1, aI Y 3640 f0), (h2, aZ Y 2 f1), (h3, aZ Y 80 f3), (h4, aB Y 1600 f4), (h5, aI Y 200 f13), (h6, aI Y 800 f14)] sz) (QI D (fun (r : Int32) (u : WU) => (r = 0 ∨ (r = 1 ∧ k10 < (u.1 1))) ∧ k10 ≤ (u.1 1) ∧ (u.1 1) ≤ (u.1 0) ∧ (u.1 0) ≤ k5 ∧ ((u.2.1 2) = 0 ∨ (u.1 1) < (u.1 0))) (fun (u : WU) => [(h0, oC 13 [.ref h1, .ref h2, .int p2, .ref h3, .ref h4, .int (nI k5), .int (nI (u.1 0)), .int (u.2.1 0), .int (u.2.1 1), .int (u.2.1 2), .int (nI (u.1 1)), .int p11, .long (u.2.2.1 0), .ref h5, .ref h6, .int (nI k15), .int (nI k16)]), (h1, aI Y 3640 f0), (h2, aZ Y 2 f1), (h3, aZ Y 80 f3), (h4, aB Y 1600 f4), (h5, aI Y 200 f13), (h6, aI Y 800 f14)]) (va_A [(h0, oC 13 [.ref h1, .ref h2, .int p2, .ref h3, .ref h4, .int (nI k5), .int (nI k6), .int p7, .int p8, .int p9, .int (nI k10), .int p11, .long q12, .ref h5, .ref h6, .int (nI k15), .int (nI k16)]), (h1, aI Y 3640 f0), (h2, aZ Y 2 f1), (h3, aZ Y 80 f3), (h4, aB Y 1600 f4), (h5, aI Y 200 f13), (h6, aI Y 800 f14)] sz)) 0 0 (va_A [(h0, oC 13 [.ref h1, .ref h2, .int p2, .ref h3, .ref h4, .int (nI k5), .int (nI k6), .int p7, .int p8, .int p9, .int (nI k10), .int p11, .long q12, .ref h5, .ref h6, .int (nI k15), .int (nI k16)]), (h1, aI Y 3640 f0), (h2, aZ Y 2 f1), (h3, aZ Y 80 f3), (h4, aB Y 1600 f4), (h5, aI Y 200 f13), (h6, aI Y 800 f14)] sz) :=
  met_of  (by decide +kernel) (Nat.le_of_ble_eq_true rfl) (fun p e s m args below meth c B hin hsz => by
    have B : VB p s m args meth c D Y (va_A [(h0, oC 13 [.ref h1, .ref h2, .int p2, .ref h3, .ref h4, .int (nI k5), .int (nI k6), .int p7, .int p8, .int p9, .int (nI k10), .int p11, .long q12, .ref h5, .ref h6, .int (nI k15), .int (nI k16)]), (h1, aI Y 3640 f0), (h2, aZ Y 2 f1), (h3, aZ Y 80 f3), (h4, aB Y 1600 f4), (h5, aI Y 200 f13), (h6, aI Y 800 f14)] sz) cX12_readEnd 1 RX12 (some .boolean) := B
    refine V_aload_n 0 B dX12_readEnd_0 0 rfl ?_
    refine V_get 1 B gf_RX12_283 0 rfl rfl dX12_readEnd_1 ?_
    refine V_iconst 4 B (v := 3) dX12_readEnd_4 (by decide +kernel) ?_
    refine V_icmp_eq 5 B 14 dX12_readEnd_5 (by decide) (fun kk0 => ?_) (fun kk0 => ?_)
    ·
      obtain rfl : p9 = 3 := kk0
      have e2 : (3 : Int32).toInt = 3 := by decide +kernel
      have x3 : k10 < k6 := by
        rcases hx2 with z | z
        · first | contradiction | exact absurd z (by decide) | omega
        · exact z
      refine V_aload_n 14 B dX12_readEnd_14 0 rfl ?_
      refine V_cvv 15 B (st := []) (As := []) (fun sz => rX12_advance l D Y h0 h1 h2 h3 h4 h5 h6 p2 k5 k6 p7 p8 3 k10 p11 q12 k15 k16 f0 f1 f3 f4 f13 f14 HI (by omega) HP (by omega) sz) glV_RX12_288 ⟨rfl, rfl⟩ ⟨(Nat.le_of_ble_eq_true rfl), (Nat.le_of_ble_eq_true rfl)⟩ ⟨(Nat.le_of_ble_eq_true rfl), (Nat.le_of_ble_eq_true rfl)⟩ [0, 0, 0, 0, 0, 0, 0] rfl 13 0 rfl rfl rfl rfl (Nat.le_of_ble_eq_true rfl) rfl (fun _ _ => rfl) dX12_readEnd_15 (fun u5 w6 => ?_)
      refine V_ws [(h0, oC 13 [.ref h1, .ref h2, .int p2, .ref h3, .ref h4, .int (nI k5), .int (nI (u5.1 0)), .int p7, .int p8, .int (u5.2.1 0), .int (nI (u5.1 1)), .int p11, .long (u5.2.2.1 0), .ref h5, .ref h6, .int (nI k15), .int (nI k16)]), (h1, aI Y 3640 f0), (h2, aZ Y 2 f1), (h3, aZ Y 80 f3), (h4, aB Y 1600 f4), (h5, aI Y 200 f13), (h6, aI Y 800 f14)] rfl ?_
      obtain ⟨x7, x8, x9, x10⟩ := w6
      refine V_iconst 18 B (v := 1) dX12_readEnd_18 (by decide +kernel) ?_
      exact V_zret 19 B rfl dX12_readEnd_19 (mkW [(u5.1 0), (u5.1 1)] [p7, p8, (u5.2.1 0)] [(u5.2.2.1 0)] [] [] []) ⟨(Or.inr ⟨rfl, (show k10 < (u5.1 1) by omega)⟩), (show k10 ≤ (u5.1 1) by omega), (show (u5.1 1) ≤ (u5.1 0) by omega), (show (u5.1 0) ≤ k5 by omega), (show ((u5.2.1 0) = 0 ∨ (u5.1 1) < (u5.1 0)) by first | assumption | exact Or.inr (by omega))⟩ rfl
    ·
      have x11 := x_ne kk0
      rw [show (3 : Int32).toInt = 3 by decide +kernel] at x11
      refine V_aload_n 8 B dX12_readEnd_8 0 rfl ?_
      refine V_iconst 9 B (v := 1) dX12_readEnd_9 (by decide +kernel) ?_
      refine V_cvi 10 B (st := []) (As := [.int 1]) (fun sz => rX12_fail l D Y h0 h1 h2 h3 h4 h5 h6 p2 k5 k6 p7 p8 p9 k10 p11 q12 k15 k16 f0 f1 f3 f4 f13 f14 HI (by omega) HP 1 sz) glV_RX12_291 ⟨rfl, rfl⟩ ⟨(Nat.le_of_ble_eq_true rfl), (Nat.le_of_ble_eq_true rfl)⟩ ⟨(Nat.le_of_ble_eq_true rfl), (Nat.le_of_ble_eq_true rfl)⟩ [0, 0, 0, 0, 0, 0, 0] rfl 13 0 rfl rfl rfl rfl (Nat.le_of_ble_eq_true rfl) rfl (fun _ _ _ => rfl) dX12_readEnd_10 (fun j12 u13 w14 => ?_)
      refine V_ws [(h0, oC 13 [.ref h1, .ref h2, .int p2, .ref h3, .ref h4, .int (nI k5), .int (nI k6), .int (u13.2.1 0), .int (u13.2.1 1), .int p9, .int (nI k10), .int p11, .long q12, .ref h5, .ref h6, .int (nI k15), .int (nI k16)]), (h1, aI Y 3640 f0), (h2, aZ Y 2 f1), (h3, aZ Y 80 f3), (h4, aB Y 1600 f4), (h5, aI Y 200 f13), (h6, aI Y 800 f14)] rfl ?_
      have x15 := w14
      clear w14
      obtain rfl := x15
      exact V_zret 13 B rfl dX12_readEnd_13 (mkW [k6, k10] [(u13.2.1 0), (u13.2.1 1), p9] [q12] [] [] []) ⟨(Or.inl rfl), (show k10 ≤ k10 by omega), (show k10 ≤ k6 by omega), (show k6 ≤ k5 by omega), (show (p9 = 0 ∨ k10 < k6) by first | assumption | exact Or.inr (by omega))⟩ rfl)
theorem dX12_pack_0 : decode cX12_pack 0 = .ok (.iload_n 0, 1) := by decide +kernel
theorem dX12_pack_1 : decode cX12_pack 1 = .ok (.i2l, 1) := by decide +kernel
theorem dX12_pack_2 : decode cX12_pack 2 = .ok (.bipush 7, 2) := by decide +kernel
theorem dX12_pack_4 : decode cX12_pack 4 = .ok (.lshl, 1) := by decide +kernel
theorem dX12_pack_5 : decode cX12_pack 5 = .ok (.iload_n 1, 1) := by decide +kernel
theorem dX12_pack_6 : decode cX12_pack 6 = .ok (.i2l, 1) := by decide +kernel
theorem dX12_pack_7 : decode cX12_pack 7 = .ok (.lor, 1) := by decide +kernel
theorem dX12_pack_8 : decode cX12_pack 8 = .ok (.bipush 14, 2) := by decide +kernel
theorem dX12_pack_10 : decode cX12_pack 10 = .ok (.lshl, 1) := by decide +kernel
theorem dX12_pack_11 : decode cX12_pack 11 = .ok (.iload_n 2, 1) := by decide +kernel
theorem dX12_pack_12 : decode cX12_pack 12 = .ok (.bipush 7, 2) := by decide +kernel
theorem dX12_pack_14 : decode cX12_pack 14 = .ok (.ishl, 1) := by decide +kernel
theorem dX12_pack_15 : decode cX12_pack 15 = .ok (.i2l, 1) := by decide +kernel
theorem dX12_pack_16 : decode cX12_pack 16 = .ok (.lor, 1) := by decide +kernel
theorem dX12_pack_17 : decode cX12_pack 17 = .ok (.iload_n 3, 1) := by decide +kernel
theorem dX12_pack_18 : decode cX12_pack 18 = .ok (.i2l, 1) := by decide +kernel
theorem dX12_pack_19 : decode cX12_pack 19 = .ok (.lor, 1) := by decide +kernel
theorem dX12_pack_20 : decode cX12_pack 20 = .ok (.lstore 6, 2) := by decide +kernel
theorem dX12_pack_22 : decode cX12_pack 22 = .ok (.iload 4, 2) := by decide +kernel
theorem dX12_pack_24 : decode cX12_pack 24 = .ok (.ifCond .ne 8, 3) := by decide +kernel
theorem dX12_pack_32 : decode cX12_pack 32 = .ok (.lload 6, 2) := by decide +kernel
theorem dX12_pack_34 : decode cX12_pack 34 = .ok (.bipush 7, 2) := by decide +kernel
theorem dX12_pack_36 : decode cX12_pack 36 = .ok (.lshl, 1) := by decide +kernel
theorem dX12_pack_37 : decode cX12_pack 37 = .ok (.iload 4, 2) := by decide +kernel
theorem dX12_pack_39 : decode cX12_pack 39 = .ok (.i2l, 1) := by decide +kernel
theorem dX12_pack_40 : decode cX12_pack 40 = .ok (.lor, 1) := by decide +kernel
theorem dX12_pack_41 : decode cX12_pack 41 = .ok (.lstore 6, 2) := by decide +kernel
theorem dX12_pack_43 : decode cX12_pack 43 = .ok (.iload 5, 2) := by decide +kernel
theorem dX12_pack_45 : decode cX12_pack 45 = .ok (.ifCond .ne 8, 3) := by decide +kernel
theorem dX12_pack_53 : decode cX12_pack 53 = .ok (.lload 6, 2) := by decide +kernel
theorem dX12_pack_55 : decode cX12_pack 55 = .ok (.bipush 7, 2) := by decide +kernel
theorem dX12_pack_57 : decode cX12_pack 57 = .ok (.lshl, 1) := by decide +kernel
theorem dX12_pack_58 : decode cX12_pack 58 = .ok (.iload 5, 2) := by decide +kernel
theorem dX12_pack_60 : decode cX12_pack 60 = .ok (.i2l, 1) := by decide +kernel
theorem dX12_pack_61 : decode cX12_pack 61 = .ok (.lor, 1) := by decide +kernel
theorem dX12_pack_62 : decode cX12_pack 62 = .ok (.lreturn, 1) := by decide +kernel
theorem dX12_pack_48 : decode cX12_pack 48 = .ok (.lload 6, 2) := by decide +kernel
theorem dX12_pack_50 : decode cX12_pack 50 = .ok (.goto 12, 3) := by decide +kernel
theorem dX12_pack_27 : decode cX12_pack 27 = .ok (.lload 6, 2) := by decide +kernel
theorem dX12_pack_29 : decode cX12_pack 29 = .ok (.goto 12, 3) := by decide +kernel
set_option maxRecDepth 100000 in
set_option maxHeartbeats 4000000 in
theorem rX12_pack (l : Launch) (D : va_G) (Y : Nat → ClassId)  (s0 : Int32) (s1 : Int32) (s2 : Int32) (s3 : Int32) (s4 : Int32) (s5 : Int32)  (sz : Nat) : Met l yX12_pack (WSm yX12_pack cX12_pack 8 (some .long)) (mkR 0 0 0 0) (PreC D Y [.int s0, .int s1, .int s2, .int s3, .int s4, .int s5] [] sz) (QJ D (fun (r : Int64) (u : WU) => True) (fun (u : WU) => []) (va_A [] sz)) 0 0 (va_A [] sz) :=
  met_of  (by decide +kernel) (Nat.le_of_ble_eq_true rfl) (fun p e s m args below meth c B hin hsz => by
    have B : VB p s m args meth c D Y (va_A [] sz) cX12_pack 8 RX12 (some .long) := B
    refine V_iload_n 0 B dX12_pack_0 0 rfl ?_
    refine V_i2l 1 B dX12_pack_1 rfl ?_
    refine V_nml (fun o0 e1 => ?_)
    have x2 : o0.toInt = s0.toInt := by rw [e1, Int32.toInt_toInt64]
    refine V_bipush 2 B (v := 7) dX12_pack_2 (by decide +kernel) ?_
    refine V_lshl 4 B dX12_pack_4 rfl ?_
    refine V_nml (fun o3 _ => ?_)
    refine V_iload_n 5 B dX12_pack_5 1 rfl ?_
    refine V_i2l 6 B dX12_pack_6 rfl ?_
    refine V_nml (fun o4 e5 => ?_)
    have x6 : o4.toInt = s1.toInt := by rw [e5, Int32.toInt_toInt64]
    refine V_lor 7 B dX12_pack_7 rfl ?_
    refine V_nml (fun o7 e8 => ?_)
    refine V_bipush 8 B (v := 14) dX12_pack_8 (by decide +kernel) ?_
    refine V_lshl 10 B dX12_pack_10 rfl ?_
    refine V_nml (fun o9 _ => ?_)
    refine V_iload_n 11 B dX12_pack_11 2 rfl ?_
    refine V_bipush 12 B (v := 7) dX12_pack_12 (by decide +kernel) ?_
    refine V_ishl 14 B dX12_pack_14 rfl ?_
    refine V_nmi (fun j10 _ => ?_)
    refine V_i2l 15 B dX12_pack_15 rfl ?_
    refine V_nml (fun o11 e12 => ?_)
    have x13 : o11.toInt = j10.toInt := by rw [e12, Int32.toInt_toInt64]
    refine V_lor 16 B dX12_pack_16 rfl ?_
    refine V_nml (fun o14 e15 => ?_)
    refine V_iload_n 17 B dX12_pack_17 3 rfl ?_
    refine V_i2l 18 B dX12_pack_18 rfl ?_
    refine V_nml (fun o16 e17 => ?_)
    have x18 : o16.toInt = s3.toInt := by rw [e17, Int32.toInt_toInt64]
    refine V_lor 19 B dX12_pack_19 rfl ?_
    refine V_nml (fun o19 e20 => ?_)
    refine V_lstore 20 B (lv2 := [(6, .long o19), (0, .int s0), (1, .int s1), (2, .int s2), (3, .int s3), (4, .int s4), (5, .int s5)]) dX12_pack_20 (by decide) rfl ?_
    refine V_iload 22 B dX12_pack_22 5 rfl ?_
    refine V_if_ne 24 B 32 dX12_pack_24 (by decide) (fun kk21 => ?_) (fun kk21 => ?_)
    ·
      have x22 := x_ne kk21
      rw [show (0 : Int32).toInt = 0 by decide +kernel] at x22
      refine V_lload 32 B dX12_pack_32 0 rfl ?_
      refine V_bipush 34 B (v := 7) dX12_pack_34 (by decide +kernel) ?_
      refine V_lshl 36 B dX12_pack_36 rfl ?_
      refine V_nml (fun o23 _ => ?_)
      refine V_iload 37 B dX12_pack_37 5 rfl ?_
      refine V_i2l 39 B dX12_pack_39 rfl ?_
      refine V_nml (fun o24 e25 => ?_)
      have x26 : o24.toInt = s4.toInt := by rw [e25, Int32.toInt_toInt64]
      refine V_lor 40 B dX12_pack_40 rfl ?_
      refine V_nml (fun o27 e28 => ?_)
      refine V_lstore 41 B (lv2 := [(6, .long o27), (0, .int s0), (1, .int s1), (2, .int s2), (3, .int s3), (4, .int s4), (5, .int s5)]) dX12_pack_41 (by decide) rfl ?_
      refine V_iload 43 B dX12_pack_43 6 rfl ?_
      refine V_if_ne 45 B 53 dX12_pack_45 (by decide) (fun kk29 => ?_) (fun kk29 => ?_)
      ·
        have x30 := x_ne kk29
        rw [show (0 : Int32).toInt = 0 by decide +kernel] at x30
        refine V_lload 53 B dX12_pack_53 0 rfl ?_
        refine V_bipush 55 B (v := 7) dX12_pack_55 (by decide +kernel) ?_
        refine V_lshl 57 B dX12_pack_57 rfl ?_
        refine V_nml (fun o31 _ => ?_)
        refine V_iload 58 B dX12_pack_58 6 rfl ?_
        refine V_i2l 60 B dX12_pack_60 rfl ?_
        refine V_nml (fun o32 e33 => ?_)
        have x34 : o32.toInt = s5.toInt := by rw [e33, Int32.toInt_toInt64]
        refine V_lor 61 B dX12_pack_61 rfl ?_
        refine V_nml (fun o35 e36 => ?_)
        exact V_lret 62 B dX12_pack_62 (mkW [] [] [] [] [] []) trivial rfl
      ·
        obtain rfl : s5 = 0 := kk29
        have e38 : (0 : Int32).toInt = 0 := by decide +kernel
        refine V_lload 48 B dX12_pack_48 0 rfl ?_
        refine V_goto 50 B 62 dX12_pack_50 (by decide) ?_
        exact V_lret 62 B dX12_pack_62 (mkW [] [] [] [] [] []) trivial rfl
    ·
      obtain rfl : s4 = 0 := kk21
      have e40 : (0 : Int32).toInt = 0 := by decide +kernel
      refine V_lload 27 B dX12_pack_27 0 rfl ?_
      refine V_goto 29 B 41 dX12_pack_29 (by decide) ?_
      refine V_lstore 41 B (lv2 := [(6, .long o19), (0, .int s0), (1, .int s1), (2, .int s2), (3, .int s3), (4, .int 0), (5, .int s5)]) dX12_pack_41 (by decide) rfl ?_
      refine V_iload 43 B dX12_pack_43 6 rfl ?_
      refine V_if_ne 45 B 53 dX12_pack_45 (by decide) (fun kk41 => ?_) (fun kk41 => ?_)
      ·
        have x42 := x_ne kk41
        rw [show (0 : Int32).toInt = 0 by decide +kernel] at x42
        refine V_lload 53 B dX12_pack_53 0 rfl ?_
        refine V_bipush 55 B (v := 7) dX12_pack_55 (by decide +kernel) ?_
        refine V_lshl 57 B dX12_pack_57 rfl ?_
        refine V_nml (fun o43 _ => ?_)
        refine V_iload 58 B dX12_pack_58 6 rfl ?_
        refine V_i2l 60 B dX12_pack_60 rfl ?_
        refine V_nml (fun o44 e45 => ?_)
        have x46 : o44.toInt = s5.toInt := by rw [e45, Int32.toInt_toInt64]
        refine V_lor 61 B dX12_pack_61 rfl ?_
        refine V_nml (fun o47 e48 => ?_)
        exact V_lret 62 B dX12_pack_62 (mkW [] [] [] [] [] []) trivial rfl
      ·
        obtain rfl : s5 = 0 := kk41
        have e50 : (0 : Int32).toInt = 0 := by decide +kernel
        refine V_lload 48 B dX12_pack_48 0 rfl ?_
        refine V_goto 50 B 62 dX12_pack_50 (by decide) ?_
        exact V_lret 62 B dX12_pack_62 (mkW [] [] [] [] [] []) trivial rfl)
theorem dX12_isWord_0 : decode cX12_isWord 0 = .ok (.aload_n 0, 1) := by decide +kernel
theorem dX12_isWord_1 : decode cX12_isWord 1 = .ok (.getfield 283, 3) := by decide +kernel
theorem dX12_isWord_4 : decode cX12_isWord 4 = .ok (.iconst 1, 1) := by decide +kernel
theorem dX12_isWord_5 : decode cX12_isWord 5 = .ok (.if_icmp .ne 16, 3) := by decide +kernel
theorem dX12_isWord_21 : decode cX12_isWord 21 = .ok (.iconst 0, 1) := by decide +kernel
theorem dX12_isWord_22 : decode cX12_isWord 22 = .ok (.ireturn, 1) := by decide +kernel
theorem dX12_isWord_8 : decode cX12_isWord 8 = .ok (.aload_n 0, 1) := by decide +kernel
theorem dX12_isWord_9 : decode cX12_isWord 9 = .ok (.getfield 273, 3) := by decide +kernel
theorem dX12_isWord_12 : decode cX12_isWord 12 = .ok (.lload_n 1, 1) := by decide +kernel
theorem dX12_isWord_13 : decode cX12_isWord 13 = .ok (.lcmp, 1) := by decide +kernel
theorem dX12_isWord_14 : decode cX12_isWord 14 = .ok (.ifCond .ne 7, 3) := by decide +kernel
theorem dX12_isWord_17 : decode cX12_isWord 17 = .ok (.iconst 1, 1) := by decide +kernel
theorem dX12_isWord_18 : decode cX12_isWord 18 = .ok (.goto 4, 3) := by decide +kernel
set_option maxRecDepth 100000 in
set_option maxHeartbeats 4000000 in
theorem rX12_isWord (l : Launch) (D : va_G) (Y : Nat → ClassId) (h0 : Nat) (h1 : Nat) (h2 : Nat) (h3 : Nat) (h4 : Nat) (h5 : Nat) (h6 : Nat) (p2 : Int32) (k5 : Nat) (k6 : Nat) (p7 : Int32) (p8 : Int32) (p9 : Int32) (k10 : Nat) (p11 : Int32) (q12 : Int64) (k15 : Nat) (k16 : Nat) (f0 : Nat → Int32) (f1 : Nat → Int32) (f3 : Nat → Int32) (f4 : Nat → Int32) (f13 : Nat → Int32) (f14 : Nat → Int32) (HI : INV f0) (HL : k5 ≤ 1600) (HP : PLV f13) (s0 : Int64)  (sz : Nat) : Met l yX12_isWord (WSm yX12_isWord cX12_isWord 3 (some .boolean)) (mkR 0 0 0 0) (PreC D Y [.ref h0, .long s0] [(h0, oC 13 [.ref h1, .ref h2, .int p2, .ref h3, .ref h4, .int (nI k5), .int (nI k6), .int p7, .int p8, .int p9, .int (nI k10), .int p11, .long q12, .ref h5, .ref h6, .int (nI k15), .int (nI k16)]), (h1, aI Y 3640 f0), (h2, aZ Y 2 f1), (h3, aZ Y 80 f3), (h4, aB Y 1600 f4), (h5, aI Y 200 f13), (h6, aI Y 800 f14)] sz) (QI D (fun (r : Int32) (u : WU) => (r = 0 ∨ r = 1)) (fun (u : WU) => [(h0, oC 13 [.ref h1, .ref h2, .int p2, .ref h3, .ref h4, .int (nI k5), .int (nI k6), .int p7, .int p8, .int p9, .int (nI k10), .int p11, .long q12, .ref h5, .ref h6, .int (nI k15), .int (nI k16)]), (h1, aI Y 3640 f0), (h2, aZ Y 2 f1), (h3, aZ Y 80 f3), (h4, aB Y 1600 f4), (h5, aI Y 200 f13), (h6, aI Y 800 f14)]) (va_A [(h0, oC 13 [.ref h1, .ref h2, .int p2, .ref h3, .ref h4, .int (nI k5), .int (nI k6), .int p7, .int p8, .int p9, .int (nI k10), .int p11, .long q12, .ref h5, .ref h6, .int (nI k15), .int (nI k16)]), (h1, aI Y 3640 f0), (h2, aZ Y 2 f1), (h3, aZ Y 80 f3), (h4, aB Y 1600 f4), (h5, aI Y 200 f13), (h6, aI Y 800 f14)] sz)) 0 0 (va_A [(h0, oC 13 [.ref h1, .ref h2, .int p2, .ref h3, .ref h4, .int (nI k5), .int (nI k6), .int p7, .int p8, .int p9, .int (nI k10), .int p11, .long q12, .ref h5, .ref h6, .int (nI k15), .int (nI k16)]), (h1, aI Y 3640 f0), (h2, aZ Y 2 f1), (h3, aZ Y 80 f3), (h4, aB Y 1600 f4), (h5, aI Y 200 f13), (h6, aI Y 800 f14)] sz) :=
  met_of  (by decide +kernel) (Nat.le_of_ble_eq_true rfl) (fun p e s m args below meth c B hin hsz => by
    have B : VB p s m args meth c D Y (va_A [(h0, oC 13 [.ref h1, .ref h2, .int p2, .ref h3, .ref h4, .int (nI k5), .int (nI k6), .int p7, .int p8, .int p9, .int (nI k10), .int p11, .long q12, .ref h5, .ref h6, .int (nI k15), .int (nI k16)]), (h1, aI Y 3640 f0), (h2, aZ Y 2 f1), (h3, aZ Y 80 f3), (h4, aB Y 1600 f4), (h5, aI Y 200 f13), (h6, aI Y 800 f14)] sz) cX12_isWord 3 RX12 (some .boolean) := B
    refine V_aload_n 0 B dX12_isWord_0 0 rfl ?_
    refine V_get 1 B gf_RX12_283 0 rfl rfl dX12_isWord_1 ?_
    refine V_iconst 4 B (v := 1) dX12_isWord_4 (by decide +kernel) ?_
    refine V_icmp_ne 5 B 21 dX12_isWord_5 (by decide) (fun kk0 => ?_) (fun kk0 => ?_)
    ·
      have x1 := x_ne kk0
      rw [show (1 : Int32).toInt = 1 by decide +kernel] at x1
      refine V_iconst 21 B (v := 0) dX12_isWord_21 (by decide +kernel) ?_
      exact V_zret 22 B rfl dX12_isWord_22 (mkW [] [] [] [] [] []) (Or.inl rfl) rfl
    ·
      obtain rfl : p9 = 1 := kk0
      have e3 : (1 : Int32).toInt = 1 := by decide +kernel
      refine V_aload_n 8 B dX12_isWord_8 0 rfl ?_
      refine V_get 9 B gf_RX12_273 0 rfl rfl dX12_isWord_9 ?_
      refine V_lload_n 12 B dX12_isWord_12 1 rfl ?_
      refine V_lcmp 13 B dX12_isWord_13 rfl ?_
      refine V_nmi (fun j4 _ => ?_)
      refine V_if_ne 14 B 21 dX12_isWord_14 (by decide) (fun kk5 => ?_) (fun kk5 => ?_)
      ·
        have x6 := x_ne kk5
        rw [show (0 : Int32).toInt = 0 by decide +kernel] at x6
        refine V_iconst 21 B (v := 0) dX12_isWord_21 (by decide +kernel) ?_
        exact V_zret 22 B rfl dX12_isWord_22 (mkW [] [] [] [] [] []) (Or.inl rfl) rfl
      ·
        obtain rfl : j4 = 0 := kk5
        have e8 : (0 : Int32).toInt = 0 := by decide +kernel
        refine V_iconst 17 B (v := 1) dX12_isWord_17 (by decide +kernel) ?_
        refine V_goto 18 B 22 dX12_isWord_18 (by decide) ?_
        exact V_zret 22 B rfl dX12_isWord_22 (mkW [] [] [] [] [] []) (Or.inr rfl) rfl)
theorem dX12_strokeHere_0 : decode cX12_strokeHere 0 = .ok (.iconst 0, 1) := by decide +kernel
theorem dX12_strokeHere_1 : decode cX12_strokeHere 1 = .ok (.istore_n 1, 1) := by decide +kernel
theorem dX12_strokeHere_2 : decode cX12_strokeHere 2 = .ok (.aload_n 0, 1) := by decide +kernel
theorem dX12_strokeHere_3 : decode cX12_strokeHere 3 = .ok (.getfield 283, 3) := by decide +kernel
theorem dX12_strokeHere_6 : decode cX12_strokeHere 6 = .ok (.iconst 1, 1) := by decide +kernel
theorem dX12_strokeHere_7 : decode cX12_strokeHere 7 = .ok (.if_icmp .ne 19, 3) := by decide +kernel
theorem dX12_strokeHere_26 : decode cX12_strokeHere 26 = .ok (.iconst (-1), 1) := by decide +kernel
theorem dX12_strokeHere_27 : decode cX12_strokeHere 27 = .ok (.ireturn, 1) := by decide +kernel
theorem dX12_strokeHere_10 : decode cX12_strokeHere 10 = .ok (.aload_n 0, 1) := by decide +kernel
theorem dX12_strokeHere_11 : decode cX12_strokeHere 11 = .ok (.aload_n 0, 1) := by decide +kernel
theorem dX12_strokeHere_12 : decode cX12_strokeHere 12 = .ok (.getfield 264, 3) := by decide +kernel
theorem dX12_strokeHere_15 : decode cX12_strokeHere 15 = .ok (.iconst 1, 1) := by decide +kernel
theorem dX12_strokeHere_16 : decode cX12_strokeHere 16 = .ok (.isub, 1) := by decide +kernel
theorem dX12_strokeHere_17 : decode cX12_strokeHere 17 = .ok (.invokevirtual 267, 3) := by decide +kernel
theorem dX12_strokeHere_20 : decode cX12_strokeHere 20 = .ok (.invokestatic 253, 3) := by decide +kernel
theorem dX12_strokeHere_23 : decode cX12_strokeHere 23 = .ok (.ifCond .ne 5, 3) := by decide +kernel
theorem dX12_strokeHere_28 : decode cX12_strokeHere 28 = .ok (.aload_n 0, 1) := by decide +kernel
theorem dX12_strokeHere_29 : decode cX12_strokeHere 29 = .ok (.getfield 270, 3) := by decide +kernel
theorem dX12_strokeHere_32 : decode cX12_strokeHere 32 = .ok (.istore_n 2, 1) := by decide +kernel
theorem dX12_strokeHere_33 : decode cX12_strokeHere 33 = .ok (.iload_n 2, 1) := by decide +kernel
theorem dX12_strokeHere_34 : decode cX12_strokeHere 34 = .ok (.aload_n 0, 1) := by decide +kernel
theorem dX12_strokeHere_35 : decode cX12_strokeHere 35 = .ok (.getfield 264, 3) := by decide +kernel
theorem dX12_strokeHere_38 : decode cX12_strokeHere 38 = .ok (.iconst 1, 1) := by decide +kernel
theorem dX12_strokeHere_39 : decode cX12_strokeHere 39 = .ok (.isub, 1) := by decide +kernel
theorem dX12_strokeHere_40 : decode cX12_strokeHere 40 = .ok (.if_icmp .ge 84, 3) := by decide +kernel
theorem dX12_strokeHere_124 : decode cX12_strokeHere 124 = .ok (.bipush 32, 2) := by decide +kernel
theorem dX12_strokeHere_126 : decode cX12_strokeHere 126 = .ok (.iload_n 1, 1) := by decide +kernel
theorem dX12_strokeHere_127 : decode cX12_strokeHere 127 = .ok (.imul, 1) := by decide +kernel
theorem dX12_strokeHere_128 : decode cX12_strokeHere 128 = .ok (.aload_n 0, 1) := by decide +kernel
theorem dX12_strokeHere_129 : decode cX12_strokeHere 129 = .ok (.aload_n 0, 1) := by decide +kernel
theorem dX12_strokeHere_130 : decode cX12_strokeHere 130 = .ok (.getfield 264, 3) := by decide +kernel
theorem dX12_strokeHere_133 : decode cX12_strokeHere 133 = .ok (.iconst 1, 1) := by decide +kernel
theorem dX12_strokeHere_134 : decode cX12_strokeHere 134 = .ok (.isub, 1) := by decide +kernel
theorem dX12_strokeHere_135 : decode cX12_strokeHere 135 = .ok (.invokevirtual 267, 3) := by decide +kernel
theorem dX12_strokeHere_138 : decode cX12_strokeHere 138 = .ok (.iadd, 1) := by decide +kernel
theorem dX12_strokeHere_139 : decode cX12_strokeHere 139 = .ok (.bipush 97, 2) := by decide +kernel
theorem dX12_strokeHere_141 : decode cX12_strokeHere 141 = .ok (.isub, 1) := by decide +kernel
theorem dX12_strokeHere_142 : decode cX12_strokeHere 142 = .ok (.ireturn, 1) := by decide +kernel
theorem dX12_strokeHere_43 : decode cX12_strokeHere 43 = .ok (.aload_n 0, 1) := by decide +kernel
theorem dX12_strokeHere_44 : decode cX12_strokeHere 44 = .ok (.iload_n 2, 1) := by decide +kernel
theorem dX12_strokeHere_45 : decode cX12_strokeHere 45 = .ok (.invokevirtual 267, 3) := by decide +kernel
theorem dX12_strokeHere_48 : decode cX12_strokeHere 48 = .ok (.bipush 67, 2) := by decide +kernel
theorem dX12_strokeHere_50 : decode cX12_strokeHere 50 = .ok (.if_icmp .ne 7, 3) := by decide +kernel
theorem dX12_strokeHere_57 : decode cX12_strokeHere 57 = .ok (.aload_n 0, 1) := by decide +kernel
theorem dX12_strokeHere_58 : decode cX12_strokeHere 58 = .ok (.iload_n 2, 1) := by decide +kernel
theorem dX12_strokeHere_59 : decode cX12_strokeHere 59 = .ok (.invokevirtual 267, 3) := by decide +kernel
theorem dX12_strokeHere_62 : decode cX12_strokeHere 62 = .ok (.bipush 83, 2) := by decide +kernel
theorem dX12_strokeHere_64 : decode cX12_strokeHere 64 = .ok (.if_icmp .ne 7, 3) := by decide +kernel
theorem dX12_strokeHere_71 : decode cX12_strokeHere 71 = .ok (.aload_n 0, 1) := by decide +kernel
theorem dX12_strokeHere_72 : decode cX12_strokeHere 72 = .ok (.iload_n 2, 1) := by decide +kernel
theorem dX12_strokeHere_73 : decode cX12_strokeHere 73 = .ok (.invokevirtual 267, 3) := by decide +kernel
theorem dX12_strokeHere_76 : decode cX12_strokeHere 76 = .ok (.bipush 65, 2) := by decide +kernel
theorem dX12_strokeHere_78 : decode cX12_strokeHere 78 = .ok (.if_icmp .ne 7, 3) := by decide +kernel
theorem dX12_strokeHere_85 : decode cX12_strokeHere 85 = .ok (.aload_n 0, 1) := by decide +kernel
theorem dX12_strokeHere_86 : decode cX12_strokeHere 86 = .ok (.iload_n 2, 1) := by decide +kernel
theorem dX12_strokeHere_87 : decode cX12_strokeHere 87 = .ok (.invokevirtual 267, 3) := by decide +kernel
theorem dX12_strokeHere_90 : decode cX12_strokeHere 90 = .ok (.bipush 77, 2) := by decide +kernel
theorem dX12_strokeHere_92 : decode cX12_strokeHere 92 = .ok (.if_icmp .ne 8, 3) := by decide +kernel
theorem dX12_strokeHere_100 : decode cX12_strokeHere 100 = .ok (.iconst 0, 1) := by decide +kernel
theorem dX12_strokeHere_101 : decode cX12_strokeHere 101 = .ok (.istore_n 3, 1) := by decide +kernel
theorem dX12_strokeHere_102 : decode cX12_strokeHere 102 = .ok (.iload_n 3, 1) := by decide +kernel
theorem dX12_strokeHere_103 : decode cX12_strokeHere 103 = .ok (.ifCond .eq 9, 3) := by decide +kernel
theorem dX12_strokeHere_112 : decode cX12_strokeHere 112 = .ok (.iconst (-1), 1) := by decide +kernel
theorem dX12_strokeHere_113 : decode cX12_strokeHere 113 = .ok (.ireturn, 1) := by decide +kernel
theorem dX12_strokeHere_95 : decode cX12_strokeHere 95 = .ok (.bipush 8, 2) := by decide +kernel
theorem dX12_strokeHere_97 : decode cX12_strokeHere 97 = .ok (.goto 4, 3) := by decide +kernel
theorem dX12_strokeHere_106 : decode cX12_strokeHere 106 = .ok (.iload_n 1, 1) := by decide +kernel
theorem dX12_strokeHere_107 : decode cX12_strokeHere 107 = .ok (.iload_n 3, 1) := by decide +kernel
theorem dX12_strokeHere_108 : decode cX12_strokeHere 108 = .ok (.iand, 1) := by decide +kernel
theorem dX12_strokeHere_109 : decode cX12_strokeHere 109 = .ok (.ifCond .eq 5, 3) := by decide +kernel
theorem dX12_strokeHere_114 : decode cX12_strokeHere 114 = .ok (.iload_n 1, 1) := by decide +kernel
theorem dX12_strokeHere_115 : decode cX12_strokeHere 115 = .ok (.iload_n 3, 1) := by decide +kernel
theorem dX12_strokeHere_116 : decode cX12_strokeHere 116 = .ok (.ior, 1) := by decide +kernel
theorem dX12_strokeHere_117 : decode cX12_strokeHere 117 = .ok (.istore_n 1, 1) := by decide +kernel
theorem dX12_strokeHere_118 : decode cX12_strokeHere 118 = .ok (.iinc 2 1, 3) := by decide +kernel
theorem dX12_strokeHere_121 : decode cX12_strokeHere 121 = .ok (.goto (-88), 3) := by decide +kernel
theorem dX12_strokeHere_81 : decode cX12_strokeHere 81 = .ok (.iconst 4, 1) := by decide +kernel
theorem dX12_strokeHere_82 : decode cX12_strokeHere 82 = .ok (.goto 19, 3) := by decide +kernel
theorem dX12_strokeHere_67 : decode cX12_strokeHere 67 = .ok (.iconst 2, 1) := by decide +kernel
theorem dX12_strokeHere_68 : decode cX12_strokeHere 68 = .ok (.goto 33, 3) := by decide +kernel
theorem dX12_strokeHere_53 : decode cX12_strokeHere 53 = .ok (.iconst 1, 1) := by decide +kernel
theorem dX12_strokeHere_54 : decode cX12_strokeHere 54 = .ok (.goto 47, 3) := by decide +kernel
set_option maxRecDepth 100000 in
set_option maxHeartbeats 4000000 in
theorem rX12_strokeHere (l : Launch) (D : va_G) (Y : Nat → ClassId) (h0 : Nat) (h1 : Nat) (h2 : Nat) (h3 : Nat) (h4 : Nat) (h5 : Nat) (h6 : Nat) (p2 : Int32) (k5 : Nat) (k6 : Nat) (p7 : Int32) (p8 : Int32) (p9 : Int32) (k10 : Nat) (p11 : Int32) (q12 : Int64) (k15 : Nat) (k16 : Nat) (f0 : Nat → Int32) (f1 : Nat → Int32) (f3 : Nat → Int32) (f4 : Nat → Int32) (f13 : Nat → Int32) (f14 : Nat → Int32) (HI : INV f0) (HL : k5 ≤ 1600) (HP : PLV f13)  (hx0 : k10 ≤ k6) (hx1 : k6 ≤ k5) (hx2 : (p9 = 0 ∨ k10 < k6)) (sz : Nat) : Met l yX12_strokeHere (WSm yX12_strokeHere cX12_strokeHere 4 (some .int)) (mkR 2 0 0 45) (PreC D Y [.ref h0] [(h0, oC 13 [.ref h1, .ref h2, .int p2, .ref h3, .ref h4, .int (nI k5), .int (nI k6), .int p7, .int p8, .int p9, .int (nI k10), .int p11, .long q12, .ref h5, .ref h6, .int (nI k15), .int (nI k16)]), (h1, aI Y 3640 f0), (h2, aZ Y 2 f1), (h3, aZ Y 80 f3), (h4, aB Y 1600 f4), (h5, aI Y 200 f13), (h6, aI Y 800 f14)] sz) (QI D (fun (r : Int32) (u : WU) => (r = -1 ∨ k10 < k6)) (fun (u : WU) => [(h0, oC 13 [.ref h1, .ref h2, .int p2, .ref h3, .ref h4, .int (nI k5), .int (nI k6), .int p7, .int p8, .int p9, .int (nI k10), .int p11, .long q12, .ref h5, .ref h6, .int (nI k15), .int (nI k16)]), (h1, aI Y 3640 f0), (h2, aZ Y 2 f1), (h3, aZ Y 80 f3), (h4, aB Y 1600 f4), (h5, aI Y 200 f13), (h6, aI Y 800 f14)]) (va_A [(h0, oC 13 [.ref h1, .ref h2, .int p2, .ref h3, .ref h4, .int (nI k5), .int (nI k6), .int p7, .int p8, .int p9, .int (nI k10), .int p11, .long q12, .ref h5, .ref h6, .int (nI k15), .int (nI k16)]), (h1, aI Y 3640 f0), (h2, aZ Y 2 f1), (h3, aZ Y 80 f3), (h4, aB Y 1600 f4), (h5, aI Y 200 f13), (h6, aI Y 800 f14)] sz)) 0 0 (va_A [(h0, oC 13 [.ref h1, .ref h2, .int p2, .ref h3, .ref h4, .int (nI k5), .int (nI k6), .int p7, .int p8, .int p9, .int (nI k10), .int p11, .long q12, .ref h5, .ref h6, .int (nI k15), .int (nI k16)]), (h1, aI Y 3640 f0), (h2, aZ Y 2 f1), (h3, aZ Y 80 f3), (h4, aB Y 1600 f4), (h5, aI Y 200 f13), (h6, aI Y 800 f14)] sz) :=
  met_of  (by decide +kernel) (Nat.le_of_ble_eq_true rfl) (fun p e s m args below meth c B hin hsz => by
    have B : VB p s m args meth c D Y (va_A [(h0, oC 13 [.ref h1, .ref h2, .int p2, .ref h3, .ref h4, .int (nI k5), .int (nI k6), .int p7, .int p8, .int p9, .int (nI k10), .int p11, .long q12, .ref h5, .ref h6, .int (nI k15), .int (nI k16)]), (h1, aI Y 3640 f0), (h2, aZ Y 2 f1), (h3, aZ Y 80 f3), (h4, aB Y 1600 f4), (h5, aI Y 200 f13), (h6, aI Y 800 f14)] sz) cX12_strokeHere 4 RX12 (some .int) := B
    refine V_iconst 0 B (v := 0) dX12_strokeHere_0 (by decide +kernel) ?_
    refine V_istore_n 1 B (lv2 := [(1, .int 0), (0, .ref h0)]) dX12_strokeHere_1 (by decide) rfl ?_
    refine V_aload_n 2 B dX12_strokeHere_2 1 rfl ?_
    refine V_get 3 B gf_RX12_283 0 rfl rfl dX12_strokeHere_3 ?_
    refine V_iconst 6 B (v := 1) dX12_strokeHere_6 (by decide +kernel) ?_
    refine V_icmp_ne 7 B 26 dX12_strokeHere_7 (by decide) (fun kk0 => ?_) (fun kk0 => ?_)
    ·
      have x1 := x_ne kk0
      rw [show (1 : Int32).toInt = 1 by decide +kernel] at x1
      refine V_iconst 26 B (v := (-1)) dX12_strokeHere_26 (by decide +kernel) ?_
      exact V_iret 27 B dX12_strokeHere_27 (mkW [] [] [] [] [] []) (Or.inl rfl) rfl
    ·
      obtain rfl : p9 = 1 := kk0
      have e3 : (1 : Int32).toInt = 1 := by decide +kernel
      have x4 : k10 < k6 := by
        rcases hx2 with z | z
        · first | contradiction | exact absurd z (by decide) | omega
        · exact z
      refine V_aload_n 10 B dX12_strokeHere_10 1 rfl ?_
      refine V_aload_n 11 B dX12_strokeHere_11 1 rfl ?_
      refine V_get 12 B gf_RX12_264 0 rfl rfl dX12_strokeHere_12 ?_
      refine V_iconst 15 B (v := 1) dX12_strokeHere_15 (by decide +kernel) ?_
      refine V_isub 16 B (v := (nI (k6 - 1))) dX12_strokeHere_16 (nI_subE (a := k6) (b := 1) (by omega)) ?_
      refine V_cvi 17 B (st := []) (As := [.int (nI (k6 - 1))]) (fun sz => rX12_byteAt l D Y h0 h1 h2 h3 h4 h5 h6 p2 k5 k6 p7 p8 1 k10 p11 q12 k15 k16 f0 f1 f3 f4 f13 f14 HI (by omega) HP (k6 - 1) (by omega) sz) glV_RX12_267 ⟨rfl, rfl⟩ ⟨(Nat.le_of_ble_eq_true rfl), (Nat.le_of_ble_eq_true rfl)⟩ ⟨(Nat.le_of_ble_eq_true rfl), (Nat.le_of_ble_eq_true rfl)⟩ [0, 0, 0, 0, 0, 0, 0] rfl 13 0 rfl rfl rfl rfl (Nat.le_of_ble_eq_true rfl) rfl (fun _ _ _ => rfl) dX12_strokeHere_17 (fun j5 u6 w7 => ?_)
      refine V_ws [(h0, oC 13 [.ref h1, .ref h2, .int p2, .ref h3, .ref h4, .int (nI k5), .int (nI k6), .int p7, .int p8, .int 1, .int (nI k10), .int p11, .long q12, .ref h5, .ref h6, .int (nI k15), .int (nI k16)]), (h1, aI Y 3640 f0), (h2, aZ Y 2 f1), (h3, aZ Y 80 f3), (h4, aB Y 1600 f4), (h5, aI Y 200 f13), (h6, aI Y 800 f14)] rfl ?_
      have x8 := w7
      clear w7
      have x9 : -1 ≤ j5.toInt ∧ j5.toInt ≤ 255 := by rw [x8]; exact BY_rng _ _ _
      refine V_csi 20 B (st := []) (As := [.int j5]) (fun sz => rX12_isSmall l D Y j5 sz) glS_RX12_253 ⟨rfl, rfl⟩ ⟨(Nat.le_of_ble_eq_true rfl), (Nat.le_of_ble_eq_true rfl)⟩ ⟨(Nat.le_of_ble_eq_true rfl), (Nat.le_of_ble_eq_true rfl)⟩ [] rfl rfl (Nat.le_of_ble_eq_true rfl) rfl (fun _ _ _ => rfl) dX12_strokeHere_20 (fun j10 u11 w12 => ?_)
      refine V_ws [(h0, oC 13 [.ref h1, .ref h2, .int p2, .ref h3, .ref h4, .int (nI k5), .int (nI k6), .int p7, .int p8, .int 1, .int (nI k10), .int p11, .long q12, .ref h5, .ref h6, .int (nI k15), .int (nI k16)]), (h1, aI Y 3640 f0), (h2, aZ Y 2 f1), (h3, aZ Y 80 f3), (h4, aB Y 1600 f4), (h5, aI Y 200 f13), (h6, aI Y 800 f14)] rfl ?_
      have x13 := w12
      clear w12
      rcases x13 with ⟨rfl, x14⟩ | ⟨rfl, x14⟩
      ·
        refine V_if_ne_f 23 B 28 dX12_strokeHere_23 (by decide) (by decide +kernel) ?_
        refine V_iconst 26 B (v := (-1)) dX12_strokeHere_26 (by decide +kernel) ?_
        exact V_iret 27 B dX12_strokeHere_27 (mkW [] [] [] [] [] []) (Or.inl rfl) rfl
      ·
        refine V_if_ne_t 23 B 28 dX12_strokeHere_23 (by decide) (by decide +kernel) ?_
        refine V_aload_n 28 B dX12_strokeHere_28 1 rfl ?_
        refine V_get 29 B gf_RX12_270 0 rfl rfl dX12_strokeHere_29 ?_
        refine V_istore_n 32 B (lv2 := [(2, .int (nI k10)), (1, .int 0), (0, .ref h0)]) dX12_strokeHere_32 (by decide) rfl ?_
        refine V_wloop (α := WU) (fun a => 100000 - (a.1 0)) (fun a => (a.1 0) ≤ 4000) (fun a => [(2, .int (nI (a.1 0))), (1, .int (a.2.1 0)), (0, .ref h0)]) (fun a => [(h0, oC 13 [.ref h1, .ref h2, .int p2, .ref h3, .ref h4, .int (nI k5), .int (nI k6), .int p7, .int p8, .int 1, .int (nI k10), .int p11, .long q12, .ref h5, .ref h6, .int (nI k15), .int (nI k16)]), (h1, aI Y 3640 f0), (h2, aZ Y 2 f1), (h3, aZ Y 80 f3), (h4, aB Y 1600 f4), (h5, aI Y 200 f13), (h6, aI Y 800 f14)]) (mkW [k10] [0] [] [] [] []) (show k10 ≤ 4000 by omega) rfl rfl (fun a15 hI17 IH16 => ?_)
        refine V_lv [(2, .int (nI (a15.1 0))), (1, .int (a15.2.1 0)), (0, .ref h0)] [0, 1, 2] rfl ?_
        refine V_ws [(h0, oC 13 [.ref h1, .ref h2, .int p2, .ref h3, .ref h4, .int (nI k5), .int (nI k6), .int p7, .int p8, .int 1, .int (nI k10), .int p11, .long q12, .ref h5, .ref h6, .int (nI k15), .int (nI k16)]), (h1, aI Y 3640 f0), (h2, aZ Y 2 f1), (h3, aZ Y 80 f3), (h4, aB Y 1600 f4), (h5, aI Y 200 f13), (h6, aI Y 800 f14)] rfl ?_
        have x18 := hI17
        refine V_iload_n 33 B dX12_strokeHere_33 0 rfl ?_
        refine V_aload_n 34 B dX12_strokeHere_34 2 rfl ?_
        refine V_get 35 B gf_RX12_264 0 rfl rfl dX12_strokeHere_35 ?_
        refine V_iconst 38 B (v := 1) dX12_strokeHere_38 (by decide +kernel) ?_
        refine V_isub 39 B (v := (nI (k6 - 1))) dX12_strokeHere_39 (nI_subE (a := k6) (b := 1) (by omega)) ?_
        refine V_icmp_ge 40 B 124 dX12_strokeHere_40 (by decide) (fun kk19 => ?_) (fun kk19 => ?_)
        ·
          have x20 := n_le (a := (k6 - 1)) (b := (a15.1 0)) kk19 (by omega) (by omega)
          refine V_bipush 124 B (v := 32) dX12_strokeHere_124 (by decide +kernel) ?_
          refine V_iload_n 126 B dX12_strokeHere_126 1 rfl ?_
          refine V_imul 127 B dX12_strokeHere_127 rfl ?_
          refine V_nmi (fun j21 e22 => ?_)
          refine V_aload_n 128 B dX12_strokeHere_128 2 rfl ?_
          refine V_aload_n 129 B dX12_strokeHere_129 2 rfl ?_
          refine V_get 130 B gf_RX12_264 0 rfl rfl dX12_strokeHere_130 ?_
          refine V_iconst 133 B (v := 1) dX12_strokeHere_133 (by decide +kernel) ?_
          refine V_isub 134 B (v := (nI (k6 - 1))) dX12_strokeHere_134 (nI_subE (a := k6) (b := 1) (by omega)) ?_
          refine V_cvi 135 B (st := [.int j21]) (As := [.int (nI (k6 - 1))]) (fun sz => rX12_byteAt l D Y h0 h1 h2 h3 h4 h5 h6 p2 k5 k6 p7 p8 1 k10 p11 q12 k15 k16 f0 f1 f3 f4 f13 f14 HI (by omega) HP (k6 - 1) (by omega) sz) glV_RX12_267 ⟨rfl, rfl⟩ ⟨(Nat.le_of_ble_eq_true rfl), (Nat.le_of_ble_eq_true rfl)⟩ ⟨(Nat.le_of_ble_eq_true rfl), (Nat.le_of_ble_eq_true rfl)⟩ [0, 0, 0, 0, 0, 0, 0] rfl 13 0 rfl rfl rfl rfl (Nat.le_of_ble_eq_true rfl) rfl (fun _ _ _ => rfl) dX12_strokeHere_135 (fun j23 u24 w25 => ?_)
          refine V_ws [(h0, oC 13 [.ref h1, .ref h2, .int p2, .ref h3, .ref h4, .int (nI k5), .int (nI k6), .int p7, .int p8, .int 1, .int (nI k10), .int p11, .long q12, .ref h5, .ref h6, .int (nI k15), .int (nI k16)]), (h1, aI Y 3640 f0), (h2, aZ Y 2 f1), (h3, aZ Y 80 f3), (h4, aB Y 1600 f4), (h5, aI Y 200 f13), (h6, aI Y 800 f14)] rfl ?_
          have x26 := w25
          clear w25
          have x27 : -1 ≤ j23.toInt ∧ j23.toInt ≤ 255 := by rw [x26]; exact BY_rng _ _ _
          refine V_iadd 138 B dX12_strokeHere_138 rfl ?_
          refine V_nmi (fun j28 e29 => ?_)
          refine V_bipush 139 B (v := 97) dX12_strokeHere_139 (by decide +kernel) ?_
          refine V_isub 141 B dX12_strokeHere_141 rfl ?_
          refine V_nmi (fun j30 e31 => ?_)
          exact V_iret 142 B dX12_strokeHere_142 (mkW [] [] [] [] [] []) (Or.inr (by omega)) rfl
        ·
          have x32 := n_nle (a := (k6 - 1)) (b := (a15.1 0)) kk19 (by omega) (by omega)
          refine V_aload_n 43 B dX12_strokeHere_43 2 rfl ?_
          refine V_iload_n 44 B dX12_strokeHere_44 0 rfl ?_
          refine V_cvi 45 B (st := []) (As := [.int (nI (a15.1 0))]) (fun sz => rX12_byteAt l D Y h0 h1 h2 h3 h4 h5 h6 p2 k5 k6 p7 p8 1 k10 p11 q12 k15 k16 f0 f1 f3 f4 f13 f14 HI (by omega) HP (a15.1 0) (by omega) sz) glV_RX12_267 ⟨rfl, rfl⟩ ⟨(Nat.le_of_ble_eq_true rfl), (Nat.le_of_ble_eq_true rfl)⟩ ⟨(Nat.le_of_ble_eq_true rfl), (Nat.le_of_ble_eq_true rfl)⟩ [0, 0, 0, 0, 0, 0, 0] rfl 13 0 rfl rfl rfl rfl (Nat.le_of_ble_eq_true rfl) rfl (fun _ _ _ => rfl) dX12_strokeHere_45 (fun j33 u34 w35 => ?_)
          refine V_ws [(h0, oC 13 [.ref h1, .ref h2, .int p2, .ref h3, .ref h4, .int (nI k5), .int (nI k6), .int p7, .int p8, .int 1, .int (nI k10), .int p11, .long q12, .ref h5, .ref h6, .int (nI k15), .int (nI k16)]), (h1, aI Y 3640 f0), (h2, aZ Y 2 f1), (h3, aZ Y 80 f3), (h4, aB Y 1600 f4), (h5, aI Y 200 f13), (h6, aI Y 800 f14)] rfl ?_
          have x36 := w35
          clear w35
          have x37 : -1 ≤ j33.toInt ∧ j33.toInt ≤ 255 := by rw [x36]; exact BY_rng _ _ _
          refine V_bipush 48 B (v := 67) dX12_strokeHere_48 (by decide +kernel) ?_
          refine V_icmp_ne 50 B 57 dX12_strokeHere_50 (by decide) (fun kk38 => ?_) (fun kk38 => ?_)
          ·
            have x39 := x_ne kk38
            rw [show (67 : Int32).toInt = 67 by decide +kernel] at x39
            refine V_aload_n 57 B dX12_strokeHere_57 2 rfl ?_
            refine V_iload_n 58 B dX12_strokeHere_58 0 rfl ?_
            refine V_cvi 59 B (st := []) (As := [.int (nI (a15.1 0))]) (fun sz => rX12_byteAt l D Y h0 h1 h2 h3 h4 h5 h6 p2 k5 k6 p7 p8 1 k10 p11 q12 k15 k16 f0 f1 f3 f4 f13 f14 HI (by omega) HP (a15.1 0) (by omega) sz) glV_RX12_267 ⟨rfl, rfl⟩ ⟨(Nat.le_of_ble_eq_true rfl), (Nat.le_of_ble_eq_true rfl)⟩ ⟨(Nat.le_of_ble_eq_true rfl), (Nat.le_of_ble_eq_true rfl)⟩ [0, 0, 0, 0, 0, 0, 0] rfl 13 0 rfl rfl rfl rfl (Nat.le_of_ble_eq_true rfl) rfl (fun _ _ _ => rfl) dX12_strokeHere_59 (fun j40 u41 w42 => ?_)
            refine V_ws [(h0, oC 13 [.ref h1, .ref h2, .int p2, .ref h3, .ref h4, .int (nI k5), .int (nI k6), .int p7, .int p8, .int 1, .int (nI k10), .int p11, .long q12, .ref h5, .ref h6, .int (nI k15), .int (nI k16)]), (h1, aI Y 3640 f0), (h2, aZ Y 2 f1), (h3, aZ Y 80 f3), (h4, aB Y 1600 f4), (h5, aI Y 200 f13), (h6, aI Y 800 f14)] rfl ?_
            have x43 := w42
            clear w42
            have x44 : -1 ≤ j40.toInt ∧ j40.toInt ≤ 255 := by rw [x43]; exact BY_rng _ _ _
            refine V_bipush 62 B (v := 83) dX12_strokeHere_62 (by decide +kernel) ?_
            refine V_icmp_ne 64 B 71 dX12_strokeHere_64 (by decide) (fun kk45 => ?_) (fun kk45 => ?_)
            ·
              have x46 := x_ne kk45
              rw [show (83 : Int32).toInt = 83 by decide +kernel] at x46
              refine V_aload_n 71 B dX12_strokeHere_71 2 rfl ?_
              refine V_iload_n 72 B dX12_strokeHere_72 0 rfl ?_
              refine V_cvi 73 B (st := []) (As := [.int (nI (a15.1 0))]) (fun sz => rX12_byteAt l D Y h0 h1 h2 h3 h4 h5 h6 p2 k5 k6 p7 p8 1 k10 p11 q12 k15 k16 f0 f1 f3 f4 f13 f14 HI (by omega) HP (a15.1 0) (by omega) sz) glV_RX12_267 ⟨rfl, rfl⟩ ⟨(Nat.le_of_ble_eq_true rfl), (Nat.le_of_ble_eq_true rfl)⟩ ⟨(Nat.le_of_ble_eq_true rfl), (Nat.le_of_ble_eq_true rfl)⟩ [0, 0, 0, 0, 0, 0, 0] rfl 13 0 rfl rfl rfl rfl (Nat.le_of_ble_eq_true rfl) rfl (fun _ _ _ => rfl) dX12_strokeHere_73 (fun j47 u48 w49 => ?_)
              refine V_ws [(h0, oC 13 [.ref h1, .ref h2, .int p2, .ref h3, .ref h4, .int (nI k5), .int (nI k6), .int p7, .int p8, .int 1, .int (nI k10), .int p11, .long q12, .ref h5, .ref h6, .int (nI k15), .int (nI k16)]), (h1, aI Y 3640 f0), (h2, aZ Y 2 f1), (h3, aZ Y 80 f3), (h4, aB Y 1600 f4), (h5, aI Y 200 f13), (h6, aI Y 800 f14)] rfl ?_
              have x50 := w49
              clear w49
              have x51 : -1 ≤ j47.toInt ∧ j47.toInt ≤ 255 := by rw [x50]; exact BY_rng _ _ _
              refine V_bipush 76 B (v := 65) dX12_strokeHere_76 (by decide +kernel) ?_
              refine V_icmp_ne 78 B 85 dX12_strokeHere_78 (by decide) (fun kk52 => ?_) (fun kk52 => ?_)
              ·
                have x53 := x_ne kk52
                rw [show (65 : Int32).toInt = 65 by decide +kernel] at x53
                refine V_aload_n 85 B dX12_strokeHere_85 2 rfl ?_
                refine V_iload_n 86 B dX12_strokeHere_86 0 rfl ?_
                refine V_cvi 87 B (st := []) (As := [.int (nI (a15.1 0))]) (fun sz => rX12_byteAt l D Y h0 h1 h2 h3 h4 h5 h6 p2 k5 k6 p7 p8 1 k10 p11 q12 k15 k16 f0 f1 f3 f4 f13 f14 HI (by omega) HP (a15.1 0) (by omega) sz) glV_RX12_267 ⟨rfl, rfl⟩ ⟨(Nat.le_of_ble_eq_true rfl), (Nat.le_of_ble_eq_true rfl)⟩ ⟨(Nat.le_of_ble_eq_true rfl), (Nat.le_of_ble_eq_true rfl)⟩ [0, 0, 0, 0, 0, 0, 0] rfl 13 0 rfl rfl rfl rfl (Nat.le_of_ble_eq_true rfl) rfl (fun _ _ _ => rfl) dX12_strokeHere_87 (fun j54 u55 w56 => ?_)
                refine V_ws [(h0, oC 13 [.ref h1, .ref h2, .int p2, .ref h3, .ref h4, .int (nI k5), .int (nI k6), .int p7, .int p8, .int 1, .int (nI k10), .int p11, .long q12, .ref h5, .ref h6, .int (nI k15), .int (nI k16)]), (h1, aI Y 3640 f0), (h2, aZ Y 2 f1), (h3, aZ Y 80 f3), (h4, aB Y 1600 f4), (h5, aI Y 200 f13), (h6, aI Y 800 f14)] rfl ?_
                have x57 := w56
                clear w56
                have x58 : -1 ≤ j54.toInt ∧ j54.toInt ≤ 255 := by rw [x57]; exact BY_rng _ _ _
                refine V_bipush 90 B (v := 77) dX12_strokeHere_90 (by decide +kernel) ?_
                refine V_icmp_ne 92 B 100 dX12_strokeHere_92 (by decide) (fun kk59 => ?_) (fun kk59 => ?_)
                ·
                  have x60 := x_ne kk59
                  rw [show (77 : Int32).toInt = 77 by decide +kernel] at x60
                  refine V_iconst 100 B (v := 0) dX12_strokeHere_100 (by decide +kernel) ?_
                  refine V_istore_n 101 B (lv2 := [(3, .int 0), (2, .int (nI (a15.1 0))), (1, .int (a15.2.1 0)), (0, .ref h0)]) dX12_strokeHere_101 (by decide) rfl ?_
                  refine V_iload_n 102 B dX12_strokeHere_102 0 rfl ?_
                  refine V_if_eq_t 103 B 112 dX12_strokeHere_103 (by decide) (by decide +kernel) ?_
                  refine V_iconst 112 B (v := (-1)) dX12_strokeHere_112 (by decide +kernel) ?_
                  exact V_iret 113 B dX12_strokeHere_113 (mkW [] [] [] [] [] []) (Or.inl rfl) rfl
                ·
                  obtain rfl : j54 = 77 := kk59
                  have e62 : (77 : Int32).toInt = 77 := by decide +kernel
                  refine V_bipush 95 B (v := 8) dX12_strokeHere_95 (by decide +kernel) ?_
                  refine V_goto 97 B 101 dX12_strokeHere_97 (by decide) ?_
                  refine V_istore_n 101 B (lv2 := [(3, .int 8), (2, .int (nI (a15.1 0))), (1, .int (a15.2.1 0)), (0, .ref h0)]) dX12_strokeHere_101 (by decide) rfl ?_
                  refine V_iload_n 102 B dX12_strokeHere_102 0 rfl ?_
                  refine V_if_eq_f 103 B 112 dX12_strokeHere_103 (by decide) (by decide +kernel) ?_
                  refine V_iload_n 106 B dX12_strokeHere_106 2 rfl ?_
                  refine V_iload_n 107 B dX12_strokeHere_107 0 rfl ?_
                  refine V_iand 108 B dX12_strokeHere_108 rfl ?_
                  refine V_nmi (fun j63 e64 => ?_)
                  refine V_if_eq 109 B 114 dX12_strokeHere_109 (by decide) (fun kk65 => ?_) (fun kk65 => ?_)
                  ·
                    obtain rfl : j63 = 0 := kk65
                    have e67 : (0 : Int32).toInt = 0 := by decide +kernel
                    refine V_iload_n 114 B dX12_strokeHere_114 2 rfl ?_
                    refine V_iload_n 115 B dX12_strokeHere_115 0 rfl ?_
                    refine V_ior 116 B dX12_strokeHere_116 rfl ?_
                    refine V_nmi (fun j68 e69 => ?_)
                    refine V_istore_n 117 B (lv2 := [(1, .int j68), (3, .int 8), (2, .int (nI (a15.1 0))), (0, .ref h0)]) dX12_strokeHere_117 (by decide) rfl ?_
                    refine V_iinc 118 B (v := (nI (1 + (a15.1 0)))) (lv2 := [(2, .int (nI (1 + (a15.1 0)))), (1, .int j68), (3, .int 8), (0, .ref h0)]) dX12_strokeHere_118 2 rfl (nI_addE (a := (a15.1 0)) (b := 1) (by omega)) (by decide) rfl ?_
                    refine V_goto 121 B 33 dX12_strokeHere_121 (by decide) ?_
                    refine V_lv [(2, .int (nI (1 + (a15.1 0)))), (1, .int j68), (0, .ref h0)] [0, 1, 3] rfl ?_
                    exact IH16 (mkW [1 + (a15.1 0)] [j68] [] [] [] []) (show 1 + (a15.1 0) ≤ 4000 by omega) (by show 100000 - (1 + (a15.1 0)) < 100000 - (a15.1 0); omega)
                  ·
                    have x70 := x_ne kk65
                    rw [show (0 : Int32).toInt = 0 by decide +kernel] at x70
                    refine V_iconst 112 B (v := (-1)) dX12_strokeHere_112 (by decide +kernel) ?_
                    exact V_iret 113 B dX12_strokeHere_113 (mkW [] [] [] [] [] []) (Or.inl rfl) rfl
              ·
                obtain rfl : j47 = 65 := kk52
                have e72 : (65 : Int32).toInt = 65 := by decide +kernel
                refine V_iconst 81 B (v := 4) dX12_strokeHere_81 (by decide +kernel) ?_
                refine V_goto 82 B 101 dX12_strokeHere_82 (by decide) ?_
                refine V_istore_n 101 B (lv2 := [(3, .int 4), (2, .int (nI (a15.1 0))), (1, .int (a15.2.1 0)), (0, .ref h0)]) dX12_strokeHere_101 (by decide) rfl ?_
                refine V_iload_n 102 B dX12_strokeHere_102 0 rfl ?_
                refine V_if_eq_f 103 B 112 dX12_strokeHere_103 (by decide) (by decide +kernel) ?_
                refine V_iload_n 106 B dX12_strokeHere_106 2 rfl ?_
                refine V_iload_n 107 B dX12_strokeHere_107 0 rfl ?_
                refine V_iand 108 B dX12_strokeHere_108 rfl ?_
                refine V_nmi (fun j73 e74 => ?_)
                refine V_if_eq 109 B 114 dX12_strokeHere_109 (by decide) (fun kk75 => ?_) (fun kk75 => ?_)
                ·
                  obtain rfl : j73 = 0 := kk75
                  have e77 : (0 : Int32).toInt = 0 := by decide +kernel
                  refine V_iload_n 114 B dX12_strokeHere_114 2 rfl ?_
                  refine V_iload_n 115 B dX12_strokeHere_115 0 rfl ?_
                  refine V_ior 116 B dX12_strokeHere_116 rfl ?_
                  refine V_nmi (fun j78 e79 => ?_)
                  refine V_istore_n 117 B (lv2 := [(1, .int j78), (3, .int 4), (2, .int (nI (a15.1 0))), (0, .ref h0)]) dX12_strokeHere_117 (by decide) rfl ?_
                  refine V_iinc 118 B (v := (nI (1 + (a15.1 0)))) (lv2 := [(2, .int (nI (1 + (a15.1 0)))), (1, .int j78), (3, .int 4), (0, .ref h0)]) dX12_strokeHere_118 2 rfl (nI_addE (a := (a15.1 0)) (b := 1) (by omega)) (by decide) rfl ?_
                  refine V_goto 121 B 33 dX12_strokeHere_121 (by decide) ?_
                  refine V_lv [(2, .int (nI (1 + (a15.1 0)))), (1, .int j78), (0, .ref h0)] [0, 1, 3] rfl ?_
                  exact IH16 (mkW [1 + (a15.1 0)] [j78] [] [] [] []) (show 1 + (a15.1 0) ≤ 4000 by omega) (by show 100000 - (1 + (a15.1 0)) < 100000 - (a15.1 0); omega)
                ·
                  have x80 := x_ne kk75
                  rw [show (0 : Int32).toInt = 0 by decide +kernel] at x80
                  refine V_iconst 112 B (v := (-1)) dX12_strokeHere_112 (by decide +kernel) ?_
                  exact V_iret 113 B dX12_strokeHere_113 (mkW [] [] [] [] [] []) (Or.inl rfl) rfl
            ·
              obtain rfl : j40 = 83 := kk45
              have e82 : (83 : Int32).toInt = 83 := by decide +kernel
              refine V_iconst 67 B (v := 2) dX12_strokeHere_67 (by decide +kernel) ?_
              refine V_goto 68 B 101 dX12_strokeHere_68 (by decide) ?_
              refine V_istore_n 101 B (lv2 := [(3, .int 2), (2, .int (nI (a15.1 0))), (1, .int (a15.2.1 0)), (0, .ref h0)]) dX12_strokeHere_101 (by decide) rfl ?_
              refine V_iload_n 102 B dX12_strokeHere_102 0 rfl ?_
              refine V_if_eq_f 103 B 112 dX12_strokeHere_103 (by decide) (by decide +kernel) ?_
              refine V_iload_n 106 B dX12_strokeHere_106 2 rfl ?_
              refine V_iload_n 107 B dX12_strokeHere_107 0 rfl ?_
              refine V_iand 108 B dX12_strokeHere_108 rfl ?_
              refine V_nmi (fun j83 e84 => ?_)
              refine V_if_eq 109 B 114 dX12_strokeHere_109 (by decide) (fun kk85 => ?_) (fun kk85 => ?_)
              ·
                obtain rfl : j83 = 0 := kk85
                have e87 : (0 : Int32).toInt = 0 := by decide +kernel
                refine V_iload_n 114 B dX12_strokeHere_114 2 rfl ?_
                refine V_iload_n 115 B dX12_strokeHere_115 0 rfl ?_
                refine V_ior 116 B dX12_strokeHere_116 rfl ?_
                refine V_nmi (fun j88 e89 => ?_)
                refine V_istore_n 117 B (lv2 := [(1, .int j88), (3, .int 2), (2, .int (nI (a15.1 0))), (0, .ref h0)]) dX12_strokeHere_117 (by decide) rfl ?_
                refine V_iinc 118 B (v := (nI (1 + (a15.1 0)))) (lv2 := [(2, .int (nI (1 + (a15.1 0)))), (1, .int j88), (3, .int 2), (0, .ref h0)]) dX12_strokeHere_118 2 rfl (nI_addE (a := (a15.1 0)) (b := 1) (by omega)) (by decide) rfl ?_
                refine V_goto 121 B 33 dX12_strokeHere_121 (by decide) ?_
                refine V_lv [(2, .int (nI (1 + (a15.1 0)))), (1, .int j88), (0, .ref h0)] [0, 1, 3] rfl ?_
                exact IH16 (mkW [1 + (a15.1 0)] [j88] [] [] [] []) (show 1 + (a15.1 0) ≤ 4000 by omega) (by show 100000 - (1 + (a15.1 0)) < 100000 - (a15.1 0); omega)
              ·
                have x90 := x_ne kk85
                rw [show (0 : Int32).toInt = 0 by decide +kernel] at x90
                refine V_iconst 112 B (v := (-1)) dX12_strokeHere_112 (by decide +kernel) ?_
                exact V_iret 113 B dX12_strokeHere_113 (mkW [] [] [] [] [] []) (Or.inl rfl) rfl
          ·
            obtain rfl : j33 = 67 := kk38
            have e92 : (67 : Int32).toInt = 67 := by decide +kernel
            refine V_iconst 53 B (v := 1) dX12_strokeHere_53 (by decide +kernel) ?_
            refine V_goto 54 B 101 dX12_strokeHere_54 (by decide) ?_
            refine V_istore_n 101 B (lv2 := [(3, .int 1), (2, .int (nI (a15.1 0))), (1, .int (a15.2.1 0)), (0, .ref h0)]) dX12_strokeHere_101 (by decide) rfl ?_
            refine V_iload_n 102 B dX12_strokeHere_102 0 rfl ?_
            refine V_if_eq_f 103 B 112 dX12_strokeHere_103 (by decide) (by decide +kernel) ?_
            refine V_iload_n 106 B dX12_strokeHere_106 2 rfl ?_
            refine V_iload_n 107 B dX12_strokeHere_107 0 rfl ?_
            refine V_iand 108 B dX12_strokeHere_108 rfl ?_
            refine V_nmi (fun j93 e94 => ?_)
            refine V_if_eq 109 B 114 dX12_strokeHere_109 (by decide) (fun kk95 => ?_) (fun kk95 => ?_)
            ·
              obtain rfl : j93 = 0 := kk95
              have e97 : (0 : Int32).toInt = 0 := by decide +kernel
              refine V_iload_n 114 B dX12_strokeHere_114 2 rfl ?_
              refine V_iload_n 115 B dX12_strokeHere_115 0 rfl ?_
              refine V_ior 116 B dX12_strokeHere_116 rfl ?_
              refine V_nmi (fun j98 e99 => ?_)
              refine V_istore_n 117 B (lv2 := [(1, .int j98), (3, .int 1), (2, .int (nI (a15.1 0))), (0, .ref h0)]) dX12_strokeHere_117 (by decide) rfl ?_
              refine V_iinc 118 B (v := (nI (1 + (a15.1 0)))) (lv2 := [(2, .int (nI (1 + (a15.1 0)))), (1, .int j98), (3, .int 1), (0, .ref h0)]) dX12_strokeHere_118 2 rfl (nI_addE (a := (a15.1 0)) (b := 1) (by omega)) (by decide) rfl ?_
              refine V_goto 121 B 33 dX12_strokeHere_121 (by decide) ?_
              refine V_lv [(2, .int (nI (1 + (a15.1 0)))), (1, .int j98), (0, .ref h0)] [0, 1, 3] rfl ?_
              exact IH16 (mkW [1 + (a15.1 0)] [j98] [] [] [] []) (show 1 + (a15.1 0) ≤ 4000 by omega) (by show 100000 - (1 + (a15.1 0)) < 100000 - (a15.1 0); omega)
            ·
              have x100 := x_ne kk95
              rw [show (0 : Int32).toInt = 0 by decide +kernel] at x100
              refine V_iconst 112 B (v := (-1)) dX12_strokeHere_112 (by decide +kernel) ?_
              exact V_iret 113 B dX12_strokeHere_113 (mkW [] [] [] [] [] []) (Or.inl rfl) rfl)
theorem dX12_readSequence_0 : decode cX12_readSequence 0 = .ok (.aload_n 0, 1) := by decide +kernel
theorem dX12_readSequence_1 : decode cX12_readSequence 1 = .ok (.getfield 9, 3) := by decide +kernel
theorem dX12_readSequence_4 : decode cX12_readSequence 4 = .ok (.iload_n 1, 1) := by decide +kernel
theorem dX12_readSequence_5 : decode cX12_readSequence 5 = .ok (.iconst 0, 1) := by decide +kernel
theorem dX12_readSequence_6 : decode cX12_readSequence 6 = .ok (.iastore, 1) := by decide +kernel
theorem dX12_readSequence_7 : decode cX12_readSequence 7 = .ok (.aload_n 0, 1) := by decide +kernel
theorem dX12_readSequence_8 : decode cX12_readSequence 8 = .ok (.getfield 9, 3) := by decide +kernel
theorem dX12_readSequence_11 : decode cX12_readSequence 11 = .ok (.iload_n 1, 1) := by decide +kernel
theorem dX12_readSequence_12 : decode cX12_readSequence 12 = .ok (.iaload, 1) := by decide +kernel
theorem dX12_readSequence_13 : decode cX12_readSequence 13 = .ok (.ifCond .eq 11, 3) := by decide +kernel
theorem dX12_readSequence_24 : decode cX12_readSequence 24 = .ok (.aload_n 0, 1) := by decide +kernel
theorem dX12_readSequence_25 : decode cX12_readSequence 25 = .ok (.invokevirtual 297, 3) := by decide +kernel
theorem glV_RX12_297 : GLV RX12 297 yX12_strokeHere RX12 cX12_strokeHere 4 (some .int) 0 := ⟨⟨(mT10 21 rfl rfl), (mT10 23 rfl rfl), (mTs 84 rfl rfl), (mT1 13 rfl rfl), (mT10 24 rfl rfl)⟩, by decide +kernel⟩
theorem dX12_readSequence_28 : decode cX12_readSequence 28 = .ok (.istore_n 2, 1) := by decide +kernel
theorem dX12_readSequence_29 : decode cX12_readSequence 29 = .ok (.iload_n 2, 1) := by decide +kernel
theorem dX12_readSequence_30 : decode cX12_readSequence 30 = .ok (.iconst (-1), 1) := by decide +kernel
theorem dX12_readSequence_31 : decode cX12_readSequence 31 = .ok (.if_icmp .ne 9, 3) := by decide +kernel
theorem dX12_readSequence_40 : decode cX12_readSequence 40 = .ok (.aload_n 0, 1) := by decide +kernel
theorem dX12_readSequence_41 : decode cX12_readSequence 41 = .ok (.getfield 9, 3) := by decide +kernel
theorem dX12_readSequence_44 : decode cX12_readSequence 44 = .ok (.iload_n 1, 1) := by decide +kernel
theorem dX12_readSequence_45 : decode cX12_readSequence 45 = .ok (.iaload, 1) := by decide +kernel
theorem dX12_readSequence_46 : decode cX12_readSequence 46 = .ok (.iconst 4, 1) := by decide +kernel
theorem dX12_readSequence_47 : decode cX12_readSequence 47 = .ok (.if_icmp .ne 9, 3) := by decide +kernel
theorem dX12_readSequence_56 : decode cX12_readSequence 56 = .ok (.aload_n 0, 1) := by decide +kernel
theorem dX12_readSequence_57 : decode cX12_readSequence 57 = .ok (.getfield 9, 3) := by decide +kernel
theorem dX12_readSequence_60 : decode cX12_readSequence 60 = .ok (.iload_n 1, 1) := by decide +kernel
theorem dX12_readSequence_61 : decode cX12_readSequence 61 = .ok (.dup2, 1) := by decide +kernel
theorem dX12_readSequence_62 : decode cX12_readSequence 62 = .ok (.iaload, 1) := by decide +kernel
theorem dX12_readSequence_63 : decode cX12_readSequence 63 = .ok (.iconst 1, 1) := by decide +kernel
theorem dX12_readSequence_64 : decode cX12_readSequence 64 = .ok (.iadd, 1) := by decide +kernel
theorem dX12_readSequence_65 : decode cX12_readSequence 65 = .ok (.iastore, 1) := by decide +kernel
theorem dX12_readSequence_66 : decode cX12_readSequence 66 = .ok (.aload_n 0, 1) := by decide +kernel
theorem dX12_readSequence_67 : decode cX12_readSequence 67 = .ok (.getfield 9, 3) := by decide +kernel
theorem dX12_readSequence_70 : decode cX12_readSequence 70 = .ok (.iload_n 1, 1) := by decide +kernel
theorem dX12_readSequence_71 : decode cX12_readSequence 71 = .ok (.aload_n 0, 1) := by decide +kernel
theorem dX12_readSequence_72 : decode cX12_readSequence 72 = .ok (.getfield 9, 3) := by decide +kernel
theorem dX12_readSequence_75 : decode cX12_readSequence 75 = .ok (.iload_n 1, 1) := by decide +kernel
theorem dX12_readSequence_76 : decode cX12_readSequence 76 = .ok (.iaload, 1) := by decide +kernel
theorem dX12_readSequence_77 : decode cX12_readSequence 77 = .ok (.iadd, 1) := by decide +kernel
theorem dX12_readSequence_78 : decode cX12_readSequence 78 = .ok (.iload_n 2, 1) := by decide +kernel
theorem dX12_readSequence_79 : decode cX12_readSequence 79 = .ok (.iastore, 1) := by decide +kernel
theorem dX12_readSequence_80 : decode cX12_readSequence 80 = .ok (.aload_n 0, 1) := by decide +kernel
theorem dX12_readSequence_81 : decode cX12_readSequence 81 = .ok (.invokevirtual 288, 3) := by decide +kernel
theorem dX12_readSequence_84 : decode cX12_readSequence 84 = .ok (.goto (-77), 3) := by decide +kernel
theorem dX12_readSequence_50 : decode cX12_readSequence 50 = .ok (.aload_n 0, 1) := by decide +kernel
theorem dX12_readSequence_51 : decode cX12_readSequence 51 = .ok (.iconst 3, 1) := by decide +kernel
theorem dX12_readSequence_52 : decode cX12_readSequence 52 = .ok (.invokevirtual 291, 3) := by decide +kernel
theorem dX12_readSequence_55 : decode cX12_readSequence 55 = .ok (.ireturn, 1) := by decide +kernel
theorem dX12_readSequence_34 : decode cX12_readSequence 34 = .ok (.aload_n 0, 1) := by decide +kernel
theorem dX12_readSequence_35 : decode cX12_readSequence 35 = .ok (.iconst 1, 1) := by decide +kernel
theorem dX12_readSequence_36 : decode cX12_readSequence 36 = .ok (.invokevirtual 291, 3) := by decide +kernel
theorem dX12_readSequence_39 : decode cX12_readSequence 39 = .ok (.ireturn, 1) := by decide +kernel
theorem dX12_readSequence_16 : decode cX12_readSequence 16 = .ok (.aload_n 0, 1) := by decide +kernel
theorem dX12_readSequence_17 : decode cX12_readSequence 17 = .ok (.getfield 283, 3) := by decide +kernel
theorem dX12_readSequence_20 : decode cX12_readSequence 20 = .ok (.iconst 1, 1) := by decide +kernel
theorem dX12_readSequence_21 : decode cX12_readSequence 21 = .ok (.if_icmp .ne 66, 3) := by decide +kernel
theorem dX12_readSequence_87 : decode cX12_readSequence 87 = .ok (.iconst 1, 1) := by decide +kernel
theorem dX12_readSequence_88 : decode cX12_readSequence 88 = .ok (.ireturn, 1) := by decide +kernel
set_option maxRecDepth 100000 in
set_option maxHeartbeats 4000000 in
theorem rX12_readSequence (l : Launch) (D : va_G) (Y : Nat → ClassId) (h0 : Nat) (h1 : Nat) (h2 : Nat) (h3 : Nat) (h4 : Nat) (h5 : Nat) (h6 : Nat) (p2 : Int32) (k5 : Nat) (k6 : Nat) (p7 : Int32) (p8 : Int32) (p9 : Int32) (k10 : Nat) (p11 : Int32) (q12 : Int64) (k15 : Nat) (k16 : Nat) (f0 : Nat → Int32) (f1 : Nat → Int32) (f3 : Nat → Int32) (f4 : Nat → Int32) (f13 : Nat → Int32) (f14 : Nat → Int32) (HI : INV f0) (HL : k5 ≤ 1600) (HP : PLV f13) (s0 : Nat) (hs0 : SQ s0) (hx0 : k10 ≤ k6) (hx1 : k6 ≤ k5) (hx2 : (p9 = 0 ∨ k10 < k6)) (sz : Nat) : Met l yX12_readSequence (WSm yX12_readSequence cX12_readSequence 3 (some .boolean)) (mkR 4 0 0 86) (PreC D Y [.ref h0, .int (nI s0)] [(h0, oC 13 [.ref h1, .ref h2, .int p2, .ref h3, .ref h4, .int (nI k5), .int (nI k6), .int p7, .int p8, .int p9, .int (nI k10), .int p11, .long q12, .ref h5, .ref h6, .int (nI k15), .int (nI k16)]), (h1, aI Y 3640 f0), (h2, aZ Y 2 f1), (h3, aZ Y 80 f3), (h4, aB Y 1600 f4), (h5, aI Y 200 f13), (h6, aI Y 800 f14)] sz) (QI D (fun (r : Int32) (u : WU) => (r = 0 ∨ (r = 1 ∧ k10 < (u.1 1))) ∧ INV (u.2.2.2.1 0) ∧ k10 ≤ (u.1 1) ∧ (u.1 1) ≤ (u.1 0) ∧ (u.1 0) ≤ k5 ∧ ((u.2.1 2) = 0 ∨ (u.1 1) < (u.1 0)) ∧ (∀ k, (k < s0 ∨ s0 + 5 ≤ k) → (u.2.2.2.1 0) k = f0 k)) (fun (u : WU) => [(h0, oC 13 [.ref h1, .ref h2, .int p2, .ref h3, .ref h4, .int (nI k5), .int (nI (u.1 0)), .int (u.2.1 0), .int (u.2.1 1), .int (u.2.1 2), .int (nI (u.1 1)), .int p11, .long (u.2.2.1 0), .ref h5, .ref h6, .int (nI k15), .int (nI k16)]), (h1, aI Y 3640 (u.2.2.2.1 0)), (h2, aZ Y 2 f1), (h3, aZ Y 80 f3), (h4, aB Y 1600 f4), (h5, aI Y 200 f13), (h6, aI Y 800 f14)]) (va_A [(h0, oC 13 [.ref h1, .ref h2, .int p2, .ref h3, .ref h4, .int (nI k5), .int (nI k6), .int p7, .int p8, .int p9, .int (nI k10), .int p11, .long q12, .ref h5, .ref h6, .int (nI k15), .int (nI k16)]), (h1, aI Y 3640 f0), (h2, aZ Y 2 f1), (h3, aZ Y 80 f3), (h4, aB Y 1600 f4), (h5, aI Y 200 f13), (h6, aI Y 800 f14)] sz)) 0 0 (va_A [(h0, oC 13 [.ref h1, .ref h2, .int p2, .ref h3, .ref h4, .int (nI k5), .int (nI k6), .int p7, .int p8, .int p9, .int (nI k10), .int p11, .long q12, .ref h5, .ref h6, .int (nI k15), .int (nI k16)]), (h1, aI Y 3640 f0), (h2, aZ Y 2 f1), (h3, aZ Y 80 f3), (h4, aB Y 1600 f4), (h5, aI Y 200 f13), (h6, aI Y 800 f14)] sz) :=
  met_of  (by decide +kernel) (Nat.le_of_ble_eq_true rfl) (fun p e s m args below meth c B hin hsz => by
    have B : VB p s m args meth c D Y (va_A [(h0, oC 13 [.ref h1, .ref h2, .int p2, .ref h3, .ref h4, .int (nI k5), .int (nI k6), .int p7, .int p8, .int p9, .int (nI k10), .int p11, .long q12, .ref h5, .ref h6, .int (nI k15), .int (nI k16)]), (h1, aI Y 3640 f0), (h2, aZ Y 2 f1), (h3, aZ Y 80 f3), (h4, aB Y 1600 f4), (h5, aI Y 200 f13), (h6, aI Y 800 f14)] sz) cX12_readSequence 3 RX12 (some .boolean) := B
    have hq_s0 := hs0.1
    refine V_aload_n 0 B dX12_readSequence_0 0 rfl ?_
    refine V_get 1 B gf_RX12_9 0 rfl rfl dX12_readSequence_1 ?_
    refine V_iload_n 4 B dX12_readSequence_4 1 rfl ?_
    refine V_iconst 5 B (v := 0) dX12_readSequence_5 (by decide +kernel) ?_
    have hv0 : INV (upd f0 s0 0) := INV_nat (v := 0) HI hs0.2.1 (by omega) (by decide)
    refine V_iast 6 B 1 rfl (vp_in_nI (n := s0) (by omega) (by decide)) dX12_readSequence_6 [(h0, oC 13 [.ref h1, .ref h2, .int p2, .ref h3, .ref h4, .int (nI k5), .int (nI k6), .int p7, .int p8, .int p9, .int (nI k10), .int p11, .long q12, .ref h5, .ref h6, .int (nI k15), .int (nI k16)]), (h1, aI Y 3640 (upd f0 s0 0)), (h2, aZ Y 2 f1), (h3, aZ Y 80 f3), (h4, aB Y 1600 f4), (h5, aI Y 200 f13), (h6, aI Y 800 f14)] (by rw [nI_clamp (show s0 < 2 ^ 31 by omega)]; rfl) ?_
    refine V_wloop (α := WU) (fun a => 100 - gN (a.2.2.2.1 0) s0) (fun a => INV (a.2.2.2.1 0) ∧ (k10 ≤ (a.1 1) ∧ (a.1 1) ≤ (a.1 0) ∧ (a.1 0) ≤ k5 ∧ ((a.2.1 2) = 0 ∨ (a.1 1) < (a.1 0))) ∧ (gN (a.2.2.2.1 0) s0 = 0 ∨ k10 < (a.1 1)) ∧ (∀ k, (k < s0 ∨ s0 + 5 ≤ k) → (a.2.2.2.1 0) k = f0 k)) (fun a => [(0, .ref h0), (1, .int (nI s0))]) (fun a => [(h0, oC 13 [.ref h1, .ref h2, .int p2, .ref h3, .ref h4, .int (nI k5), .int (nI (a.1 0)), .int (a.2.1 0), .int (a.2.1 1), .int (a.2.1 2), .int (nI (a.1 1)), .int p11, .long (a.2.2.1 0), .ref h5, .ref h6, .int (nI k15), .int (nI k16)]), (h1, aI Y 3640 (a.2.2.2.1 0)), (h2, aZ Y 2 f1), (h3, aZ Y 80 f3), (h4, aB Y 1600 f4), (h5, aI Y 200 f13), (h6, aI Y 800 f14)]) (mkW [k6, k10] [p7, p8, p9] [q12] [(upd f0 s0 0)] [] []) ⟨hv0, ⟨(show k10 ≤ k10 by omega), (show k10 ≤ k6 by omega), (show k6 ≤ k5 by omega), (show (p9 = 0 ∨ k10 < k6) by first | assumption | exact Or.inr (by omega))⟩, (Or.inl gN_z), (fr_upd (fun _ _ => rfl) (by omega) (by omega))⟩ rfl rfl (fun a1 hI3 IH2 => ?_)
    refine V_lv [(0, .ref h0), (1, .int (nI s0))] [0, 1] rfl ?_
    refine V_ws [(h0, oC 13 [.ref h1, .ref h2, .int p2, .ref h3, .ref h4, .int (nI k5), .int (nI (a1.1 0)), .int (a1.2.1 0), .int (a1.2.1 1), .int (a1.2.1 2), .int (nI (a1.1 1)), .int p11, .long (a1.2.2.1 0), .ref h5, .ref h6, .int (nI k15), .int (nI k16)]), (h1, aI Y 3640 (a1.2.2.2.1 0)), (h2, aZ Y 2 f1), (h3, aZ Y 80 f3), (h4, aB Y 1600 f4), (h5, aI Y 200 f13), (h6, aI Y 800 f14)] rfl ?_
    obtain ⟨x4, x5, x6, x7⟩ := hI3
    obtain ⟨x8, x9, x10, x11⟩ := x5
    refine V_aload_n 7 B dX12_readSequence_7 0 rfl ?_
    refine V_get 8 B gf_RX12_9 0 rfl rfl dX12_readSequence_8 ?_
    refine V_iload_n 11 B dX12_readSequence_11 1 rfl ?_
    have x12 : (gN (a1.2.2.2.1 0) s0) ≤ 4 := gN_le x4 (by omega) hs0.2.1
    refine V_iald 12 B (v := (nI ((gN (a1.2.2.2.1 0) s0)))) 1 rfl (vp_in_nI (n := s0) (by omega) (by decide)) dX12_readSequence_12 (by rw [nI_clamp (show s0 < 2 ^ 31 by omega)]; exact gN_eq x4 (by omega) hs0.2.1) ?_
    refine V_if_eq 13 B 24 dX12_readSequence_13 (by decide) (fun kk13 => ?_) (fun kk13 => ?_)
    ·
      have x14 := n_eq (a := (gN (a1.2.2.2.1 0) s0)) (b := 0) kk13 (by omega) (by omega)
      refine V_aload_n 24 B dX12_readSequence_24 0 rfl ?_
      refine V_cvi 25 B (st := []) (As := []) (fun sz => rX12_strokeHere l D Y h0 h1 h2 h3 h4 h5 h6 p2 k5 (a1.1 0) (a1.2.1 0) (a1.2.1 1) (a1.2.1 2) (a1.1 1) p11 (a1.2.2.1 0) k15 k16 (a1.2.2.2.1 0) f1 f3 f4 f13 f14 x4 (by omega) HP (by omega) (by omega) (by first | assumption | exact Or.inl rfl | exact Or.inr (by omega)) sz) glV_RX12_297 ⟨rfl, rfl⟩ ⟨(Nat.le_of_ble_eq_true rfl), (Nat.le_of_ble_eq_true rfl)⟩ ⟨(Nat.le_of_ble_eq_true rfl), (Nat.le_of_ble_eq_true rfl)⟩ [0, 0, 0, 0, 0, 0, 0] rfl 13 0 rfl rfl rfl rfl (Nat.le_of_ble_eq_true rfl) rfl (fun _ _ _ => rfl) dX12_readSequence_25 (fun j15 u16 w17 => ?_)
      refine V_ws [(h0, oC 13 [.ref h1, .ref h2, .int p2, .ref h3, .ref h4, .int (nI k5), .int (nI (a1.1 0)), .int (a1.2.1 0), .int (a1.2.1 1), .int (a1.2.1 2), .int (nI (a1.1 1)), .int p11, .long (a1.2.2.1 0), .ref h5, .ref h6, .int (nI k15), .int (nI k16)]), (h1, aI Y 3640 (a1.2.2.2.1 0)), (h2, aZ Y 2 f1), (h3, aZ Y 80 f3), (h4, aB Y 1600 f4), (h5, aI Y 200 f13), (h6, aI Y 800 f14)] rfl ?_
      have x18 := w17
      clear w17
      refine V_istore_n 28 B (lv2 := [(2, .int j15), (0, .ref h0), (1, .int (nI s0))]) dX12_readSequence_28 (by decide) rfl ?_
      refine V_iload_n 29 B dX12_readSequence_29 0 rfl ?_
      refine V_iconst 30 B (v := (-1)) dX12_readSequence_30 (by decide +kernel) ?_
      refine V_icmp_ne 31 B 40 dX12_readSequence_31 (by decide) (fun kk19 => ?_) (fun kk19 => ?_)
      ·
        have x20 := x_ne kk19
        rw [show ((-1) : Int32).toInt = (-1) by decide +kernel] at x20
        refine V_aload_n 40 B dX12_readSequence_40 1 rfl ?_
        refine V_get 41 B gf_RX12_9 0 rfl rfl dX12_readSequence_41 ?_
        refine V_iload_n 44 B dX12_readSequence_44 2 rfl ?_
        have x21 : (gN (a1.2.2.2.1 0) s0) ≤ 4 := gN_le x4 (by omega) hs0.2.1
        refine V_iald 45 B (v := (nI ((gN (a1.2.2.2.1 0) s0)))) 1 rfl (vp_in_nI (n := s0) (by omega) (by decide)) dX12_readSequence_45 (by rw [nI_clamp (show s0 < 2 ^ 31 by omega)]; exact gN_eq x4 (by omega) hs0.2.1) ?_
        refine V_iconst 46 B (v := 4) dX12_readSequence_46 (by decide +kernel) ?_
        refine V_icmp_ne 47 B 56 dX12_readSequence_47 (by decide) (fun kk22 => ?_) (fun kk22 => ?_)
        ·
          have x23 := n_ne (a := (gN (a1.2.2.2.1 0) s0)) (b := 4) kk22
          refine V_aload_n 56 B dX12_readSequence_56 1 rfl ?_
          refine V_get 57 B gf_RX12_9 0 rfl rfl dX12_readSequence_57 ?_
          refine V_iload_n 60 B dX12_readSequence_60 2 rfl ?_
          refine V_dup2_11 61 B dX12_readSequence_61 rfl rfl ?_
          have x24 : (gN (a1.2.2.2.1 0) s0) ≤ 4 := gN_le x4 (by omega) hs0.2.1
          refine V_iald 62 B (v := (nI ((gN (a1.2.2.2.1 0) s0)))) 1 rfl (vp_in_nI (n := s0) (by omega) (by decide)) dX12_readSequence_62 (by rw [nI_clamp (show s0 < 2 ^ 31 by omega)]; exact gN_eq x4 (by omega) hs0.2.1) ?_
          refine V_iconst 63 B (v := 1) dX12_readSequence_63 (by decide +kernel) ?_
          refine V_iadd 64 B (v := (nI (1 + (gN (a1.2.2.2.1 0) s0)))) dX12_readSequence_64 (nI_addE (a := (gN (a1.2.2.2.1 0) s0)) (b := 1) (by omega)) ?_
          have hv25 : INV (upd (a1.2.2.2.1 0) s0 (nI (1 + (gN (a1.2.2.2.1 0) s0)))) := INV_nat (v := 1 + (gN (a1.2.2.2.1 0) s0)) x4 hs0.2.1 (by omega) (by decide)
          refine V_iast 65 B 1 rfl (vp_in_nI (n := s0) (by omega) (by decide)) dX12_readSequence_65 [(h0, oC 13 [.ref h1, .ref h2, .int p2, .ref h3, .ref h4, .int (nI k5), .int (nI (a1.1 0)), .int (a1.2.1 0), .int (a1.2.1 1), .int (a1.2.1 2), .int (nI (a1.1 1)), .int p11, .long (a1.2.2.1 0), .ref h5, .ref h6, .int (nI k15), .int (nI k16)]), (h1, aI Y 3640 (upd (a1.2.2.2.1 0) s0 (nI (1 + (gN (a1.2.2.2.1 0) s0))))), (h2, aZ Y 2 f1), (h3, aZ Y 80 f3), (h4, aB Y 1600 f4), (h5, aI Y 200 f13), (h6, aI Y 800 f14)] (by rw [nI_clamp (show s0 < 2 ^ 31 by omega)]; rfl) ?_
          refine V_aload_n 66 B dX12_readSequence_66 1 rfl ?_
          refine V_get 67 B gf_RX12_9 0 rfl rfl dX12_readSequence_67 ?_
          refine V_iload_n 70 B dX12_readSequence_70 2 rfl ?_
          refine V_aload_n 71 B dX12_readSequence_71 1 rfl ?_
          refine V_get 72 B gf_RX12_9 0 rfl rfl dX12_readSequence_72 ?_
          refine V_iload_n 75 B dX12_readSequence_75 2 rfl ?_
          refine V_iald 76 B (v := (nI (1 + (gN (a1.2.2.2.1 0) s0)))) 1 rfl (vp_in_nI (n := s0) (by omega) (by decide)) dX12_readSequence_76 (by rw [nI_clamp (show s0 < 2 ^ 31 by omega)]; exact upd_at) ?_
          refine V_iadd 77 B (v := (nI (1 + (gN (a1.2.2.2.1 0) s0) + s0))) dX12_readSequence_77 (nI_addE (a := s0) (b := 1 + (gN (a1.2.2.2.1 0) s0)) (by omega)) ?_
          refine V_iload_n 78 B dX12_readSequence_78 0 rfl ?_
          have hv26 : INV (upd (upd (a1.2.2.2.1 0) s0 (nI (1 + (gN (a1.2.2.2.1 0) s0)))) (1 + (gN (a1.2.2.2.1 0) s0) + s0) j15) := INV_free hv25 (SQ.fr hs0 (j := 1 + (gN (a1.2.2.2.1 0) s0) + s0) (by omega) (by omega))
          refine V_iast 79 B 1 rfl (vp_in_nI (n := 1 + (gN (a1.2.2.2.1 0) s0) + s0) (by omega) (by decide)) dX12_readSequence_79 [(h0, oC 13 [.ref h1, .ref h2, .int p2, .ref h3, .ref h4, .int (nI k5), .int (nI (a1.1 0)), .int (a1.2.1 0), .int (a1.2.1 1), .int (a1.2.1 2), .int (nI (a1.1 1)), .int p11, .long (a1.2.2.1 0), .ref h5, .ref h6, .int (nI k15), .int (nI k16)]), (h1, aI Y 3640 (upd (upd (a1.2.2.2.1 0) s0 (nI (1 + (gN (a1.2.2.2.1 0) s0)))) (1 + (gN (a1.2.2.2.1 0) s0) + s0) j15)), (h2, aZ Y 2 f1), (h3, aZ Y 80 f3), (h4, aB Y 1600 f4), (h5, aI Y 200 f13), (h6, aI Y 800 f14)] (by rw [nI_clamp (show 1 + (gN (a1.2.2.2.1 0) s0) + s0 < 2 ^ 31 by omega)]; rfl) ?_
          have x27 : (a1.1 1) < (a1.1 0) := by
            rcases x18 with z | z
            · contradiction
            · exact z
          refine V_aload_n 80 B dX12_readSequence_80 1 rfl ?_
          refine V_cvv 81 B (st := []) (As := []) (fun sz => rX12_advance l D Y h0 h1 h2 h3 h4 h5 h6 p2 k5 (a1.1 0) (a1.2.1 0) (a1.2.1 1) (a1.2.1 2) (a1.1 1) p11 (a1.2.2.1 0) k15 k16 (upd (upd (a1.2.2.2.1 0) s0 (nI (1 + (gN (a1.2.2.2.1 0) s0)))) (1 + (gN (a1.2.2.2.1 0) s0) + s0) j15) f1 f3 f4 f13 f14 hv26 (by omega) HP (by omega) sz) glV_RX12_288 ⟨rfl, rfl⟩ ⟨(Nat.le_of_ble_eq_true rfl), (Nat.le_of_ble_eq_true rfl)⟩ ⟨(Nat.le_of_ble_eq_true rfl), (Nat.le_of_ble_eq_true rfl)⟩ [0, 0, 0, 0, 0, 0, 0] rfl 13 0 rfl rfl rfl rfl (Nat.le_of_ble_eq_true rfl) rfl (fun _ _ => rfl) dX12_readSequence_81 (fun u29 w30 => ?_)
          refine V_ws [(h0, oC 13 [.ref h1, .ref h2, .int p2, .ref h3, .ref h4, .int (nI k5), .int (nI (u29.1 0)), .int (a1.2.1 0), .int (a1.2.1 1), .int (u29.2.1 0), .int (nI (u29.1 1)), .int p11, .long (u29.2.2.1 0), .ref h5, .ref h6, .int (nI k15), .int (nI k16)]), (h1, aI Y 3640 (upd (upd (a1.2.2.2.1 0) s0 (nI (1 + (gN (a1.2.2.2.1 0) s0)))) (1 + (gN (a1.2.2.2.1 0) s0) + s0) j15)), (h2, aZ Y 2 f1), (h3, aZ Y 80 f3), (h4, aB Y 1600 f4), (h5, aI Y 200 f13), (h6, aI Y 800 f14)] rfl ?_
          obtain ⟨x31, x32, x33, x34⟩ := w30
          refine V_goto 84 B 7 dX12_readSequence_84 (by decide) ?_
          refine V_lv [(0, .ref h0), (1, .int (nI s0))] [1, 2] rfl ?_
          exact IH2 (mkW [(u29.1 0), (u29.1 1)] [(a1.2.1 0), (a1.2.1 1), (u29.2.1 0)] [(u29.2.2.1 0)] [(upd (upd (a1.2.2.2.1 0) s0 (nI (1 + (gN (a1.2.2.2.1 0) s0)))) (1 + (gN (a1.2.2.2.1 0) s0) + s0) j15)] [] []) ⟨hv26, ⟨(show k10 ≤ (u29.1 1) by omega), (show (u29.1 1) ≤ (u29.1 0) by omega), (show (u29.1 0) ≤ k5 by omega), (show ((u29.2.1 0) = 0 ∨ (u29.1 1) < (u29.1 0)) by first | assumption | exact Or.inr (by omega))⟩, (Or.inr (show k10 < (u29.1 1) by omega)), (fr_upd (fr_upd x7 (by omega) (by omega)) (by omega) (by omega))⟩ (by show 100 - gN ((upd (upd (a1.2.2.2.1 0) s0 (nI (1 + (gN (a1.2.2.2.1 0) s0)))) (1 + (gN (a1.2.2.2.1 0) s0) + s0) j15)) s0 < _; rw [show gN ((upd (upd (a1.2.2.2.1 0) s0 (nI (1 + (gN (a1.2.2.2.1 0) s0)))) (1 + (gN (a1.2.2.2.1 0) s0) + s0) j15)) s0 = 1 + gN (a1.2.2.2.1 0) s0 from (gN_ne (by omega)).trans (gN_at (by omega))]; omega)
        ·
          have x35 := n_eq (a := (gN (a1.2.2.2.1 0) s0)) (b := 4) kk22 (by omega) (by omega)
          refine V_aload_n 50 B dX12_readSequence_50 1 rfl ?_
          refine V_iconst 51 B (v := 3) dX12_readSequence_51 (by decide +kernel) ?_
          refine V_cvi 52 B (st := []) (As := [.int 3]) (fun sz => rX12_fail l D Y h0 h1 h2 h3 h4 h5 h6 p2 k5 (a1.1 0) (a1.2.1 0) (a1.2.1 1) (a1.2.1 2) (a1.1 1) p11 (a1.2.2.1 0) k15 k16 (a1.2.2.2.1 0) f1 f3 f4 f13 f14 x4 (by omega) HP 3 sz) glV_RX12_291 ⟨rfl, rfl⟩ ⟨(Nat.le_of_ble_eq_true rfl), (Nat.le_of_ble_eq_true rfl)⟩ ⟨(Nat.le_of_ble_eq_true rfl), (Nat.le_of_ble_eq_true rfl)⟩ [0, 0, 0, 0, 0, 0, 0] rfl 13 0 rfl rfl rfl rfl (Nat.le_of_ble_eq_true rfl) rfl (fun _ _ _ => rfl) dX12_readSequence_52 (fun j36 u37 w38 => ?_)
          refine V_ws [(h0, oC 13 [.ref h1, .ref h2, .int p2, .ref h3, .ref h4, .int (nI k5), .int (nI (a1.1 0)), .int (u37.2.1 0), .int (u37.2.1 1), .int (a1.2.1 2), .int (nI (a1.1 1)), .int p11, .long (a1.2.2.1 0), .ref h5, .ref h6, .int (nI k15), .int (nI k16)]), (h1, aI Y 3640 (a1.2.2.2.1 0)), (h2, aZ Y 2 f1), (h3, aZ Y 80 f3), (h4, aB Y 1600 f4), (h5, aI Y 200 f13), (h6, aI Y 800 f14)] rfl ?_
          have x39 := w38
          clear w38
          obtain rfl := x39
          exact V_zret 55 B rfl dX12_readSequence_55 (mkW [(a1.1 0), (a1.1 1)] [(u37.2.1 0), (u37.2.1 1), (a1.2.1 2)] [(a1.2.2.1 0)] [(a1.2.2.2.1 0)] [] []) ⟨(Or.inl rfl), x4, (show k10 ≤ (a1.1 1) by omega), (show (a1.1 1) ≤ (a1.1 0) by omega), (show (a1.1 0) ≤ k5 by omega), (show ((a1.2.1 2) = 0 ∨ (a1.1 1) < (a1.1 0)) by first | assumption | exact Or.inr (by omega)), x7⟩ rfl
      ·
        obtain rfl : j15 = (-1) := kk19
        have e41 : ((-1) : Int32).toInt = (-1) := by decide +kernel
        refine V_aload_n 34 B dX12_readSequence_34 1 rfl ?_
        refine V_iconst 35 B (v := 1) dX12_readSequence_35 (by decide +kernel) ?_
        refine V_cvi 36 B (st := []) (As := [.int 1]) (fun sz => rX12_fail l D Y h0 h1 h2 h3 h4 h5 h6 p2 k5 (a1.1 0) (a1.2.1 0) (a1.2.1 1) (a1.2.1 2) (a1.1 1) p11 (a1.2.2.1 0) k15 k16 (a1.2.2.2.1 0) f1 f3 f4 f13 f14 x4 (by omega) HP 1 sz) glV_RX12_291 ⟨rfl, rfl⟩ ⟨(Nat.le_of_ble_eq_true rfl), (Nat.le_of_ble_eq_true rfl)⟩ ⟨(Nat.le_of_ble_eq_true rfl), (Nat.le_of_ble_eq_true rfl)⟩ [0, 0, 0, 0, 0, 0, 0] rfl 13 0 rfl rfl rfl rfl (Nat.le_of_ble_eq_true rfl) rfl (fun _ _ _ => rfl) dX12_readSequence_36 (fun j42 u43 w44 => ?_)
        refine V_ws [(h0, oC 13 [.ref h1, .ref h2, .int p2, .ref h3, .ref h4, .int (nI k5), .int (nI (a1.1 0)), .int (u43.2.1 0), .int (u43.2.1 1), .int (a1.2.1 2), .int (nI (a1.1 1)), .int p11, .long (a1.2.2.1 0), .ref h5, .ref h6, .int (nI k15), .int (nI k16)]), (h1, aI Y 3640 (a1.2.2.2.1 0)), (h2, aZ Y 2 f1), (h3, aZ Y 80 f3), (h4, aB Y 1600 f4), (h5, aI Y 200 f13), (h6, aI Y 800 f14)] rfl ?_
        have x45 := w44
        clear w44
        obtain rfl := x45
        exact V_zret 39 B rfl dX12_readSequence_39 (mkW [(a1.1 0), (a1.1 1)] [(u43.2.1 0), (u43.2.1 1), (a1.2.1 2)] [(a1.2.2.1 0)] [(a1.2.2.2.1 0)] [] []) ⟨(Or.inl rfl), x4, (show k10 ≤ (a1.1 1) by omega), (show (a1.1 1) ≤ (a1.1 0) by omega), (show (a1.1 0) ≤ k5 by omega), (show ((a1.2.1 2) = 0 ∨ (a1.1 1) < (a1.1 0)) by first | assumption | exact Or.inr (by omega)), x7⟩ rfl
    ·
      have x46 := n_ne (a := (gN (a1.2.2.2.1 0) s0)) (b := 0) kk13
      refine V_aload_n 16 B dX12_readSequence_16 0 rfl ?_
      refine V_get 17 B gf_RX12_283 0 rfl rfl dX12_readSequence_17 ?_
      refine V_iconst 20 B (v := 1) dX12_readSequence_20 (by decide +kernel) ?_
      refine V_icmp_ne 21 B 87 dX12_readSequence_21 (by decide) (fun kk47 => ?_) (fun kk47 => ?_)
      ·
        have x48 := x_ne kk47
        rw [show (1 : Int32).toInt = 1 by decide +kernel] at x48
        have x49 : k10 < (a1.1 1) := by
          rcases x6 with z | z
          · omega
          · exact z
        refine V_iconst 87 B (v := 1) dX12_readSequence_87 (by decide +kernel) ?_
        exact V_zret 88 B rfl dX12_readSequence_88 (mkW [(a1.1 0), (a1.1 1)] [(a1.2.1 0), (a1.2.1 1), (a1.2.1 2)] [(a1.2.2.1 0)] [(a1.2.2.2.1 0)] [] []) ⟨(Or.inr ⟨rfl, (show k10 < (a1.1 1) by omega)⟩), x4, (show k10 ≤ (a1.1 1) by omega), (show (a1.1 1) ≤ (a1.1 0) by omega), (show (a1.1 0) ≤ k5 by omega), (show ((a1.2.1 2) = 0 ∨ (a1.1 1) < (a1.1 0)) by first | assumption | exact Or.inr (by omega)), x7⟩ rfl
      ·
        have x50 := x_eq kk47
        rw [show (1 : Int32).toInt = 1 by decide +kernel] at x50
        refine V_aload_n 24 B dX12_readSequence_24 0 rfl ?_
        refine V_cvi 25 B (st := []) (As := []) (fun sz => rX12_strokeHere l D Y h0 h1 h2 h3 h4 h5 h6 p2 k5 (a1.1 0) (a1.2.1 0) (a1.2.1 1) (a1.2.1 2) (a1.1 1) p11 (a1.2.2.1 0) k15 k16 (a1.2.2.2.1 0) f1 f3 f4 f13 f14 x4 (by omega) HP (by omega) (by omega) (by first | assumption | exact Or.inl rfl | exact Or.inr (by omega)) sz) glV_RX12_297 ⟨rfl, rfl⟩ ⟨(Nat.le_of_ble_eq_true rfl), (Nat.le_of_ble_eq_true rfl)⟩ ⟨(Nat.le_of_ble_eq_true rfl), (Nat.le_of_ble_eq_true rfl)⟩ [0, 0, 0, 0, 0, 0, 0] rfl 13 0 rfl rfl rfl rfl (Nat.le_of_ble_eq_true rfl) rfl (fun _ _ _ => rfl) dX12_readSequence_25 (fun j51 u52 w53 => ?_)
        refine V_ws [(h0, oC 13 [.ref h1, .ref h2, .int p2, .ref h3, .ref h4, .int (nI k5), .int (nI (a1.1 0)), .int (a1.2.1 0), .int (a1.2.1 1), .int (a1.2.1 2), .int (nI (a1.1 1)), .int p11, .long (a1.2.2.1 0), .ref h5, .ref h6, .int (nI k15), .int (nI k16)]), (h1, aI Y 3640 (a1.2.2.2.1 0)), (h2, aZ Y 2 f1), (h3, aZ Y 80 f3), (h4, aB Y 1600 f4), (h5, aI Y 200 f13), (h6, aI Y 800 f14)] rfl ?_
        have x54 := w53
        clear w53
        refine V_istore_n 28 B (lv2 := [(2, .int j51), (0, .ref h0), (1, .int (nI s0))]) dX12_readSequence_28 (by decide) rfl ?_
        refine V_iload_n 29 B dX12_readSequence_29 0 rfl ?_
        refine V_iconst 30 B (v := (-1)) dX12_readSequence_30 (by decide +kernel) ?_
        refine V_icmp_ne 31 B 40 dX12_readSequence_31 (by decide) (fun kk55 => ?_) (fun kk55 => ?_)
        ·
          have x56 := x_ne kk55
          rw [show ((-1) : Int32).toInt = (-1) by decide +kernel] at x56
          refine V_aload_n 40 B dX12_readSequence_40 1 rfl ?_
          refine V_get 41 B gf_RX12_9 0 rfl rfl dX12_readSequence_41 ?_
          refine V_iload_n 44 B dX12_readSequence_44 2 rfl ?_
          have x57 : (gN (a1.2.2.2.1 0) s0) ≤ 4 := gN_le x4 (by omega) hs0.2.1
          refine V_iald 45 B (v := (nI ((gN (a1.2.2.2.1 0) s0)))) 1 rfl (vp_in_nI (n := s0) (by omega) (by decide)) dX12_readSequence_45 (by rw [nI_clamp (show s0 < 2 ^ 31 by omega)]; exact gN_eq x4 (by omega) hs0.2.1) ?_
          refine V_iconst 46 B (v := 4) dX12_readSequence_46 (by decide +kernel) ?_
          refine V_icmp_ne 47 B 56 dX12_readSequence_47 (by decide) (fun kk58 => ?_) (fun kk58 => ?_)
          ·
            have x59 := n_ne (a := (gN (a1.2.2.2.1 0) s0)) (b := 4) kk58
            refine V_aload_n 56 B dX12_readSequence_56 1 rfl ?_
            refine V_get 57 B gf_RX12_9 0 rfl rfl dX12_readSequence_57 ?_
            refine V_iload_n 60 B dX12_readSequence_60 2 rfl ?_
            refine V_dup2_11 61 B dX12_readSequence_61 rfl rfl ?_
            have x60 : (gN (a1.2.2.2.1 0) s0) ≤ 4 := gN_le x4 (by omega) hs0.2.1
            refine V_iald 62 B (v := (nI ((gN (a1.2.2.2.1 0) s0)))) 1 rfl (vp_in_nI (n := s0) (by omega) (by decide)) dX12_readSequence_62 (by rw [nI_clamp (show s0 < 2 ^ 31 by omega)]; exact gN_eq x4 (by omega) hs0.2.1) ?_
            refine V_iconst 63 B (v := 1) dX12_readSequence_63 (by decide +kernel) ?_
            refine V_iadd 64 B (v := (nI (1 + (gN (a1.2.2.2.1 0) s0)))) dX12_readSequence_64 (nI_addE (a := (gN (a1.2.2.2.1 0) s0)) (b := 1) (by omega)) ?_
            have hv61 : INV (upd (a1.2.2.2.1 0) s0 (nI (1 + (gN (a1.2.2.2.1 0) s0)))) := INV_nat (v := 1 + (gN (a1.2.2.2.1 0) s0)) x4 hs0.2.1 (by omega) (by decide)
            refine V_iast 65 B 1 rfl (vp_in_nI (n := s0) (by omega) (by decide)) dX12_readSequence_65 [(h0, oC 13 [.ref h1, .ref h2, .int p2, .ref h3, .ref h4, .int (nI k5), .int (nI (a1.1 0)), .int (a1.2.1 0), .int (a1.2.1 1), .int (a1.2.1 2), .int (nI (a1.1 1)), .int p11, .long (a1.2.2.1 0), .ref h5, .ref h6, .int (nI k15), .int (nI k16)]), (h1, aI Y 3640 (upd (a1.2.2.2.1 0) s0 (nI (1 + (gN (a1.2.2.2.1 0) s0))))), (h2, aZ Y 2 f1), (h3, aZ Y 80 f3), (h4, aB Y 1600 f4), (h5, aI Y 200 f13), (h6, aI Y 800 f14)] (by rw [nI_clamp (show s0 < 2 ^ 31 by omega)]; rfl) ?_
            refine V_aload_n 66 B dX12_readSequence_66 1 rfl ?_
            refine V_get 67 B gf_RX12_9 0 rfl rfl dX12_readSequence_67 ?_
            refine V_iload_n 70 B dX12_readSequence_70 2 rfl ?_
            refine V_aload_n 71 B dX12_readSequence_71 1 rfl ?_
            refine V_get 72 B gf_RX12_9 0 rfl rfl dX12_readSequence_72 ?_
            refine V_iload_n 75 B dX12_readSequence_75 2 rfl ?_
            refine V_iald 76 B (v := (nI (1 + (gN (a1.2.2.2.1 0) s0)))) 1 rfl (vp_in_nI (n := s0) (by omega) (by decide)) dX12_readSequence_76 (by rw [nI_clamp (show s0 < 2 ^ 31 by omega)]; exact upd_at) ?_
            refine V_iadd 77 B (v := (nI (1 + (gN (a1.2.2.2.1 0) s0) + s0))) dX12_readSequence_77 (nI_addE (a := s0) (b := 1 + (gN (a1.2.2.2.1 0) s0)) (by omega)) ?_
            refine V_iload_n 78 B dX12_readSequence_78 0 rfl ?_
            have hv62 : INV (upd (upd (a1.2.2.2.1 0) s0 (nI (1 + (gN (a1.2.2.2.1 0) s0)))) (1 + (gN (a1.2.2.2.1 0) s0) + s0) j51) := INV_free hv61 (SQ.fr hs0 (j := 1 + (gN (a1.2.2.2.1 0) s0) + s0) (by omega) (by omega))
            refine V_iast 79 B 1 rfl (vp_in_nI (n := 1 + (gN (a1.2.2.2.1 0) s0) + s0) (by omega) (by decide)) dX12_readSequence_79 [(h0, oC 13 [.ref h1, .ref h2, .int p2, .ref h3, .ref h4, .int (nI k5), .int (nI (a1.1 0)), .int (a1.2.1 0), .int (a1.2.1 1), .int (a1.2.1 2), .int (nI (a1.1 1)), .int p11, .long (a1.2.2.1 0), .ref h5, .ref h6, .int (nI k15), .int (nI k16)]), (h1, aI Y 3640 (upd (upd (a1.2.2.2.1 0) s0 (nI (1 + (gN (a1.2.2.2.1 0) s0)))) (1 + (gN (a1.2.2.2.1 0) s0) + s0) j51)), (h2, aZ Y 2 f1), (h3, aZ Y 80 f3), (h4, aB Y 1600 f4), (h5, aI Y 200 f13), (h6, aI Y 800 f14)] (by rw [nI_clamp (show 1 + (gN (a1.2.2.2.1 0) s0) + s0 < 2 ^ 31 by omega)]; rfl) ?_
            have x63 : (a1.1 1) < (a1.1 0) := by
              rcases x54 with z | z
              · contradiction
              · exact z
            refine V_aload_n 80 B dX12_readSequence_80 1 rfl ?_
            refine V_cvv 81 B (st := []) (As := []) (fun sz => rX12_advance l D Y h0 h1 h2 h3 h4 h5 h6 p2 k5 (a1.1 0) (a1.2.1 0) (a1.2.1 1) (a1.2.1 2) (a1.1 1) p11 (a1.2.2.1 0) k15 k16 (upd (upd (a1.2.2.2.1 0) s0 (nI (1 + (gN (a1.2.2.2.1 0) s0)))) (1 + (gN (a1.2.2.2.1 0) s0) + s0) j51) f1 f3 f4 f13 f14 hv62 (by omega) HP (by omega) sz) glV_RX12_288 ⟨rfl, rfl⟩ ⟨(Nat.le_of_ble_eq_true rfl), (Nat.le_of_ble_eq_true rfl)⟩ ⟨(Nat.le_of_ble_eq_true rfl), (Nat.le_of_ble_eq_true rfl)⟩ [0, 0, 0, 0, 0, 0, 0] rfl 13 0 rfl rfl rfl rfl (Nat.le_of_ble_eq_true rfl) rfl (fun _ _ => rfl) dX12_readSequence_81 (fun u65 w66 => ?_)
            refine V_ws [(h0, oC 13 [.ref h1, .ref h2, .int p2, .ref h3, .ref h4, .int (nI k5), .int (nI (u65.1 0)), .int (a1.2.1 0), .int (a1.2.1 1), .int (u65.2.1 0), .int (nI (u65.1 1)), .int p11, .long (u65.2.2.1 0), .ref h5, .ref h6, .int (nI k15), .int (nI k16)]), (h1, aI Y 3640 (upd (upd (a1.2.2.2.1 0) s0 (nI (1 + (gN (a1.2.2.2.1 0) s0)))) (1 + (gN (a1.2.2.2.1 0) s0) + s0) j51)), (h2, aZ Y 2 f1), (h3, aZ Y 80 f3), (h4, aB Y 1600 f4), (h5, aI Y 200 f13), (h6, aI Y 800 f14)] rfl ?_
            obtain ⟨x67, x68, x69, x70⟩ := w66
            refine V_goto 84 B 7 dX12_readSequence_84 (by decide) ?_
            refine V_lv [(0, .ref h0), (1, .int (nI s0))] [1, 2] rfl ?_
            exact IH2 (mkW [(u65.1 0), (u65.1 1)] [(a1.2.1 0), (a1.2.1 1), (u65.2.1 0)] [(u65.2.2.1 0)] [(upd (upd (a1.2.2.2.1 0) s0 (nI (1 + (gN (a1.2.2.2.1 0) s0)))) (1 + (gN (a1.2.2.2.1 0) s0) + s0) j51)] [] []) ⟨hv62, ⟨(show k10 ≤ (u65.1 1) by omega), (show (u65.1 1) ≤ (u65.1 0) by omega), (show (u65.1 0) ≤ k5 by omega), (show ((u65.2.1 0) = 0 ∨ (u65.1 1) < (u65.1 0)) by first | assumption | exact Or.inr (by omega))⟩, (Or.inr (show k10 < (u65.1 1) by omega)), (fr_upd (fr_upd x7 (by omega) (by omega)) (by omega) (by omega))⟩ (by show 100 - gN ((upd (upd (a1.2.2.2.1 0) s0 (nI (1 + (gN (a1.2.2.2.1 0) s0)))) (1 + (gN (a1.2.2.2.1 0) s0) + s0) j51)) s0 < _; rw [show gN ((upd (upd (a1.2.2.2.1 0) s0 (nI (1 + (gN (a1.2.2.2.1 0) s0)))) (1 + (gN (a1.2.2.2.1 0) s0) + s0) j51)) s0 = 1 + gN (a1.2.2.2.1 0) s0 from (gN_ne (by omega)).trans (gN_at (by omega))]; omega)
          ·
            have x71 := n_eq (a := (gN (a1.2.2.2.1 0) s0)) (b := 4) kk58 (by omega) (by omega)
            refine V_aload_n 50 B dX12_readSequence_50 1 rfl ?_
            refine V_iconst 51 B (v := 3) dX12_readSequence_51 (by decide +kernel) ?_
            refine V_cvi 52 B (st := []) (As := [.int 3]) (fun sz => rX12_fail l D Y h0 h1 h2 h3 h4 h5 h6 p2 k5 (a1.1 0) (a1.2.1 0) (a1.2.1 1) (a1.2.1 2) (a1.1 1) p11 (a1.2.2.1 0) k15 k16 (a1.2.2.2.1 0) f1 f3 f4 f13 f14 x4 (by omega) HP 3 sz) glV_RX12_291 ⟨rfl, rfl⟩ ⟨(Nat.le_of_ble_eq_true rfl), (Nat.le_of_ble_eq_true rfl)⟩ ⟨(Nat.le_of_ble_eq_true rfl), (Nat.le_of_ble_eq_true rfl)⟩ [0, 0, 0, 0, 0, 0, 0] rfl 13 0 rfl rfl rfl rfl (Nat.le_of_ble_eq_true rfl) rfl (fun _ _ _ => rfl) dX12_readSequence_52 (fun j72 u73 w74 => ?_)
            refine V_ws [(h0, oC 13 [.ref h1, .ref h2, .int p2, .ref h3, .ref h4, .int (nI k5), .int (nI (a1.1 0)), .int (u73.2.1 0), .int (u73.2.1 1), .int (a1.2.1 2), .int (nI (a1.1 1)), .int p11, .long (a1.2.2.1 0), .ref h5, .ref h6, .int (nI k15), .int (nI k16)]), (h1, aI Y 3640 (a1.2.2.2.1 0)), (h2, aZ Y 2 f1), (h3, aZ Y 80 f3), (h4, aB Y 1600 f4), (h5, aI Y 200 f13), (h6, aI Y 800 f14)] rfl ?_
            have x75 := w74
            clear w74
            obtain rfl := x75
            exact V_zret 55 B rfl dX12_readSequence_55 (mkW [(a1.1 0), (a1.1 1)] [(u73.2.1 0), (u73.2.1 1), (a1.2.1 2)] [(a1.2.2.1 0)] [(a1.2.2.2.1 0)] [] []) ⟨(Or.inl rfl), x4, (show k10 ≤ (a1.1 1) by omega), (show (a1.1 1) ≤ (a1.1 0) by omega), (show (a1.1 0) ≤ k5 by omega), (show ((a1.2.1 2) = 0 ∨ (a1.1 1) < (a1.1 0)) by first | assumption | exact Or.inr (by omega)), x7⟩ rfl
        ·
          obtain rfl : j51 = (-1) := kk55
          have e77 : ((-1) : Int32).toInt = (-1) := by decide +kernel
          refine V_aload_n 34 B dX12_readSequence_34 1 rfl ?_
          refine V_iconst 35 B (v := 1) dX12_readSequence_35 (by decide +kernel) ?_
          refine V_cvi 36 B (st := []) (As := [.int 1]) (fun sz => rX12_fail l D Y h0 h1 h2 h3 h4 h5 h6 p2 k5 (a1.1 0) (a1.2.1 0) (a1.2.1 1) (a1.2.1 2) (a1.1 1) p11 (a1.2.2.1 0) k15 k16 (a1.2.2.2.1 0) f1 f3 f4 f13 f14 x4 (by omega) HP 1 sz) glV_RX12_291 ⟨rfl, rfl⟩ ⟨(Nat.le_of_ble_eq_true rfl), (Nat.le_of_ble_eq_true rfl)⟩ ⟨(Nat.le_of_ble_eq_true rfl), (Nat.le_of_ble_eq_true rfl)⟩ [0, 0, 0, 0, 0, 0, 0] rfl 13 0 rfl rfl rfl rfl (Nat.le_of_ble_eq_true rfl) rfl (fun _ _ _ => rfl) dX12_readSequence_36 (fun j78 u79 w80 => ?_)
          refine V_ws [(h0, oC 13 [.ref h1, .ref h2, .int p2, .ref h3, .ref h4, .int (nI k5), .int (nI (a1.1 0)), .int (u79.2.1 0), .int (u79.2.1 1), .int (a1.2.1 2), .int (nI (a1.1 1)), .int p11, .long (a1.2.2.1 0), .ref h5, .ref h6, .int (nI k15), .int (nI k16)]), (h1, aI Y 3640 (a1.2.2.2.1 0)), (h2, aZ Y 2 f1), (h3, aZ Y 80 f3), (h4, aB Y 1600 f4), (h5, aI Y 200 f13), (h6, aI Y 800 f14)] rfl ?_
          have x81 := w80
          clear w80
          obtain rfl := x81
          exact V_zret 39 B rfl dX12_readSequence_39 (mkW [(a1.1 0), (a1.1 1)] [(u79.2.1 0), (u79.2.1 1), (a1.2.1 2)] [(a1.2.2.1 0)] [(a1.2.2.2.1 0)] [] []) ⟨(Or.inl rfl), x4, (show k10 ≤ (a1.1 1) by omega), (show (a1.1 1) ≤ (a1.1 0) by omega), (show (a1.1 0) ≤ k5 by omega), (show ((a1.2.1 2) = 0 ∨ (a1.1 1) < (a1.1 0)) by first | assumption | exact Or.inr (by omega)), x7⟩ rfl)
theorem dX12_readKey_0 : decode cX12_readKey 0 = .ok (.aload_n 0, 1) := by decide +kernel
theorem dX12_readKey_1 : decode cX12_readKey 1 = .ok (.getfield 283, 3) := by decide +kernel
theorem dX12_readKey_4 : decode cX12_readKey 4 = .ok (.iconst 1, 1) := by decide +kernel
theorem dX12_readKey_5 : decode cX12_readKey 5 = .ok (.if_icmp .ne 30, 3) := by decide +kernel
theorem dX12_readKey_35 : decode cX12_readKey 35 = .ok (.aload_n 0, 1) := by decide +kernel
theorem dX12_readKey_36 : decode cX12_readKey 36 = .ok (.iconst 1, 1) := by decide +kernel
theorem dX12_readKey_37 : decode cX12_readKey 37 = .ok (.invokevirtual 291, 3) := by decide +kernel
theorem dX12_readKey_40 : decode cX12_readKey 40 = .ok (.ireturn, 1) := by decide +kernel
theorem dX12_readKey_8 : decode cX12_readKey 8 = .ok (.aload_n 0, 1) := by decide +kernel
theorem dX12_readKey_9 : decode cX12_readKey 9 = .ok (.getfield 264, 3) := by decide +kernel
theorem dX12_readKey_12 : decode cX12_readKey 12 = .ok (.aload_n 0, 1) := by decide +kernel
theorem dX12_readKey_13 : decode cX12_readKey 13 = .ok (.getfield 270, 3) := by decide +kernel
theorem dX12_readKey_16 : decode cX12_readKey 16 = .ok (.isub, 1) := by decide +kernel
theorem dX12_readKey_17 : decode cX12_readKey 17 = .ok (.iconst 1, 1) := by decide +kernel
theorem dX12_readKey_18 : decode cX12_readKey 18 = .ok (.if_icmp .ne 17, 3) := by decide +kernel
theorem dX12_readKey_21 : decode cX12_readKey 21 = .ok (.aload_n 0, 1) := by decide +kernel
theorem dX12_readKey_22 : decode cX12_readKey 22 = .ok (.aload_n 0, 1) := by decide +kernel
theorem dX12_readKey_23 : decode cX12_readKey 23 = .ok (.getfield 270, 3) := by decide +kernel
theorem dX12_readKey_26 : decode cX12_readKey 26 = .ok (.invokevirtual 267, 3) := by decide +kernel
theorem dX12_readKey_29 : decode cX12_readKey 29 = .ok (.invokestatic 253, 3) := by decide +kernel
theorem dX12_readKey_32 : decode cX12_readKey 32 = .ok (.ifCond .ne 9, 3) := by decide +kernel
theorem dX12_readKey_41 : decode cX12_readKey 41 = .ok (.aload_n 0, 1) := by decide +kernel
theorem dX12_readKey_42 : decode cX12_readKey 42 = .ok (.aload_n 0, 1) := by decide +kernel
theorem dX12_readKey_43 : decode cX12_readKey 43 = .ok (.aload_n 0, 1) := by decide +kernel
theorem dX12_readKey_44 : decode cX12_readKey 44 = .ok (.getfield 270, 3) := by decide +kernel
theorem dX12_readKey_47 : decode cX12_readKey 47 = .ok (.invokevirtual 267, 3) := by decide +kernel
theorem dX12_readKey_50 : decode cX12_readKey 50 = .ok (.bipush 97, 2) := by decide +kernel
theorem dX12_readKey_52 : decode cX12_readKey 52 = .ok (.isub, 1) := by decide +kernel
theorem dX12_readKey_53 : decode cX12_readKey 53 = .ok (.putfield 294, 3) := by decide +kernel
theorem dX12_readKey_56 : decode cX12_readKey 56 = .ok (.aload_n 0, 1) := by decide +kernel
theorem dX12_readKey_57 : decode cX12_readKey 57 = .ok (.invokevirtual 288, 3) := by decide +kernel
theorem dX12_readKey_60 : decode cX12_readKey 60 = .ok (.iconst 1, 1) := by decide +kernel
theorem dX12_readKey_61 : decode cX12_readKey 61 = .ok (.ireturn, 1) := by decide +kernel
set_option maxRecDepth 100000 in
set_option maxHeartbeats 4000000 in
theorem rX12_readKey (l : Launch) (D : va_G) (Y : Nat → ClassId) (h0 : Nat) (h1 : Nat) (h2 : Nat) (h3 : Nat) (h4 : Nat) (h5 : Nat) (h6 : Nat) (p2 : Int32) (k5 : Nat) (k6 : Nat) (p7 : Int32) (p8 : Int32) (p9 : Int32) (k10 : Nat) (p11 : Int32) (q12 : Int64) (k15 : Nat) (k16 : Nat) (f0 : Nat → Int32) (f1 : Nat → Int32) (f3 : Nat → Int32) (f4 : Nat → Int32) (f13 : Nat → Int32) (f14 : Nat → Int32) (HI : INV f0) (HL : k5 ≤ 1600) (HP : PLV f13)  (hx0 : k10 ≤ k6) (hx1 : k6 ≤ k5) (hx2 : (p9 = 0 ∨ k10 < k6)) (sz : Nat) : Met l yX12_readKey (WSm yX12_readKey cX12_readKey 1 (some .boolean)) (mkR 4 0 0 86) (PreC D Y [.ref h0] [(h0, oC 13 [.ref h1, .ref h2, .int p2, .ref h3, .ref h4, .int (nI k5), .int (nI k6), .int p7, .int p8, .int p9, .int (nI k10), .int p11, .long q12, .ref h5, .ref h6, .int (nI k15), .int (nI k16)]), (h1, aI Y 3640 f0), (h2, aZ Y 2 f1), (h3, aZ Y 80 f3), (h4, aB Y 1600 f4), (h5, aI Y 200 f13), (h6, aI Y 800 f14)] sz) (QI D (fun (r : Int32) (u : WU) => (r = 0 ∨ (r = 1 ∧ k10 < (u.1 1) ∧ 0 ≤ (u.2.1 3).toInt ∧ (u.2.1 3).toInt ≤ 25)) ∧ k10 ≤ (u.1 1) ∧ (u.1 1) ≤ (u.1 0) ∧ (u.1 0) ≤ k5 ∧ ((u.2.1 2) = 0 ∨ (u.1 1) < (u.1 0))) (fun (u : WU) => [(h0, oC 13 [.ref h1, .ref h2, .int p2, .ref h3, .ref h4, .int (nI k5), .int (nI (u.1 0)), .int (u.2.1 0), .int (u.2.1 1), .int (u.2.1 2), .int (nI (u.1 1)), .int (u.2.1 3), .long (u.2.2.1 0), .ref h5, .ref h6, .int (nI k15), .int (nI k16)]), (h1, aI Y 3640 f0), (h2, aZ Y 2 f1), (h3, aZ Y 80 f3), (h4, aB Y 1600 f4), (h5, aI Y 200 f13), (h6, aI Y 800 f14)]) (va_A [(h0, oC 13 [.ref h1, .ref h2, .int p2, .ref h3, .ref h4, .int (nI k5), .int (nI k6), .int p7, .int p8, .int p9, .int (nI k10), .int p11, .long q12, .ref h5, .ref h6, .int (nI k15), .int (nI k16)]), (h1, aI Y 3640 f0), (h2, aZ Y 2 f1), (h3, aZ Y 80 f3), (h4, aB Y 1600 f4), (h5, aI Y 200 f13), (h6, aI Y 800 f14)] sz)) 0 0 (va_A [(h0, oC 13 [.ref h1, .ref h2, .int p2, .ref h3, .ref h4, .int (nI k5), .int (nI k6), .int p7, .int p8, .int p9, .int (nI k10), .int p11, .long q12, .ref h5, .ref h6, .int (nI k15), .int (nI k16)]), (h1, aI Y 3640 f0), (h2, aZ Y 2 f1), (h3, aZ Y 80 f3), (h4, aB Y 1600 f4), (h5, aI Y 200 f13), (h6, aI Y 800 f14)] sz) :=
  met_of  (by decide +kernel) (Nat.le_of_ble_eq_true rfl) (fun p e s m args below meth c B hin hsz => by
    have B : VB p s m args meth c D Y (va_A [(h0, oC 13 [.ref h1, .ref h2, .int p2, .ref h3, .ref h4, .int (nI k5), .int (nI k6), .int p7, .int p8, .int p9, .int (nI k10), .int p11, .long q12, .ref h5, .ref h6, .int (nI k15), .int (nI k16)]), (h1, aI Y 3640 f0), (h2, aZ Y 2 f1), (h3, aZ Y 80 f3), (h4, aB Y 1600 f4), (h5, aI Y 200 f13), (h6, aI Y 800 f14)] sz) cX12_readKey 1 RX12 (some .boolean) := B
    refine V_aload_n 0 B dX12_readKey_0 0 rfl ?_
    refine V_get 1 B gf_RX12_283 0 rfl rfl dX12_readKey_1 ?_
    refine V_iconst 4 B (v := 1) dX12_readKey_4 (by decide +kernel) ?_
    refine V_icmp_ne 5 B 35 dX12_readKey_5 (by decide) (fun kk0 => ?_) (fun kk0 => ?_)
    ·
      have x1 := x_ne kk0
      rw [show (1 : Int32).toInt = 1 by decide +kernel] at x1
      refine V_aload_n 35 B dX12_readKey_35 0 rfl ?_
      refine V_iconst 36 B (v := 1) dX12_readKey_36 (by decide +kernel) ?_
      refine V_cvi 37 B (st := []) (As := [.int 1]) (fun sz => rX12_fail l D Y h0 h1 h2 h3 h4 h5 h6 p2 k5 k6 p7 p8 p9 k10 p11 q12 k15 k16 f0 f1 f3 f4 f13 f14 HI (by omega) HP 1 sz) glV_RX12_291 ⟨rfl, rfl⟩ ⟨(Nat.le_of_ble_eq_true rfl), (Nat.le_of_ble_eq_true rfl)⟩ ⟨(Nat.le_of_ble_eq_true rfl), (Nat.le_of_ble_eq_true rfl)⟩ [0, 0, 0, 0, 0, 0, 0] rfl 13 0 rfl rfl rfl rfl (Nat.le_of_ble_eq_true rfl) rfl (fun _ _ _ => rfl) dX12_readKey_37 (fun j2 u3 w4 => ?_)
      refine V_ws [(h0, oC 13 [.ref h1, .ref h2, .int p2, .ref h3, .ref h4, .int (nI k5), .int (nI k6), .int (u3.2.1 0), .int (u3.2.1 1), .int p9, .int (nI k10), .int p11, .long q12, .ref h5, .ref h6, .int (nI k15), .int (nI k16)]), (h1, aI Y 3640 f0), (h2, aZ Y 2 f1), (h3, aZ Y 80 f3), (h4, aB Y 1600 f4), (h5, aI Y 200 f13), (h6, aI Y 800 f14)] rfl ?_
      have x5 := w4
      clear w4
      obtain rfl := x5
      exact V_zret 40 B rfl dX12_readKey_40 (mkW [k6, k10] [(u3.2.1 0), (u3.2.1 1), p9, p11] [q12] [] [] []) ⟨(Or.inl rfl), (show k10 ≤ k10 by omega), (show k10 ≤ k6 by omega), (show k6 ≤ k5 by omega), (show (p9 = 0 ∨ k10 < k6) by first | assumption | exact Or.inr (by omega))⟩ rfl
    ·
      obtain rfl : p9 = 1 := kk0
      have e7 : (1 : Int32).toInt = 1 := by decide +kernel
      refine V_aload_n 8 B dX12_readKey_8 0 rfl ?_
      refine V_get 9 B gf_RX12_264 0 rfl rfl dX12_readKey_9 ?_
      refine V_aload_n 12 B dX12_readKey_12 0 rfl ?_
      refine V_get 13 B gf_RX12_270 0 rfl rfl dX12_readKey_13 ?_
      refine V_isub 16 B dX12_readKey_16 rfl ?_
      refine V_nmi (fun j8 e9 => ?_)
      have x10 : j8.toInt = ((k6 : Nat) : Int) - ((k10 : Nat) : Int) := by rw [e9]; exact nI_subT (a := k6) (b := k10) (by omega) (by omega)
      refine V_iconst 17 B (v := 1) dX12_readKey_17 (by decide +kernel) ?_
      refine V_icmp_ne 18 B 35 dX12_readKey_18 (by decide) (fun kk11 => ?_) (fun kk11 => ?_)
      ·
        have x12 := x_ne kk11
        rw [show (1 : Int32).toInt = 1 by decide +kernel] at x12
        refine V_aload_n 35 B dX12_readKey_35 0 rfl ?_
        refine V_iconst 36 B (v := 1) dX12_readKey_36 (by decide +kernel) ?_
        refine V_cvi 37 B (st := []) (As := [.int 1]) (fun sz => rX12_fail l D Y h0 h1 h2 h3 h4 h5 h6 p2 k5 k6 p7 p8 1 k10 p11 q12 k15 k16 f0 f1 f3 f4 f13 f14 HI (by omega) HP 1 sz) glV_RX12_291 ⟨rfl, rfl⟩ ⟨(Nat.le_of_ble_eq_true rfl), (Nat.le_of_ble_eq_true rfl)⟩ ⟨(Nat.le_of_ble_eq_true rfl), (Nat.le_of_ble_eq_true rfl)⟩ [0, 0, 0, 0, 0, 0, 0] rfl 13 0 rfl rfl rfl rfl (Nat.le_of_ble_eq_true rfl) rfl (fun _ _ _ => rfl) dX12_readKey_37 (fun j13 u14 w15 => ?_)
        refine V_ws [(h0, oC 13 [.ref h1, .ref h2, .int p2, .ref h3, .ref h4, .int (nI k5), .int (nI k6), .int (u14.2.1 0), .int (u14.2.1 1), .int 1, .int (nI k10), .int p11, .long q12, .ref h5, .ref h6, .int (nI k15), .int (nI k16)]), (h1, aI Y 3640 f0), (h2, aZ Y 2 f1), (h3, aZ Y 80 f3), (h4, aB Y 1600 f4), (h5, aI Y 200 f13), (h6, aI Y 800 f14)] rfl ?_
        have x16 := w15
        clear w15
        obtain rfl := x16
        exact V_zret 40 B rfl dX12_readKey_40 (mkW [k6, k10] [(u14.2.1 0), (u14.2.1 1), 1, p11] [q12] [] [] []) ⟨(Or.inl rfl), (show k10 ≤ k10 by omega), (show k10 ≤ k6 by omega), (show k6 ≤ k5 by omega), (Or.inr (show k10 < k6 by first | omega | exact (Or.resolve_left hx2 (by decide))))⟩ rfl
      ·
        obtain rfl : j8 = 1 := kk11
        have e18 : (1 : Int32).toInt = 1 := by decide +kernel
        refine V_aload_n 21 B dX12_readKey_21 0 rfl ?_
        refine V_aload_n 22 B dX12_readKey_22 0 rfl ?_
        refine V_get 23 B gf_RX12_270 0 rfl rfl dX12_readKey_23 ?_
        refine V_cvi 26 B (st := []) (As := [.int (nI k10)]) (fun sz => rX12_byteAt l D Y h0 h1 h2 h3 h4 h5 h6 p2 k5 k6 p7 p8 1 k10 p11 q12 k15 k16 f0 f1 f3 f4 f13 f14 HI (by omega) HP k10 (by omega) sz) glV_RX12_267 ⟨rfl, rfl⟩ ⟨(Nat.le_of_ble_eq_true rfl), (Nat.le_of_ble_eq_true rfl)⟩ ⟨(Nat.le_of_ble_eq_true rfl), (Nat.le_of_ble_eq_true rfl)⟩ [0, 0, 0, 0, 0, 0, 0] rfl 13 0 rfl rfl rfl rfl (Nat.le_of_ble_eq_true rfl) rfl (fun _ _ _ => rfl) dX12_readKey_26 (fun j19 u20 w21 => ?_)
        refine V_ws [(h0, oC 13 [.ref h1, .ref h2, .int p2, .ref h3, .ref h4, .int (nI k5), .int (nI k6), .int p7, .int p8, .int 1, .int (nI k10), .int p11, .long q12, .ref h5, .ref h6, .int (nI k15), .int (nI k16)]), (h1, aI Y 3640 f0), (h2, aZ Y 2 f1), (h3, aZ Y 80 f3), (h4, aB Y 1600 f4), (h5, aI Y 200 f13), (h6, aI Y 800 f14)] rfl ?_
        have x22 := w21
        clear w21
        have x23 : -1 ≤ j19.toInt ∧ j19.toInt ≤ 255 := by rw [x22]; exact BY_rng _ _ _
        refine V_csi 29 B (st := []) (As := [.int j19]) (fun sz => rX12_isSmall l D Y j19 sz) glS_RX12_253 ⟨rfl, rfl⟩ ⟨(Nat.le_of_ble_eq_true rfl), (Nat.le_of_ble_eq_true rfl)⟩ ⟨(Nat.le_of_ble_eq_true rfl), (Nat.le_of_ble_eq_true rfl)⟩ [] rfl rfl (Nat.le_of_ble_eq_true rfl) rfl (fun _ _ _ => rfl) dX12_readKey_29 (fun j24 u25 w26 => ?_)
        refine V_ws [(h0, oC 13 [.ref h1, .ref h2, .int p2, .ref h3, .ref h4, .int (nI k5), .int (nI k6), .int p7, .int p8, .int 1, .int (nI k10), .int p11, .long q12, .ref h5, .ref h6, .int (nI k15), .int (nI k16)]), (h1, aI Y 3640 f0), (h2, aZ Y 2 f1), (h3, aZ Y 80 f3), (h4, aB Y 1600 f4), (h5, aI Y 200 f13), (h6, aI Y 800 f14)] rfl ?_
        have x27 := w26
        clear w26
        rcases x27 with ⟨rfl, x28⟩ | ⟨rfl, x28⟩
        ·
          refine V_if_ne_f 32 B 41 dX12_readKey_32 (by decide) (by decide +kernel) ?_
          refine V_aload_n 35 B dX12_readKey_35 0 rfl ?_
          refine V_iconst 36 B (v := 1) dX12_readKey_36 (by decide +kernel) ?_
          refine V_cvi 37 B (st := []) (As := [.int 1]) (fun sz => rX12_fail l D Y h0 h1 h2 h3 h4 h5 h6 p2 k5 k6 p7 p8 1 k10 p11 q12 k15 k16 f0 f1 f3 f4 f13 f14 HI (by omega) HP 1 sz) glV_RX12_291 ⟨rfl, rfl⟩ ⟨(Nat.le_of_ble_eq_true rfl), (Nat.le_of_ble_eq_true rfl)⟩ ⟨(Nat.le_of_ble_eq_true rfl), (Nat.le_of_ble_eq_true rfl)⟩ [0, 0, 0, 0, 0, 0, 0] rfl 13 0 rfl rfl rfl rfl (Nat.le_of_ble_eq_true rfl) rfl (fun _ _ _ => rfl) dX12_readKey_37 (fun j29 u30 w31 => ?_)
          refine V_ws [(h0, oC 13 [.ref h1, .ref h2, .int p2, .ref h3, .ref h4, .int (nI k5), .int (nI k6), .int (u30.2.1 0), .int (u30.2.1 1), .int 1, .int (nI k10), .int p11, .long q12, .ref h5, .ref h6, .int (nI k15), .int (nI k16)]), (h1, aI Y 3640 f0), (h2, aZ Y 2 f1), (h3, aZ Y 80 f3), (h4, aB Y 1600 f4), (h5, aI Y 200 f13), (h6, aI Y 800 f14)] rfl ?_
          have x32 := w31
          clear w31
          obtain rfl := x32
          exact V_zret 40 B rfl dX12_readKey_40 (mkW [k6, k10] [(u30.2.1 0), (u30.2.1 1), 1, p11] [q12] [] [] []) ⟨(Or.inl rfl), (show k10 ≤ k10 by omega), (show k10 ≤ k6 by omega), (show k6 ≤ k5 by omega), (Or.inr (show k10 < k6 by first | omega | exact (Or.resolve_left hx2 (by decide))))⟩ rfl
        ·
          refine V_if_ne_t 32 B 41 dX12_readKey_32 (by decide) (by decide +kernel) ?_
          refine V_aload_n 41 B dX12_readKey_41 0 rfl ?_
          refine V_aload_n 42 B dX12_readKey_42 0 rfl ?_
          refine V_aload_n 43 B dX12_readKey_43 0 rfl ?_
          refine V_get 44 B gf_RX12_270 0 rfl rfl dX12_readKey_44 ?_
          refine V_cvi 47 B (st := [.ref h0]) (As := [.int (nI k10)]) (fun sz => rX12_byteAt l D Y h0 h1 h2 h3 h4 h5 h6 p2 k5 k6 p7 p8 1 k10 p11 q12 k15 k16 f0 f1 f3 f4 f13 f14 HI (by omega) HP k10 (by omega) sz) glV_RX12_267 ⟨rfl, rfl⟩ ⟨(Nat.le_of_ble_eq_true rfl), (Nat.le_of_ble_eq_true rfl)⟩ ⟨(Nat.le_of_ble_eq_true rfl), (Nat.le_of_ble_eq_true rfl)⟩ [0, 0, 0, 0, 0, 0, 0] rfl 13 0 rfl rfl rfl rfl (Nat.le_of_ble_eq_true rfl) rfl (fun _ _ _ => rfl) dX12_readKey_47 (fun j33 u34 w35 => ?_)
          refine V_ws [(h0, oC 13 [.ref h1, .ref h2, .int p2, .ref h3, .ref h4, .int (nI k5), .int (nI k6), .int p7, .int p8, .int 1, .int (nI k10), .int p11, .long q12, .ref h5, .ref h6, .int (nI k15), .int (nI k16)]), (h1, aI Y 3640 f0), (h2, aZ Y 2 f1), (h3, aZ Y 80 f3), (h4, aB Y 1600 f4), (h5, aI Y 200 f13), (h6, aI Y 800 f14)] rfl ?_
          have x36 := w35
          clear w35
          have x37 : -1 ≤ j33.toInt ∧ j33.toInt ≤ 255 := by rw [x36]; exact BY_rng _ _ _
          refine V_bipush 50 B (v := 97) dX12_readKey_50 (by decide +kernel) ?_
          have x38 : j33.toInt = j19.toInt := by rw [x36, x22]
          refine V_isub 52 B dX12_readKey_52 rfl ?_
          refine V_nmi (fun j39 e40 => ?_)
          have x41 : j39.toInt = j33.toInt - 97 := by rw [e40]; exact o_sub (c := 97) (lo := (-1)) (hi := 255) (by omega) (by omega) (by decide) (by decide)
          refine V_put 53 B gp_RX12_294 0 rfl (Nat.le_of_ble_eq_true rfl) rfl rfl dX12_readKey_53 [(h0, oC 13 [.ref h1, .ref h2, .int p2, .ref h3, .ref h4, .int (nI k5), .int (nI k6), .int p7, .int p8, .int 1, .int (nI k10), .int j39, .long q12, .ref h5, .ref h6, .int (nI k15), .int (nI k16)]), (h1, aI Y 3640 f0), (h2, aZ Y 2 f1), (h3, aZ Y 80 f3), (h4, aB Y 1600 f4), (h5, aI Y 200 f13), (h6, aI Y 800 f14)] rfl ?_
          have x42 : k10 < k6 := by
            rcases hx2 with z | z
            · first | contradiction | exact absurd z (by decide) | omega
            · exact z
          refine V_aload_n 56 B dX12_readKey_56 0 rfl ?_
          refine V_cvv 57 B (st := []) (As := []) (fun sz => rX12_advance l D Y h0 h1 h2 h3 h4 h5 h6 p2 k5 k6 p7 p8 1 k10 j39 q12 k15 k16 f0 f1 f3 f4 f13 f14 HI (by omega) HP (by omega) sz) glV_RX12_288 ⟨rfl, rfl⟩ ⟨(Nat.le_of_ble_eq_true rfl), (Nat.le_of_ble_eq_true rfl)⟩ ⟨(Nat.le_of_ble_eq_true rfl), (Nat.le_of_ble_eq_true rfl)⟩ [0, 0, 0, 0, 0, 0, 0] rfl 13 0 rfl rfl rfl rfl (Nat.le_of_ble_eq_true rfl) rfl (fun _ _ => rfl) dX12_readKey_57 (fun u44 w45 => ?_)
          refine V_ws [(h0, oC 13 [.ref h1, .ref h2, .int p2, .ref h3, .ref h4, .int (nI k5), .int (nI (u44.1 0)), .int p7, .int p8, .int (u44.2.1 0), .int (nI (u44.1 1)), .int j39, .long (u44.2.2.1 0), .ref h5, .ref h6, .int (nI k15), .int (nI k16)]), (h1, aI Y 3640 f0), (h2, aZ Y 2 f1), (h3, aZ Y 80 f3), (h4, aB Y 1600 f4), (h5, aI Y 200 f13), (h6, aI Y 800 f14)] rfl ?_
          obtain ⟨x46, x47, x48, x49⟩ := w45
          refine V_iconst 60 B (v := 1) dX12_readKey_60 (by decide +kernel) ?_
          exact V_zret 61 B rfl dX12_readKey_61 (mkW [(u44.1 0), (u44.1 1)] [p7, p8, (u44.2.1 0), j39] [(u44.2.2.1 0)] [] [] []) ⟨(Or.inr ⟨rfl, (show k10 < (u44.1 1) by omega), (show 0 ≤ (j39 : Int32).toInt ∧ (j39 : Int32).toInt ≤ 25 by omega)⟩), (show k10 ≤ (u44.1 1) by omega), (show (u44.1 1) ≤ (u44.1 0) by omega), (show (u44.1 0) ≤ k5 by omega), (show ((u44.2.1 0) = 0 ∨ (u44.1 1) < (u44.1 0)) by first | assumption | exact Or.inr (by omega))⟩ rfl)
