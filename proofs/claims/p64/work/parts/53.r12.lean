theorem dX12_advance_135 : decode cX12_advance 135 = .ok (.getfield 264, 3) := by decide +kernel
theorem dX12_advance_138 : decode cX12_advance 138 = .ok (.invokevirtual 267, 3) := by decide +kernel
theorem dX12_advance_141 : decode cX12_advance 141 = .ok (.invokestatic 277, 3) := by decide +kernel
theorem dX12_advance_144 : decode cX12_advance 144 = .ok (.ifCond .eq 51, 3) := by decide +kernel
theorem dX12_advance_277 : decode cX12_advance 277 = .ok (.aload_n 0, 1) := by decide +kernel
theorem dX12_advance_278 : decode cX12_advance 278 = .ok (.getfield 264, 3) := by decide +kernel
theorem dX12_advance_281 : decode cX12_advance 281 = .ok (.aload_n 0, 1) := by decide +kernel
theorem dX12_advance_282 : decode cX12_advance 282 = .ok (.getfield 270, 3) := by decide +kernel
theorem dX12_advance_285 : decode cX12_advance 285 = .ok (.isub, 1) := by decide +kernel
theorem dX12_advance_286 : decode cX12_advance 286 = .ok (.bipush 8, 2) := by decide +kernel
theorem dX12_advance_288 : decode cX12_advance 288 = .ok (.if_icmp .gt 24, 3) := by decide +kernel
theorem dX12_advance_147 : decode cX12_advance 147 = .ok (.aload_n 0, 1) := by decide +kernel
theorem dX12_advance_148 : decode cX12_advance 148 = .ok (.getfield 264, 3) := by decide +kernel
theorem dX12_advance_151 : decode cX12_advance 151 = .ok (.aload_n 0, 1) := by decide +kernel
theorem dX12_advance_152 : decode cX12_advance 152 = .ok (.getfield 270, 3) := by decide +kernel
theorem dX12_advance_155 : decode cX12_advance 155 = .ok (.isub, 1) := by decide +kernel
theorem dX12_advance_156 : decode cX12_advance 156 = .ok (.bipush 8, 2) := by decide +kernel
theorem dX12_advance_158 : decode cX12_advance 158 = .ok (.if_icmp .ge 24, 3) := by decide +kernel
theorem dX12_advance_182 : decode cX12_advance 182 = .ok (.aload_n 0, 1) := by decide +kernel
theorem dX12_advance_183 : decode cX12_advance 183 = .ok (.dup, 1) := by decide +kernel
theorem dX12_advance_184 : decode cX12_advance 184 = .ok (.getfield 264, 3) := by decide +kernel
theorem dX12_advance_187 : decode cX12_advance 187 = .ok (.iconst 1, 1) := by decide +kernel
theorem dX12_advance_188 : decode cX12_advance 188 = .ok (.iadd, 1) := by decide +kernel
theorem dX12_advance_189 : decode cX12_advance 189 = .ok (.putfield 264, 3) := by decide +kernel
theorem dX12_advance_192 : decode cX12_advance 192 = .ok (.goto (-67), 3) := by decide +kernel
theorem dX12_advance_161 : decode cX12_advance 161 = .ok (.aload_n 0, 1) := by decide +kernel
theorem dX12_advance_162 : decode cX12_advance 162 = .ok (.aload_n 0, 1) := by decide +kernel
theorem dX12_advance_163 : decode cX12_advance 163 = .ok (.getfield 273, 3) := by decide +kernel
theorem dX12_advance_166 : decode cX12_advance 166 = .ok (.bipush 7, 2) := by decide +kernel
theorem dX12_advance_168 : decode cX12_advance 168 = .ok (.lshl, 1) := by decide +kernel
theorem dX12_advance_169 : decode cX12_advance 169 = .ok (.aload_n 0, 1) := by decide +kernel
theorem dX12_advance_170 : decode cX12_advance 170 = .ok (.aload_n 0, 1) := by decide +kernel
theorem dX12_advance_171 : decode cX12_advance 171 = .ok (.getfield 264, 3) := by decide +kernel
theorem dX12_advance_174 : decode cX12_advance 174 = .ok (.invokevirtual 267, 3) := by decide +kernel
theorem dX12_advance_177 : decode cX12_advance 177 = .ok (.i2l, 1) := by decide +kernel
theorem dX12_advance_178 : decode cX12_advance 178 = .ok (.lor, 1) := by decide +kernel
theorem dX12_advance_179 : decode cX12_advance 179 = .ok (.putfield 273, 3) := by decide +kernel
theorem dX12_advance_67 : decode cX12_advance 67 = .ok (.iconst 0, 1) := by decide +kernel
theorem dX12_advance_68 : decode cX12_advance 68 = .ok (.goto 36, 3) := by decide +kernel
set_option maxRecDepth 100000 in
set_option maxHeartbeats 4000000 in
theorem rX12_advance (l : Launch) (D : va_G) (Y : Nat → ClassId) (h0 : Nat) (h1 : Nat) (h2 : Nat) (h3 : Nat) (h4 : Nat) (h5 : Nat) (h6 : Nat) (p2 : Int32) (k5 : Nat) (k6 : Nat) (p7 : Int32) (p8 : Int32) (p9 : Int32) (k10 : Nat) (p11 : Int32) (q12 : Int64) (k15 : Nat) (k16 : Nat) (f0 : Nat → Int32) (f1 : Nat → Int32) (f3 : Nat → Int32) (f4 : Nat → Int32) (f13 : Nat → Int32) (f14 : Nat → Int32) (ph : Nat → Int32) (HI : INV ph f0) (HL : k5 ≤ 1600) (HP : PLV f13)  (hx0 : k6 ≤ k5) (sz : Nat) : Met l yX12_advance (WSm yX12_advance cX12_advance 2 none) (mkR 3 0 0 65) (PreC D Y [.ref h0] [(h0, oC 13 [.ref h1, .ref h2, .int p2, .ref h3, .ref h4, .int (nI k5), .int (nI k6), .int p7, .int p8, .int p9, .int (nI k10), .int p11, .long q12, .ref h5, .ref h6, .int (nI k15), .int (nI k16)]), (h1, aI Y 3640 f0), (h2, aZ Y 2 f1), (h3, aZ Y 80 f3), (h4, aB Y 1600 f4), (h5, aI Y 200 f13), (h6, aI Y 800 f14)] sz) (QV D (fun (u : WU) => k6 ≤ (u.1 1) ∧ (u.1 1) ≤ (u.1 0) ∧ (u.1 0) ≤ k5 ∧ ((u.2.1 0) = 0 ∨ (u.1 1) < (u.1 0))) (fun (u : WU) => [(h0, oC 13 [.ref h1, .ref h2, .int p2, .ref h3, .ref h4, .int (nI k5), .int (nI (u.1 0)), .int p7, .int p8, .int (u.2.1 0), .int (nI (u.1 1)), .int p11, .long (u.2.2.1 0), .ref h5, .ref h6, .int (nI k15), .int (nI k16)]), (h1, aI Y 3640 f0), (h2, aZ Y 2 f1), (h3, aZ Y 80 f3), (h4, aB Y 1600 f4), (h5, aI Y 200 f13), (h6, aI Y 800 f14)]) (va_A [(h0, oC 13 [.ref h1, .ref h2, .int p2, .ref h3, .ref h4, .int (nI k5), .int (nI k6), .int p7, .int p8, .int p9, .int (nI k10), .int p11, .long q12, .ref h5, .ref h6, .int (nI k15), .int (nI k16)]), (h1, aI Y 3640 f0), (h2, aZ Y 2 f1), (h3, aZ Y 80 f3), (h4, aB Y 1600 f4), (h5, aI Y 200 f13), (h6, aI Y 800 f14)] sz)) 0 0 (va_A [(h0, oC 13 [.ref h1, .ref h2, .int p2, .ref h3, .ref h4, .int (nI k5), .int (nI k6), .int p7, .int p8, .int p9, .int (nI k10), .int p11, .long q12, .ref h5, .ref h6, .int (nI k15), .int (nI k16)]), (h1, aI Y 3640 f0), (h2, aZ Y 2 f1), (h3, aZ Y 80 f3), (h4, aB Y 1600 f4), (h5, aI Y 200 f13), (h6, aI Y 800 f14)] sz) :=
  met_of  (by decide +kernel) (Nat.le_of_ble_eq_true rfl) (fun p e s m args below meth c B hin hsz => by
    have B : VB p s m args meth c D Y (va_A [(h0, oC 13 [.ref h1, .ref h2, .int p2, .ref h3, .ref h4, .int (nI k5), .int (nI k6), .int p7, .int p8, .int p9, .int (nI k10), .int p11, .long q12, .ref h5, .ref h6, .int (nI k15), .int (nI k16)]), (h1, aI Y 3640 f0), (h2, aZ Y 2 f1), (h3, aZ Y 80 f3), (h4, aB Y 1600 f4), (h5, aI Y 200 f13), (h6, aI Y 800 f14)] sz) cX12_advance 2 RX12 none := B
    refine V_wloop (α := WU) (fun a => 100000 - (a.1 0)) (fun a => (k6 ≤ (a.1 0) ∧ (a.1 0) ≤ k5)) (fun a => [(0, .ref h0)]) (fun a => [(h0, oC 13 [.ref h1, .ref h2, .int p2, .ref h3, .ref h4, .int (nI k5), .int (nI (a.1 0)), .int p7, .int p8, .int p9, .int (nI k10), .int p11, .long q12, .ref h5, .ref h6, .int (nI k15), .int (nI k16)]), (h1, aI Y 3640 f0), (h2, aZ Y 2 f1), (h3, aZ Y 80 f3), (h4, aB Y 1600 f4), (h5, aI Y 200 f13), (h6, aI Y 800 f14)]) (mkW [k6] [] [] [] [] []) (show k6 ≤ k6 ∧ k6 ≤ k5 by omega) rfl rfl (fun a0 hI2 IH1 => ?_)
    refine V_lv [(0, .ref h0)] [0] rfl ?_
    refine V_ws [(h0, oC 13 [.ref h1, .ref h2, .int p2, .ref h3, .ref h4, .int (nI k5), .int (nI (a0.1 0)), .int p7, .int p8, .int p9, .int (nI k10), .int p11, .long q12, .ref h5, .ref h6, .int (nI k15), .int (nI k16)]), (h1, aI Y 3640 f0), (h2, aZ Y 2 f1), (h3, aZ Y 80 f3), (h4, aB Y 1600 f4), (h5, aI Y 200 f13), (h6, aI Y 800 f14)] rfl ?_
    have x3 := hI2
    refine V_aload_n 0 B dX12_advance_0 0 rfl ?_
    refine V_aload_n 1 B dX12_advance_1 0 rfl ?_
    refine V_get 2 B gf_RX12_264 0 rfl rfl dX12_advance_2 ?_
    refine V_cvi 5 B (st := []) (As := [.int (nI (a0.1 0))]) (fun sz => rX12_byteAt l D Y h0 h1 h2 h3 h4 h5 h6 p2 k5 (a0.1 0) p7 p8 p9 k10 p11 q12 k15 k16 f0 f1 f3 f4 f13 f14 ph HI (by omega) HP (a0.1 0) (by omega) sz) glV_RX12_267 ⟨rfl, rfl⟩ ⟨(Nat.le_of_ble_eq_true rfl), (Nat.le_of_ble_eq_true rfl)⟩ ⟨(Nat.le_of_ble_eq_true rfl), (Nat.le_of_ble_eq_true rfl)⟩ [0, 0, 0, 0, 0, 0, 0] rfl 13 0 rfl rfl rfl rfl (Nat.le_of_ble_eq_true rfl) rfl (fun _ _ _ => rfl) dX12_advance_5 (fun j4 u5 w6 => ?_)
    refine V_ws [(h0, oC 13 [.ref h1, .ref h2, .int p2, .ref h3, .ref h4, .int (nI k5), .int (nI (a0.1 0)), .int p7, .int p8, .int p9, .int (nI k10), .int p11, .long q12, .ref h5, .ref h6, .int (nI k15), .int (nI k16)]), (h1, aI Y 3640 f0), (h2, aZ Y 2 f1), (h3, aZ Y 80 f3), (h4, aB Y 1600 f4), (h5, aI Y 200 f13), (h6, aI Y 800 f14)] rfl ?_
    have x7 := w6
    clear w6
    have x8 : -1 ≤ j4.toInt ∧ j4.toInt ≤ 255 := by rw [x7]; exact BY_rng _ _ _
    refine V_bipush 8 B (v := 32) dX12_advance_8 (by decide +kernel) ?_
    refine V_icmp_eq 10 B 26 dX12_advance_10 (by decide) (fun kk9 => ?_) (fun kk9 => ?_)
    ·
      obtain rfl : j4 = 32 := kk9
      have e11 : (32 : Int32).toInt = 32 := by decide +kernel
      have x12 := BY_lt x7 (by decide +kernel)
      refine V_aload_n 26 B dX12_advance_26 0 rfl ?_
      refine V_dup 27 B dX12_advance_27 rfl ?_
      refine V_get 28 B gf_RX12_264 0 rfl rfl dX12_advance_28 ?_
      refine V_iconst 31 B (v := 1) dX12_advance_31 (by decide +kernel) ?_
      refine V_iadd 32 B (v := (nI (1 + (a0.1 0)))) dX12_advance_32 (nI_addE (a := (a0.1 0)) (b := 1) (by omega)) ?_
      refine V_put 33 B gp_RX12_264 0 rfl (Nat.le_of_ble_eq_true rfl) rfl rfl dX12_advance_33 [(h0, oC 13 [.ref h1, .ref h2, .int p2, .ref h3, .ref h4, .int (nI k5), .int (nI (1 + (a0.1 0))), .int p7, .int p8, .int p9, .int (nI k10), .int p11, .long q12, .ref h5, .ref h6, .int (nI k15), .int (nI k16)]), (h1, aI Y 3640 f0), (h2, aZ Y 2 f1), (h3, aZ Y 80 f3), (h4, aB Y 1600 f4), (h5, aI Y 200 f13), (h6, aI Y 800 f14)] rfl ?_
      refine V_goto 36 B 0 dX12_advance_36 (by decide) ?_
      refine V_lv [(0, .ref h0)] [0] rfl ?_
      exact IH1 (mkW [1 + (a0.1 0)] [] [] [] [] []) (show k6 ≤ 1 + (a0.1 0) ∧ 1 + (a0.1 0) ≤ k5 by omega) (by show 100000 - (1 + (a0.1 0)) < _; omega)
    ·
      have x13 := x_ne kk9
      rw [show (32 : Int32).toInt = 32 by decide +kernel] at x13
      refine V_aload_n 13 B dX12_advance_13 0 rfl ?_
      refine V_aload_n 14 B dX12_advance_14 0 rfl ?_
      refine V_get 15 B gf_RX12_264 0 rfl rfl dX12_advance_15 ?_
      refine V_cvi 18 B (st := []) (As := [.int (nI (a0.1 0))]) (fun sz => rX12_byteAt l D Y h0 h1 h2 h3 h4 h5 h6 p2 k5 (a0.1 0) p7 p8 p9 k10 p11 q12 k15 k16 f0 f1 f3 f4 f13 f14 ph HI (by omega) HP (a0.1 0) (by omega) sz) glV_RX12_267 ⟨rfl, rfl⟩ ⟨(Nat.le_of_ble_eq_true rfl), (Nat.le_of_ble_eq_true rfl)⟩ ⟨(Nat.le_of_ble_eq_true rfl), (Nat.le_of_ble_eq_true rfl)⟩ [0, 0, 0, 0, 0, 0, 0] rfl 13 0 rfl rfl rfl rfl (Nat.le_of_ble_eq_true rfl) rfl (fun _ _ _ => rfl) dX12_advance_18 (fun j14 u15 w16 => ?_)
      refine V_ws [(h0, oC 13 [.ref h1, .ref h2, .int p2, .ref h3, .ref h4, .int (nI k5), .int (nI (a0.1 0)), .int p7, .int p8, .int p9, .int (nI k10), .int p11, .long q12, .ref h5, .ref h6, .int (nI k15), .int (nI k16)]), (h1, aI Y 3640 f0), (h2, aZ Y 2 f1), (h3, aZ Y 80 f3), (h4, aB Y 1600 f4), (h5, aI Y 200 f13), (h6, aI Y 800 f14)] rfl ?_
      have x17 := w16
      clear w16
      have x18 : -1 ≤ j14.toInt ∧ j14.toInt ≤ 255 := by rw [x17]; exact BY_rng _ _ _
      refine V_bipush 21 B (v := 10) dX12_advance_21 (by decide +kernel) ?_
      refine V_icmp_ne 23 B 39 dX12_advance_23 (by decide) (fun kk19 => ?_) (fun kk19 => ?_)
      ·
        have x20 := x_ne kk19
        rw [show (10 : Int32).toInt = 10 by decide +kernel] at x20
        refine V_aload_n 39 B dX12_advance_39 0 rfl ?_
        refine V_aload_n 40 B dX12_advance_40 0 rfl ?_
        refine V_get 41 B gf_RX12_264 0 rfl rfl dX12_advance_41 ?_
        refine V_put 44 B gp_RX12_270 0 rfl (Nat.le_of_ble_eq_true rfl) rfl rfl dX12_advance_44 [(h0, oC 13 [.ref h1, .ref h2, .int p2, .ref h3, .ref h4, .int (nI k5), .int (nI (a0.1 0)), .int p7, .int p8, .int p9, .int (nI (a0.1 0)), .int p11, .long q12, .ref h5, .ref h6, .int (nI k15), .int (nI k16)]), (h1, aI Y 3640 f0), (h2, aZ Y 2 f1), (h3, aZ Y 80 f3), (h4, aB Y 1600 f4), (h5, aI Y 200 f13), (h6, aI Y 800 f14)] rfl ?_
        refine V_aload_n 47 B dX12_advance_47 0 rfl ?_
        refine V_lconst 48 B (v := 0) dX12_advance_48 (by decide +kernel) ?_
        refine V_put 49 B gp_RX12_273 0 rfl (Nat.le_of_ble_eq_true rfl) rfl rfl dX12_advance_49 [(h0, oC 13 [.ref h1, .ref h2, .int p2, .ref h3, .ref h4, .int (nI k5), .int (nI (a0.1 0)), .int p7, .int p8, .int p9, .int (nI (a0.1 0)), .int p11, .long 0, .ref h5, .ref h6, .int (nI k15), .int (nI k16)]), (h1, aI Y 3640 f0), (h2, aZ Y 2 f1), (h3, aZ Y 80 f3), (h4, aB Y 1600 f4), (h5, aI Y 200 f13), (h6, aI Y 800 f14)] rfl ?_
        refine V_aload_n 52 B dX12_advance_52 0 rfl ?_
        refine V_aload_n 53 B dX12_advance_53 0 rfl ?_
        refine V_get 54 B gf_RX12_270 0 rfl rfl dX12_advance_54 ?_
        refine V_cvi 57 B (st := []) (As := [.int (nI (a0.1 0))]) (fun sz => rX12_byteAt l D Y h0 h1 h2 h3 h4 h5 h6 p2 k5 (a0.1 0) p7 p8 p9 (a0.1 0) p11 0 k15 k16 f0 f1 f3 f4 f13 f14 ph HI (by omega) HP (a0.1 0) (by omega) sz) glV_RX12_267 ⟨rfl, rfl⟩ ⟨(Nat.le_of_ble_eq_true rfl), (Nat.le_of_ble_eq_true rfl)⟩ ⟨(Nat.le_of_ble_eq_true rfl), (Nat.le_of_ble_eq_true rfl)⟩ [0, 0, 0, 0, 0, 0, 0] rfl 13 0 rfl rfl rfl rfl (Nat.le_of_ble_eq_true rfl) rfl (fun _ _ _ => rfl) dX12_advance_57 (fun j21 u22 w23 => ?_)
        refine V_ws [(h0, oC 13 [.ref h1, .ref h2, .int p2, .ref h3, .ref h4, .int (nI k5), .int (nI (a0.1 0)), .int p7, .int p8, .int p9, .int (nI (a0.1 0)), .int p11, .long 0, .ref h5, .ref h6, .int (nI k15), .int (nI k16)]), (h1, aI Y 3640 f0), (h2, aZ Y 2 f1), (h3, aZ Y 80 f3), (h4, aB Y 1600 f4), (h5, aI Y 200 f13), (h6, aI Y 800 f14)] rfl ?_
        have x24 := w23
        clear w23
        have x25 : -1 ≤ j21.toInt ∧ j21.toInt ≤ 255 := by rw [x24]; exact BY_rng _ _ _
        refine V_istore_n 60 B (lv2 := [(1, .int j21), (0, .ref h0)]) dX12_advance_60 (by decide) rfl ?_
        refine V_aload_n 61 B dX12_advance_61 1 rfl ?_
        refine V_iload_n 62 B dX12_advance_62 0 rfl ?_
        refine V_iconst 63 B (v := (-1)) dX12_advance_63 (by decide +kernel) ?_
        refine V_icmp_ne 64 B 71 dX12_advance_64 (by decide) (fun kk26 => ?_) (fun kk26 => ?_)
        ·
          have x27 := x_ne kk26
          rw [show ((-1) : Int32).toInt = (-1) by decide +kernel] at x27
          refine V_iload_n 71 B dX12_advance_71 0 rfl ?_
          refine V_csi 72 B (st := [.ref h0]) (As := [.int j21]) (fun sz => rX12_isLetter l D Y j21 sz) glS_RX12_277 ⟨rfl, rfl⟩ ⟨(Nat.le_of_ble_eq_true rfl), (Nat.le_of_ble_eq_true rfl)⟩ ⟨(Nat.le_of_ble_eq_true rfl), (Nat.le_of_ble_eq_true rfl)⟩ [] rfl rfl (Nat.le_of_ble_eq_true rfl) rfl (fun _ _ _ => rfl) dX12_advance_72 (fun j28 u29 w30 => ?_)
          refine V_ws [(h0, oC 13 [.ref h1, .ref h2, .int p2, .ref h3, .ref h4, .int (nI k5), .int (nI (a0.1 0)), .int p7, .int p8, .int p9, .int (nI (a0.1 0)), .int p11, .long 0, .ref h5, .ref h6, .int (nI k15), .int (nI k16)]), (h1, aI Y 3640 f0), (h2, aZ Y 2 f1), (h3, aZ Y 80 f3), (h4, aB Y 1600 f4), (h5, aI Y 200 f13), (h6, aI Y 800 f14)] rfl ?_
          have x31 := w30
          clear w30
          rcases x31 with ⟨rfl, x32⟩ | ⟨rfl, x32⟩
          ·
            refine V_if_eq_t 75 B 82 dX12_advance_75 (by decide) (by decide +kernel) ?_
            refine V_iload_n 82 B dX12_advance_82 0 rfl ?_
            refine V_csi 83 B (st := [.ref h0]) (As := [.int j21]) (fun sz => rX12_isDigit l D Y j21 sz) glS_RX12_280 ⟨rfl, rfl⟩ ⟨(Nat.le_of_ble_eq_true rfl), (Nat.le_of_ble_eq_true rfl)⟩ ⟨(Nat.le_of_ble_eq_true rfl), (Nat.le_of_ble_eq_true rfl)⟩ [] rfl rfl (Nat.le_of_ble_eq_true rfl) rfl (fun _ _ _ => rfl) dX12_advance_83 (fun j33 u34 w35 => ?_)
            refine V_ws [(h0, oC 13 [.ref h1, .ref h2, .int p2, .ref h3, .ref h4, .int (nI k5), .int (nI (a0.1 0)), .int p7, .int p8, .int p9, .int (nI (a0.1 0)), .int p11, .long 0, .ref h5, .ref h6, .int (nI k15), .int (nI k16)]), (h1, aI Y 3640 f0), (h2, aZ Y 2 f1), (h3, aZ Y 80 f3), (h4, aB Y 1600 f4), (h5, aI Y 200 f13), (h6, aI Y 800 f14)] rfl ?_
            have x36 := w35
            clear w35
            rcases x36 with ⟨rfl, x37⟩ | ⟨rfl, x37⟩
            ·
              refine V_if_eq_t 86 B 93 dX12_advance_86 (by decide) (by decide +kernel) ?_
              refine V_iload_n 93 B dX12_advance_93 0 rfl ?_
              refine V_bipush 94 B (v := 59) dX12_advance_94 (by decide +kernel) ?_
              refine V_icmp_ne 96 B 103 dX12_advance_96 (by decide) (fun kk38 => ?_) (fun kk38 => ?_)
              ·
                have x39 := x_ne kk38
                rw [show (59 : Int32).toInt = 59 by decide +kernel] at x39
                refine V_iconst 103 B (v := 4) dX12_advance_103 (by decide +kernel) ?_
                refine V_put 104 B gp_RX12_283 0 rfl (Nat.le_of_ble_eq_true rfl) rfl rfl dX12_advance_104 [(h0, oC 13 [.ref h1, .ref h2, .int p2, .ref h3, .ref h4, .int (nI k5), .int (nI (a0.1 0)), .int p7, .int p8, .int 4, .int (nI (a0.1 0)), .int p11, .long 0, .ref h5, .ref h6, .int (nI k15), .int (nI k16)]), (h1, aI Y 3640 f0), (h2, aZ Y 2 f1), (h3, aZ Y 80 f3), (h4, aB Y 1600 f4), (h5, aI Y 200 f13), (h6, aI Y 800 f14)] rfl ?_
                refine V_aload_n 107 B dX12_advance_107 1 rfl ?_
                refine V_get 108 B gf_RX12_283 0 rfl rfl dX12_advance_108 ?_
                refine V_iconst 111 B (v := 2) dX12_advance_111 (by decide +kernel) ?_
                refine V_icmp_le_f 112 B 125 dX12_advance_112 (by decide) (by decide +kernel) ?_
                have x40 : 0 ≤ j4.toInt → (a0.1 0) < k5 := fun z => BY_lt x7 z
                have x41 : 0 ≤ j14.toInt → (a0.1 0) < k5 := fun z => BY_lt x17 z
                have x42 : 0 ≤ j21.toInt → (a0.1 0) < k5 := fun z => BY_lt x24 z
                refine V_aload_n 115 B dX12_advance_115 1 rfl ?_
                refine V_dup 116 B dX12_advance_116 rfl ?_
                refine V_get 117 B gf_RX12_264 0 rfl rfl dX12_advance_117 ?_
                refine V_iconst 120 B (v := 1) dX12_advance_120 (by decide +kernel) ?_
                refine V_iadd 121 B (v := (nI (1 + (a0.1 0)))) dX12_advance_121 (nI_addE (a := (a0.1 0)) (b := 1) (by omega)) ?_
                refine V_put 122 B gp_RX12_264 0 rfl (Nat.le_of_ble_eq_true rfl) rfl rfl dX12_advance_122 [(h0, oC 13 [.ref h1, .ref h2, .int p2, .ref h3, .ref h4, .int (nI k5), .int (nI (1 + (a0.1 0))), .int p7, .int p8, .int 4, .int (nI (a0.1 0)), .int p11, .long 0, .ref h5, .ref h6, .int (nI k15), .int (nI k16)]), (h1, aI Y 3640 f0), (h2, aZ Y 2 f1), (h3, aZ Y 80 f3), (h4, aB Y 1600 f4), (h5, aI Y 200 f13), (h6, aI Y 800 f14)] rfl ?_
                refine V_aload_n 125 B dX12_advance_125 1 rfl ?_
                refine V_get 126 B gf_RX12_283 0 rfl rfl dX12_advance_126 ?_
                refine V_iconst 129 B (v := 1) dX12_advance_129 (by decide +kernel) ?_
                refine V_icmp_ne_t 130 B 195 dX12_advance_130 (by decide) (by decide +kernel) ?_
                refine V_aload_n 195 B dX12_advance_195 1 rfl ?_
                refine V_get 196 B gf_RX12_283 0 rfl rfl dX12_advance_196 ?_
                refine V_iconst 199 B (v := 2) dX12_advance_199 (by decide +kernel) ?_
                refine V_icmp_ne_t 200 B 269 dX12_advance_200 (by decide) (by decide +kernel) ?_
                refine V_aload_n 269 B dX12_advance_269 1 rfl ?_
                refine V_get 270 B gf_RX12_283 0 rfl rfl dX12_advance_270 ?_
                refine V_iconst 273 B (v := 1) dX12_advance_273 (by decide +kernel) ?_
                refine V_icmp_ne_t 274 B 291 dX12_advance_274 (by decide) (by decide +kernel) ?_
                refine V_aload_n 291 B dX12_advance_291 1 rfl ?_
                refine V_get 292 B gf_RX12_283 0 rfl rfl dX12_advance_292 ?_
                refine V_iconst 295 B (v := 2) dX12_advance_295 (by decide +kernel) ?_
                refine V_icmp_ne_t 296 B 317 dX12_advance_296 (by decide) (by decide +kernel) ?_
                exact V_vret 317 B dX12_advance_317 (mkW [1 + (a0.1 0), (a0.1 0)] [4] [0] [] [] []) ⟨(show k6 ≤ (a0.1 0) by omega), (show (a0.1 0) ≤ 1 + (a0.1 0) by omega), (show 1 + (a0.1 0) ≤ k5 by omega), (Or.inr (show (a0.1 0) < 1 + (a0.1 0) by first | omega | exact (Or.resolve_left hx2 (by decide))))⟩ rfl
              ·
                obtain rfl : j21 = 59 := kk38
                have e44 : (59 : Int32).toInt = 59 := by decide +kernel
                refine V_iconst 99 B (v := 3) dX12_advance_99 (by decide +kernel) ?_
                refine V_goto 100 B 104 dX12_advance_100 (by decide) ?_
                refine V_put 104 B gp_RX12_283 0 rfl (Nat.le_of_ble_eq_true rfl) rfl rfl dX12_advance_104 [(h0, oC 13 [.ref h1, .ref h2, .int p2, .ref h3, .ref h4, .int (nI k5), .int (nI (a0.1 0)), .int p7, .int p8, .int 3, .int (nI (a0.1 0)), .int p11, .long 0, .ref h5, .ref h6, .int (nI k15), .int (nI k16)]), (h1, aI Y 3640 f0), (h2, aZ Y 2 f1), (h3, aZ Y 80 f3), (h4, aB Y 1600 f4), (h5, aI Y 200 f13), (h6, aI Y 800 f14)] rfl ?_
                refine V_aload_n 107 B dX12_advance_107 1 rfl ?_
                refine V_get 108 B gf_RX12_283 0 rfl rfl dX12_advance_108 ?_
                refine V_iconst 111 B (v := 2) dX12_advance_111 (by decide +kernel) ?_
                refine V_icmp_le_f 112 B 125 dX12_advance_112 (by decide) (by decide +kernel) ?_
                have x45 : 0 ≤ j4.toInt → (a0.1 0) < k5 := fun z => BY_lt x7 z
                have x46 : 0 ≤ j14.toInt → (a0.1 0) < k5 := fun z => BY_lt x17 z
                have x47 := BY_lt x24 (by decide +kernel)
                refine V_aload_n 115 B dX12_advance_115 1 rfl ?_
                refine V_dup 116 B dX12_advance_116 rfl ?_
                refine V_get 117 B gf_RX12_264 0 rfl rfl dX12_advance_117 ?_
                refine V_iconst 120 B (v := 1) dX12_advance_120 (by decide +kernel) ?_
                refine V_iadd 121 B (v := (nI (1 + (a0.1 0)))) dX12_advance_121 (nI_addE (a := (a0.1 0)) (b := 1) (by omega)) ?_
                refine V_put 122 B gp_RX12_264 0 rfl (Nat.le_of_ble_eq_true rfl) rfl rfl dX12_advance_122 [(h0, oC 13 [.ref h1, .ref h2, .int p2, .ref h3, .ref h4, .int (nI k5), .int (nI (1 + (a0.1 0))), .int p7, .int p8, .int 3, .int (nI (a0.1 0)), .int p11, .long 0, .ref h5, .ref h6, .int (nI k15), .int (nI k16)]), (h1, aI Y 3640 f0), (h2, aZ Y 2 f1), (h3, aZ Y 80 f3), (h4, aB Y 1600 f4), (h5, aI Y 200 f13), (h6, aI Y 800 f14)] rfl ?_
                refine V_aload_n 125 B dX12_advance_125 1 rfl ?_
                refine V_get 126 B gf_RX12_283 0 rfl rfl dX12_advance_126 ?_
                refine V_iconst 129 B (v := 1) dX12_advance_129 (by decide +kernel) ?_
                refine V_icmp_ne_t 130 B 195 dX12_advance_130 (by decide) (by decide +kernel) ?_
                refine V_aload_n 195 B dX12_advance_195 1 rfl ?_
                refine V_get 196 B gf_RX12_283 0 rfl rfl dX12_advance_196 ?_
                refine V_iconst 199 B (v := 2) dX12_advance_199 (by decide +kernel) ?_
                refine V_icmp_ne_t 200 B 269 dX12_advance_200 (by decide) (by decide +kernel) ?_
                refine V_aload_n 269 B dX12_advance_269 1 rfl ?_
                refine V_get 270 B gf_RX12_283 0 rfl rfl dX12_advance_270 ?_
                refine V_iconst 273 B (v := 1) dX12_advance_273 (by decide +kernel) ?_
                refine V_icmp_ne_t 274 B 291 dX12_advance_274 (by decide) (by decide +kernel) ?_
                refine V_aload_n 291 B dX12_advance_291 1 rfl ?_
                refine V_get 292 B gf_RX12_283 0 rfl rfl dX12_advance_292 ?_
                refine V_iconst 295 B (v := 2) dX12_advance_295 (by decide +kernel) ?_
                refine V_icmp_ne_t 296 B 317 dX12_advance_296 (by decide) (by decide +kernel) ?_
                exact V_vret 317 B dX12_advance_317 (mkW [1 + (a0.1 0), (a0.1 0)] [3] [0] [] [] []) ⟨(show k6 ≤ (a0.1 0) by omega), (show (a0.1 0) ≤ 1 + (a0.1 0) by omega), (show 1 + (a0.1 0) ≤ k5 by omega), (Or.inr (show (a0.1 0) < 1 + (a0.1 0) by first | omega | exact (Or.resolve_left hx2 (by decide))))⟩ rfl
            ·
              refine V_if_eq_f 86 B 93 dX12_advance_86 (by decide) (by decide +kernel) ?_
              refine V_iconst 89 B (v := 2) dX12_advance_89 (by decide +kernel) ?_
              refine V_goto 90 B 104 dX12_advance_90 (by decide) ?_
              refine V_put 104 B gp_RX12_283 0 rfl (Nat.le_of_ble_eq_true rfl) rfl rfl dX12_advance_104 [(h0, oC 13 [.ref h1, .ref h2, .int p2, .ref h3, .ref h4, .int (nI k5), .int (nI (a0.1 0)), .int p7, .int p8, .int 2, .int (nI (a0.1 0)), .int p11, .long 0, .ref h5, .ref h6, .int (nI k15), .int (nI k16)]), (h1, aI Y 3640 f0), (h2, aZ Y 2 f1), (h3, aZ Y 80 f3), (h4, aB Y 1600 f4), (h5, aI Y 200 f13), (h6, aI Y 800 f14)] rfl ?_
              refine V_aload_n 107 B dX12_advance_107 1 rfl ?_
              refine V_get 108 B gf_RX12_283 0 rfl rfl dX12_advance_108 ?_
              refine V_iconst 111 B (v := 2) dX12_advance_111 (by decide +kernel) ?_
              refine V_icmp_le_t 112 B 125 dX12_advance_112 (by decide) (by decide +kernel) ?_
              refine V_aload_n 125 B dX12_advance_125 1 rfl ?_
              refine V_get 126 B gf_RX12_283 0 rfl rfl dX12_advance_126 ?_
              refine V_iconst 129 B (v := 1) dX12_advance_129 (by decide +kernel) ?_
              refine V_icmp_ne_t 130 B 195 dX12_advance_130 (by decide) (by decide +kernel) ?_
              refine V_wloop (α := WU) (fun a => 100000 - (a.1 0)) (fun a => ((a0.1 0) ≤ (a.1 0) ∧ (a.1 0) ≤ k5 ∧ ((a.1 0) = (a0.1 0) → DIG (BY f4 k5 (a0.1 0))))) (fun a => [(1, .int j21), (0, .ref h0)]) (fun a => [(h0, oC 13 [.ref h1, .ref h2, .int p2, .ref h3, .ref h4, .int (nI k5), .int (nI (a.1 0)), .int p7, .int p8, .int 2, .int (nI (a0.1 0)), .int p11, .long (a.2.2.1 0), .ref h5, .ref h6, .int (nI k15), .int (nI k16)]), (h1, aI Y 3640 f0), (h2, aZ Y 2 f1), (h3, aZ Y 80 f3), (h4, aB Y 1600 f4), (h5, aI Y 200 f13), (h6, aI Y 800 f14)]) (mkW [(a0.1 0)] [] [0] [] [] []) ⟨(show (a0.1 0) ≤ (a0.1 0) by omega), (show (a0.1 0) ≤ k5 by have z9 := BY_lt x24 (DIG_0 x37); omega), fun _ => by rw [← x24]; exact x37⟩ rfl rfl (fun a48 hI50 IH49 => ?_)
              refine V_lv [(1, .int j21), (0, .ref h0)] [0, 1] rfl ?_
              refine V_ws [(h0, oC 13 [.ref h1, .ref h2, .int p2, .ref h3, .ref h4, .int (nI k5), .int (nI (a48.1 0)), .int p7, .int p8, .int 2, .int (nI (a0.1 0)), .int p11, .long (a48.2.2.1 0), .ref h5, .ref h6, .int (nI k15), .int (nI k16)]), (h1, aI Y 3640 f0), (h2, aZ Y 2 f1), (h3, aZ Y 80 f3), (h4, aB Y 1600 f4), (h5, aI Y 200 f13), (h6, aI Y 800 f14)] rfl ?_
              have x51 := hI50
              refine V_aload_n 195 B dX12_advance_195 1 rfl ?_
              refine V_get 196 B gf_RX12_283 0 rfl rfl dX12_advance_196 ?_
              refine V_iconst 199 B (v := 2) dX12_advance_199 (by decide +kernel) ?_
              refine V_icmp_ne_f 200 B 269 dX12_advance_200 (by decide) (by decide +kernel) ?_
              refine V_aload_n 203 B dX12_advance_203 1 rfl ?_
              refine V_aload_n 204 B dX12_advance_204 1 rfl ?_
              refine V_get 205 B gf_RX12_264 0 rfl rfl dX12_advance_205 ?_
              refine V_cvi 208 B (st := []) (As := [.int (nI (a48.1 0))]) (fun sz => rX12_byteAt l D Y h0 h1 h2 h3 h4 h5 h6 p2 k5 (a48.1 0) p7 p8 2 (a0.1 0) p11 (a48.2.2.1 0) k15 k16 f0 f1 f3 f4 f13 f14 ph HI (by omega) HP (a48.1 0) (by omega) sz) glV_RX12_267 ⟨rfl, rfl⟩ ⟨(Nat.le_of_ble_eq_true rfl), (Nat.le_of_ble_eq_true rfl)⟩ ⟨(Nat.le_of_ble_eq_true rfl), (Nat.le_of_ble_eq_true rfl)⟩ [0, 0, 0, 0, 0, 0, 0] rfl 13 0 rfl rfl rfl rfl (Nat.le_of_ble_eq_true rfl) rfl (fun _ _ _ => rfl) dX12_advance_208 (fun j52 u53 w54 => ?_)
              refine V_ws [(h0, oC 13 [.ref h1, .ref h2, .int p2, .ref h3, .ref h4, .int (nI k5), .int (nI (a48.1 0)), .int p7, .int p8, .int 2, .int (nI (a0.1 0)), .int p11, .long (a48.2.2.1 0), .ref h5, .ref h6, .int (nI k15), .int (nI k16)]), (h1, aI Y 3640 f0), (h2, aZ Y 2 f1), (h3, aZ Y 80 f3), (h4, aB Y 1600 f4), (h5, aI Y 200 f13), (h6, aI Y 800 f14)] rfl ?_
              have x55 := w54
              clear w54
              have x56 : -1 ≤ j52.toInt ∧ j52.toInt ≤ 255 := by rw [x55]; exact BY_rng _ _ _
              refine V_csi 211 B (st := []) (As := [.int j52]) (fun sz => rX12_isDigit l D Y j52 sz) glS_RX12_280 ⟨rfl, rfl⟩ ⟨(Nat.le_of_ble_eq_true rfl), (Nat.le_of_ble_eq_true rfl)⟩ ⟨(Nat.le_of_ble_eq_true rfl), (Nat.le_of_ble_eq_true rfl)⟩ [] rfl rfl (Nat.le_of_ble_eq_true rfl) rfl (fun _ _ _ => rfl) dX12_advance_211 (fun j57 u58 w59 => ?_)
              refine V_ws [(h0, oC 13 [.ref h1, .ref h2, .int p2, .ref h3, .ref h4, .int (nI k5), .int (nI (a48.1 0)), .int p7, .int p8, .int 2, .int (nI (a0.1 0)), .int p11, .long (a48.2.2.1 0), .ref h5, .ref h6, .int (nI k15), .int (nI k16)]), (h1, aI Y 3640 f0), (h2, aZ Y 2 f1), (h3, aZ Y 80 f3), (h4, aB Y 1600 f4), (h5, aI Y 200 f13), (h6, aI Y 800 f14)] rfl ?_
              have x60 := w59
              clear w59
              rcases x60 with ⟨rfl, x61⟩ | ⟨rfl, x61⟩
              ·
                refine V_if_eq_t 214 B 269 dX12_advance_214 (by decide) (by decide +kernel) ?_
                have x62 := adv_lem (P := DIG) x55 x61 x51.2.2 x51.1
                refine V_aload_n 269 B dX12_advance_269 1 rfl ?_
                refine V_get 270 B gf_RX12_283 0 rfl rfl dX12_advance_270 ?_
                refine V_iconst 273 B (v := 1) dX12_advance_273 (by decide +kernel) ?_
                refine V_icmp_ne_t 274 B 291 dX12_advance_274 (by decide) (by decide +kernel) ?_
                refine V_aload_n 291 B dX12_advance_291 1 rfl ?_
                refine V_get 292 B gf_RX12_283 0 rfl rfl dX12_advance_292 ?_
                refine V_iconst 295 B (v := 2) dX12_advance_295 (by decide +kernel) ?_
                refine V_icmp_ne_f 296 B 317 dX12_advance_296 (by decide) (by decide +kernel) ?_
                refine V_aload_n 299 B dX12_advance_299 1 rfl ?_
                refine V_get 300 B gf_RX12_264 0 rfl rfl dX12_advance_300 ?_
                refine V_aload_n 303 B dX12_advance_303 1 rfl ?_
                refine V_get 304 B gf_RX12_270 0 rfl rfl dX12_advance_304 ?_
                refine V_isub 307 B dX12_advance_307 rfl ?_
                refine V_nmi (fun j63 e64 => ?_)
                have x65 : j63.toInt = (((a48.1 0) : Nat) : Int) - (((a0.1 0) : Nat) : Int) := by rw [e64]; exact nI_subT (a := (a48.1 0)) (b := (a0.1 0)) (by omega) (by omega)
                refine V_iconst 308 B (v := 3) dX12_advance_308 (by decide +kernel) ?_
                refine V_icmp_le 309 B 317 dX12_advance_309 (by decide) (fun kk66 => ?_) (fun kk66 => ?_)
                ·
                  have x67 := x_le kk66
                  rw [show (3 : Int32).toInt = 3 by decide +kernel] at x67
                  exact V_vret 317 B dX12_advance_317 (mkW [(a48.1 0), (a0.1 0)] [2] [(a48.2.2.1 0)] [] [] []) ⟨(show k6 ≤ (a0.1 0) by omega), (show (a0.1 0) ≤ (a48.1 0) by omega), (show (a48.1 0) ≤ k5 by omega), (Or.inr (show (a0.1 0) < (a48.1 0) by first | omega | exact (Or.resolve_left hx2 (by decide))))⟩ rfl
                ·
                  have x68 := x_nle kk66
                  rw [show (3 : Int32).toInt = 3 by decide +kernel] at x68
                  refine V_aload_n 312 B dX12_advance_312 1 rfl ?_
                  refine V_iconst 313 B (v := 4) dX12_advance_313 (by decide +kernel) ?_
                  refine V_put 314 B gp_RX12_283 0 rfl (Nat.le_of_ble_eq_true rfl) rfl rfl dX12_advance_314 [(h0, oC 13 [.ref h1, .ref h2, .int p2, .ref h3, .ref h4, .int (nI k5), .int (nI (a48.1 0)), .int p7, .int p8, .int 4, .int (nI (a0.1 0)), .int p11, .long (a48.2.2.1 0), .ref h5, .ref h6, .int (nI k15), .int (nI k16)]), (h1, aI Y 3640 f0), (h2, aZ Y 2 f1), (h3, aZ Y 80 f3), (h4, aB Y 1600 f4), (h5, aI Y 200 f13), (h6, aI Y 800 f14)] rfl ?_
                  exact V_vret 317 B dX12_advance_317 (mkW [(a48.1 0), (a0.1 0)] [4] [(a48.2.2.1 0)] [] [] []) ⟨(show k6 ≤ (a0.1 0) by omega), (show (a0.1 0) ≤ (a48.1 0) by omega), (show (a48.1 0) ≤ k5 by omega), (Or.inr (show (a0.1 0) < (a48.1 0) by first | omega | exact (Or.resolve_left hx2 (by decide))))⟩ rfl
              ·
                refine V_if_eq_f 214 B 269 dX12_advance_214 (by decide) (by decide +kernel) ?_
                have x69 := BY_lt x55 (DIG_0 x61)
                refine V_aload_n 217 B dX12_advance_217 1 rfl ?_
                refine V_get 218 B gf_RX12_264 0 rfl rfl dX12_advance_218 ?_
                refine V_aload_n 221 B dX12_advance_221 1 rfl ?_
                refine V_get 222 B gf_RX12_270 0 rfl rfl dX12_advance_222 ?_
                refine V_isub 225 B dX12_advance_225 rfl ?_
                refine V_nmi (fun j70 e71 => ?_)
                have x72 : j70.toInt = (((a48.1 0) : Nat) : Int) - (((a0.1 0) : Nat) : Int) := by rw [e71]; exact nI_subT (a := (a48.1 0)) (b := (a0.1 0)) (by omega) (by omega)
                refine V_iconst 226 B (v := 3) dX12_advance_226 (by decide +kernel) ?_
                refine V_icmp_ge 227 B 256 dX12_advance_227 (by decide) (fun kk73 => ?_) (fun kk73 => ?_)
                ·
                  have x74 := x_le kk73
                  rw [show (3 : Int32).toInt = 3 by decide +kernel] at x74
                  refine V_aload_n 256 B dX12_advance_256 1 rfl ?_
                  refine V_dup 257 B dX12_advance_257 rfl ?_
                  refine V_get 258 B gf_RX12_264 0 rfl rfl dX12_advance_258 ?_
                  refine V_iconst 261 B (v := 1) dX12_advance_261 (by decide +kernel) ?_
                  refine V_iadd 262 B (v := (nI (1 + (a48.1 0)))) dX12_advance_262 (nI_addE (a := (a48.1 0)) (b := 1) (by omega)) ?_
                  refine V_put 263 B gp_RX12_264 0 rfl (Nat.le_of_ble_eq_true rfl) rfl rfl dX12_advance_263 [(h0, oC 13 [.ref h1, .ref h2, .int p2, .ref h3, .ref h4, .int (nI k5), .int (nI (1 + (a48.1 0))), .int p7, .int p8, .int 2, .int (nI (a0.1 0)), .int p11, .long (a48.2.2.1 0), .ref h5, .ref h6, .int (nI k15), .int (nI k16)]), (h1, aI Y 3640 f0), (h2, aZ Y 2 f1), (h3, aZ Y 80 f3), (h4, aB Y 1600 f4), (h5, aI Y 200 f13), (h6, aI Y 800 f14)] rfl ?_
                  refine V_goto 266 B 195 dX12_advance_266 (by decide) ?_
                  refine V_lv [(1, .int j21), (0, .ref h0)] [0, 1] rfl ?_
                  exact IH49 (mkW [1 + (a48.1 0)] [] [(a48.2.2.1 0)] [] [] []) ⟨(show (a0.1 0) ≤ 1 + (a48.1 0) by omega), (show 1 + (a48.1 0) ≤ k5 by omega), fun e9 => absurd (show 1 + (a48.1 0) = (a0.1 0) from e9) (by omega)⟩ (by show 100000 - (1 + (a48.1 0)) < _; omega)
                ·
                  have x75 := x_nle kk73
                  rw [show (3 : Int32).toInt = 3 by decide +kernel] at x75
                  refine V_aload_n 230 B dX12_advance_230 1 rfl ?_
                  refine V_aload_n 231 B dX12_advance_231 1 rfl ?_
                  refine V_get 232 B gf_RX12_273 0 rfl rfl dX12_advance_232 ?_
                  refine V_ldc2 235 B (v := 10) dX12_advance_235 (mT9 220 rfl rfl) ?_
                  refine V_lmul 238 B dX12_advance_238 rfl ?_
                  refine V_nml (fun o76 e77 => ?_)
                  refine V_aload_n 239 B dX12_advance_239 1 rfl ?_
                  refine V_aload_n 240 B dX12_advance_240 1 rfl ?_
                  refine V_get 241 B gf_RX12_264 0 rfl rfl dX12_advance_241 ?_
                  refine V_cvi 244 B (st := [.long o76, .ref h0]) (As := [.int (nI (a48.1 0))]) (fun sz => rX12_byteAt l D Y h0 h1 h2 h3 h4 h5 h6 p2 k5 (a48.1 0) p7 p8 2 (a0.1 0) p11 (a48.2.2.1 0) k15 k16 f0 f1 f3 f4 f13 f14 ph HI (by omega) HP (a48.1 0) (by omega) sz) glV_RX12_267 ⟨rfl, rfl⟩ ⟨(Nat.le_of_ble_eq_true rfl), (Nat.le_of_ble_eq_true rfl)⟩ ⟨(Nat.le_of_ble_eq_true rfl), (Nat.le_of_ble_eq_true rfl)⟩ [0, 0, 0, 0, 0, 0, 0] rfl 13 0 rfl rfl rfl rfl (Nat.le_of_ble_eq_true rfl) rfl (fun _ _ _ => rfl) dX12_advance_244 (fun j78 u79 w80 => ?_)
                  refine V_ws [(h0, oC 13 [.ref h1, .ref h2, .int p2, .ref h3, .ref h4, .int (nI k5), .int (nI (a48.1 0)), .int p7, .int p8, .int 2, .int (nI (a0.1 0)), .int p11, .long (a48.2.2.1 0), .ref h5, .ref h6, .int (nI k15), .int (nI k16)]), (h1, aI Y 3640 f0), (h2, aZ Y 2 f1), (h3, aZ Y 80 f3), (h4, aB Y 1600 f4), (h5, aI Y 200 f13), (h6, aI Y 800 f14)] rfl ?_
                  have x81 := w80
                  clear w80
                  have x82 : -1 ≤ j78.toInt ∧ j78.toInt ≤ 255 := by rw [x81]; exact BY_rng _ _ _
                  refine V_i2l 247 B dX12_advance_247 rfl ?_
                  refine V_nml (fun o83 e84 => ?_)
                  have x85 : o83.toInt = j78.toInt := by rw [e84, Int32.toInt_toInt64]
                  refine V_ladd 248 B dX12_advance_248 rfl ?_
                  refine V_nml (fun o86 e87 => ?_)
                  refine V_ldc2 249 B (v := 48) dX12_advance_249 (mT9 218 rfl rfl) ?_
                  refine V_lsub 252 B dX12_advance_252 rfl ?_
                  refine V_nml (fun o88 e89 => ?_)
                  refine V_put 253 B gp_RX12_273 0 rfl (Nat.le_of_ble_eq_true rfl) rfl rfl dX12_advance_253 [(h0, oC 13 [.ref h1, .ref h2, .int p2, .ref h3, .ref h4, .int (nI k5), .int (nI (a48.1 0)), .int p7, .int p8, .int 2, .int (nI (a0.1 0)), .int p11, .long o88, .ref h5, .ref h6, .int (nI k15), .int (nI k16)]), (h1, aI Y 3640 f0), (h2, aZ Y 2 f1), (h3, aZ Y 80 f3), (h4, aB Y 1600 f4), (h5, aI Y 200 f13), (h6, aI Y 800 f14)] rfl ?_
                  refine V_aload_n 256 B dX12_advance_256 1 rfl ?_
                  refine V_dup 257 B dX12_advance_257 rfl ?_
                  refine V_get 258 B gf_RX12_264 0 rfl rfl dX12_advance_258 ?_
                  refine V_iconst 261 B (v := 1) dX12_advance_261 (by decide +kernel) ?_
                  refine V_iadd 262 B (v := (nI (1 + (a48.1 0)))) dX12_advance_262 (nI_addE (a := (a48.1 0)) (b := 1) (by omega)) ?_
                  refine V_put 263 B gp_RX12_264 0 rfl (Nat.le_of_ble_eq_true rfl) rfl rfl dX12_advance_263 [(h0, oC 13 [.ref h1, .ref h2, .int p2, .ref h3, .ref h4, .int (nI k5), .int (nI (1 + (a48.1 0))), .int p7, .int p8, .int 2, .int (nI (a0.1 0)), .int p11, .long o88, .ref h5, .ref h6, .int (nI k15), .int (nI k16)]), (h1, aI Y 3640 f0), (h2, aZ Y 2 f1), (h3, aZ Y 80 f3), (h4, aB Y 1600 f4), (h5, aI Y 200 f13), (h6, aI Y 800 f14)] rfl ?_
                  refine V_goto 266 B 195 dX12_advance_266 (by decide) ?_
                  refine V_lv [(1, .int j21), (0, .ref h0)] [0, 1] rfl ?_
                  exact IH49 (mkW [1 + (a48.1 0)] [] [o88] [] [] []) ⟨(show (a0.1 0) ≤ 1 + (a48.1 0) by omega), (show 1 + (a48.1 0) ≤ k5 by omega), fun e9 => absurd (show 1 + (a48.1 0) = (a0.1 0) from e9) (by omega)⟩ (by show 100000 - (1 + (a48.1 0)) < _; omega)
          ·
            refine V_if_eq_f 75 B 82 dX12_advance_75 (by decide) (by decide +kernel) ?_
            refine V_iconst 78 B (v := 1) dX12_advance_78 (by decide +kernel) ?_
            refine V_goto 79 B 104 dX12_advance_79 (by decide) ?_
            refine V_put 104 B gp_RX12_283 0 rfl (Nat.le_of_ble_eq_true rfl) rfl rfl dX12_advance_104 [(h0, oC 13 [.ref h1, .ref h2, .int p2, .ref h3, .ref h4, .int (nI k5), .int (nI (a0.1 0)), .int p7, .int p8, .int 1, .int (nI (a0.1 0)), .int p11, .long 0, .ref h5, .ref h6, .int (nI k15), .int (nI k16)]), (h1, aI Y 3640 f0), (h2, aZ Y 2 f1), (h3, aZ Y 80 f3), (h4, aB Y 1600 f4), (h5, aI Y 200 f13), (h6, aI Y 800 f14)] rfl ?_
            refine V_aload_n 107 B dX12_advance_107 1 rfl ?_
            refine V_get 108 B gf_RX12_283 0 rfl rfl dX12_advance_108 ?_
            refine V_iconst 111 B (v := 2) dX12_advance_111 (by decide +kernel) ?_
            refine V_icmp_le_t 112 B 125 dX12_advance_112 (by decide) (by decide +kernel) ?_
            refine V_wloop (α := WU) (fun a => 100000 - (a.1 0)) (fun a => ((a0.1 0) ≤ (a.1 0) ∧ (a.1 0) ≤ k5 ∧ ((a.1 0) = (a0.1 0) → LET (BY f4 k5 (a0.1 0))))) (fun a => [(1, .int j21), (0, .ref h0)]) (fun a => [(h0, oC 13 [.ref h1, .ref h2, .int p2, .ref h3, .ref h4, .int (nI k5), .int (nI (a.1 0)), .int p7, .int p8, .int 1, .int (nI (a0.1 0)), .int p11, .long (a.2.2.1 0), .ref h5, .ref h6, .int (nI k15), .int (nI k16)]), (h1, aI Y 3640 f0), (h2, aZ Y 2 f1), (h3, aZ Y 80 f3), (h4, aB Y 1600 f4), (h5, aI Y 200 f13), (h6, aI Y 800 f14)]) (mkW [(a0.1 0)] [] [0] [] [] []) ⟨(show (a0.1 0) ≤ (a0.1 0) by omega), (show (a0.1 0) ≤ k5 by have z9 := BY_lt x24 (LET_0 x32); omega), fun _ => by rw [← x24]; exact x32⟩ rfl rfl (fun a90 hI92 IH91 => ?_)
            refine V_lv [(1, .int j21), (0, .ref h0)] [0, 1] rfl ?_
            refine V_ws [(h0, oC 13 [.ref h1, .ref h2, .int p2, .ref h3, .ref h4, .int (nI k5), .int (nI (a90.1 0)), .int p7, .int p8, .int 1, .int (nI (a0.1 0)), .int p11, .long (a90.2.2.1 0), .ref h5, .ref h6, .int (nI k15), .int (nI k16)]), (h1, aI Y 3640 f0), (h2, aZ Y 2 f1), (h3, aZ Y 80 f3), (h4, aB Y 1600 f4), (h5, aI Y 200 f13), (h6, aI Y 800 f14)] rfl ?_
            have x93 := hI92
            refine V_aload_n 125 B dX12_advance_125 1 rfl ?_
            refine V_get 126 B gf_RX12_283 0 rfl rfl dX12_advance_126 ?_
            refine V_iconst 129 B (v := 1) dX12_advance_129 (by decide +kernel) ?_
            refine V_icmp_ne_f 130 B 195 dX12_advance_130 (by decide) (by decide +kernel) ?_
            refine V_aload_n 133 B dX12_advance_133 1 rfl ?_
            refine V_aload_n 134 B dX12_advance_134 1 rfl ?_
            refine V_get 135 B gf_RX12_264 0 rfl rfl dX12_advance_135 ?_
            refine V_cvi 138 B (st := []) (As := [.int (nI (a90.1 0))]) (fun sz => rX12_byteAt l D Y h0 h1 h2 h3 h4 h5 h6 p2 k5 (a90.1 0) p7 p8 1 (a0.1 0) p11 (a90.2.2.1 0) k15 k16 f0 f1 f3 f4 f13 f14 ph HI (by omega) HP (a90.1 0) (by omega) sz) glV_RX12_267 ⟨rfl, rfl⟩ ⟨(Nat.le_of_ble_eq_true rfl), (Nat.le_of_ble_eq_true rfl)⟩ ⟨(Nat.le_of_ble_eq_true rfl), (Nat.le_of_ble_eq_true rfl)⟩ [0, 0, 0, 0, 0, 0, 0] rfl 13 0 rfl rfl rfl rfl (Nat.le_of_ble_eq_true rfl) rfl (fun _ _ _ => rfl) dX12_advance_138 (fun j94 u95 w96 => ?_)
            refine V_ws [(h0, oC 13 [.ref h1, .ref h2, .int p2, .ref h3, .ref h4, .int (nI k5), .int (nI (a90.1 0)), .int p7, .int p8, .int 1, .int (nI (a0.1 0)), .int p11, .long (a90.2.2.1 0), .ref h5, .ref h6, .int (nI k15), .int (nI k16)]), (h1, aI Y 3640 f0), (h2, aZ Y 2 f1), (h3, aZ Y 80 f3), (h4, aB Y 1600 f4), (h5, aI Y 200 f13), (h6, aI Y 800 f14)] rfl ?_
            have x97 := w96
            clear w96
            have x98 : -1 ≤ j94.toInt ∧ j94.toInt ≤ 255 := by rw [x97]; exact BY_rng _ _ _
            refine V_csi 141 B (st := []) (As := [.int j94]) (fun sz => rX12_isLetter l D Y j94 sz) glS_RX12_277 ⟨rfl, rfl⟩ ⟨(Nat.le_of_ble_eq_true rfl), (Nat.le_of_ble_eq_true rfl)⟩ ⟨(Nat.le_of_ble_eq_true rfl), (Nat.le_of_ble_eq_true rfl)⟩ [] rfl rfl (Nat.le_of_ble_eq_true rfl) rfl (fun _ _ _ => rfl) dX12_advance_141 (fun j99 u100 w101 => ?_)
            refine V_ws [(h0, oC 13 [.ref h1, .ref h2, .int p2, .ref h3, .ref h4, .int (nI k5), .int (nI (a90.1 0)), .int p7, .int p8, .int 1, .int (nI (a0.1 0)), .int p11, .long (a90.2.2.1 0), .ref h5, .ref h6, .int (nI k15), .int (nI k16)]), (h1, aI Y 3640 f0), (h2, aZ Y 2 f1), (h3, aZ Y 80 f3), (h4, aB Y 1600 f4), (h5, aI Y 200 f13), (h6, aI Y 800 f14)] rfl ?_
            have x102 := w101
            clear w101
            rcases x102 with ⟨rfl, x103⟩ | ⟨rfl, x103⟩
            ·
              refine V_if_eq_t 144 B 195 dX12_advance_144 (by decide) (by decide +kernel) ?_
              have x104 := adv_lem (P := LET) x97 x103 x93.2.2 x93.1
              refine V_aload_n 195 B dX12_advance_195 1 rfl ?_
              refine V_get 196 B gf_RX12_283 0 rfl rfl dX12_advance_196 ?_
              refine V_iconst 199 B (v := 2) dX12_advance_199 (by decide +kernel) ?_
              refine V_icmp_ne_t 200 B 269 dX12_advance_200 (by decide) (by decide +kernel) ?_
              refine V_aload_n 269 B dX12_advance_269 1 rfl ?_
              refine V_get 270 B gf_RX12_283 0 rfl rfl dX12_advance_270 ?_
              refine V_iconst 273 B (v := 1) dX12_advance_273 (by decide +kernel) ?_
              refine V_icmp_ne_f 274 B 291 dX12_advance_274 (by decide) (by decide +kernel) ?_
              refine V_aload_n 277 B dX12_advance_277 1 rfl ?_
              refine V_get 278 B gf_RX12_264 0 rfl rfl dX12_advance_278 ?_
              refine V_aload_n 281 B dX12_advance_281 1 rfl ?_
              refine V_get 282 B gf_RX12_270 0 rfl rfl dX12_advance_282 ?_
              refine V_isub 285 B dX12_advance_285 rfl ?_
              refine V_nmi (fun j105 e106 => ?_)
              have x107 : j105.toInt = (((a90.1 0) : Nat) : Int) - (((a0.1 0) : Nat) : Int) := by rw [e106]; exact nI_subT (a := (a90.1 0)) (b := (a0.1 0)) (by omega) (by omega)
              refine V_bipush 286 B (v := 8) dX12_advance_286 (by decide +kernel) ?_
              refine V_icmp_gt 288 B 312 dX12_advance_288 (by decide) (fun kk108 => ?_) (fun kk108 => ?_)
              ·
                have x109 := x_lt kk108
                rw [show (8 : Int32).toInt = 8 by decide +kernel] at x109
                refine V_aload_n 312 B dX12_advance_312 1 rfl ?_
                refine V_iconst 313 B (v := 4) dX12_advance_313 (by decide +kernel) ?_
                refine V_put 314 B gp_RX12_283 0 rfl (Nat.le_of_ble_eq_true rfl) rfl rfl dX12_advance_314 [(h0, oC 13 [.ref h1, .ref h2, .int p2, .ref h3, .ref h4, .int (nI k5), .int (nI (a90.1 0)), .int p7, .int p8, .int 4, .int (nI (a0.1 0)), .int p11, .long (a90.2.2.1 0), .ref h5, .ref h6, .int (nI k15), .int (nI k16)]), (h1, aI Y 3640 f0), (h2, aZ Y 2 f1), (h3, aZ Y 80 f3), (h4, aB Y 1600 f4), (h5, aI Y 200 f13), (h6, aI Y 800 f14)] rfl ?_
                exact V_vret 317 B dX12_advance_317 (mkW [(a90.1 0), (a0.1 0)] [4] [(a90.2.2.1 0)] [] [] []) ⟨(show k6 ≤ (a0.1 0) by omega), (show (a0.1 0) ≤ (a90.1 0) by omega), (show (a90.1 0) ≤ k5 by omega), (Or.inr (show (a0.1 0) < (a90.1 0) by first | omega | exact (Or.resolve_left hx2 (by decide))))⟩ rfl
              ·
                have x110 := x_nlt kk108
                rw [show (8 : Int32).toInt = 8 by decide +kernel] at x110
                refine V_aload_n 291 B dX12_advance_291 1 rfl ?_
                refine V_get 292 B gf_RX12_283 0 rfl rfl dX12_advance_292 ?_
                refine V_iconst 295 B (v := 2) dX12_advance_295 (by decide +kernel) ?_
                refine V_icmp_ne_t 296 B 317 dX12_advance_296 (by decide) (by decide +kernel) ?_
                exact V_vret 317 B dX12_advance_317 (mkW [(a90.1 0), (a0.1 0)] [1] [(a90.2.2.1 0)] [] [] []) ⟨(show k6 ≤ (a0.1 0) by omega), (show (a0.1 0) ≤ (a90.1 0) by omega), (show (a90.1 0) ≤ k5 by omega), (Or.inr (show (a0.1 0) < (a90.1 0) by first | omega | exact (Or.resolve_left hx2 (by decide))))⟩ rfl
            ·
              refine V_if_eq_f 144 B 195 dX12_advance_144 (by decide) (by decide +kernel) ?_
              have x111 := BY_lt x97 (LET_0 x103)
              refine V_aload_n 147 B dX12_advance_147 1 rfl ?_
              refine V_get 148 B gf_RX12_264 0 rfl rfl dX12_advance_148 ?_
              refine V_aload_n 151 B dX12_advance_151 1 rfl ?_
              refine V_get 152 B gf_RX12_270 0 rfl rfl dX12_advance_152 ?_
              refine V_isub 155 B dX12_advance_155 rfl ?_
              refine V_nmi (fun j112 e113 => ?_)
              have x114 : j112.toInt = (((a90.1 0) : Nat) : Int) - (((a0.1 0) : Nat) : Int) := by rw [e113]; exact nI_subT (a := (a90.1 0)) (b := (a0.1 0)) (by omega) (by omega)
              refine V_bipush 156 B (v := 8) dX12_advance_156 (by decide +kernel) ?_
              refine V_icmp_ge 158 B 182 dX12_advance_158 (by decide) (fun kk115 => ?_) (fun kk115 => ?_)
              ·
                have x116 := x_le kk115
                rw [show (8 : Int32).toInt = 8 by decide +kernel] at x116
                refine V_aload_n 182 B dX12_advance_182 1 rfl ?_
                refine V_dup 183 B dX12_advance_183 rfl ?_
                refine V_get 184 B gf_RX12_264 0 rfl rfl dX12_advance_184 ?_
                refine V_iconst 187 B (v := 1) dX12_advance_187 (by decide +kernel) ?_
                refine V_iadd 188 B (v := (nI (1 + (a90.1 0)))) dX12_advance_188 (nI_addE (a := (a90.1 0)) (b := 1) (by omega)) ?_
                refine V_put 189 B gp_RX12_264 0 rfl (Nat.le_of_ble_eq_true rfl) rfl rfl dX12_advance_189 [(h0, oC 13 [.ref h1, .ref h2, .int p2, .ref h3, .ref h4, .int (nI k5), .int (nI (1 + (a90.1 0))), .int p7, .int p8, .int 1, .int (nI (a0.1 0)), .int p11, .long (a90.2.2.1 0), .ref h5, .ref h6, .int (nI k15), .int (nI k16)]), (h1, aI Y 3640 f0), (h2, aZ Y 2 f1), (h3, aZ Y 80 f3), (h4, aB Y 1600 f4), (h5, aI Y 200 f13), (h6, aI Y 800 f14)] rfl ?_
                refine V_goto 192 B 125 dX12_advance_192 (by decide) ?_
                refine V_lv [(1, .int j21), (0, .ref h0)] [0, 1] rfl ?_
                exact IH91 (mkW [1 + (a90.1 0)] [] [(a90.2.2.1 0)] [] [] []) ⟨(show (a0.1 0) ≤ 1 + (a90.1 0) by omega), (show 1 + (a90.1 0) ≤ k5 by omega), fun e9 => absurd (show 1 + (a90.1 0) = (a0.1 0) from e9) (by omega)⟩ (by show 100000 - (1 + (a90.1 0)) < _; omega)
              ·
                have x117 := x_nle kk115
                rw [show (8 : Int32).toInt = 8 by decide +kernel] at x117
                refine V_aload_n 161 B dX12_advance_161 1 rfl ?_
                refine V_aload_n 162 B dX12_advance_162 1 rfl ?_
                refine V_get 163 B gf_RX12_273 0 rfl rfl dX12_advance_163 ?_
                refine V_bipush 166 B (v := 7) dX12_advance_166 (by decide +kernel) ?_
                refine V_lshl 168 B dX12_advance_168 rfl ?_
                refine V_nml (fun o118 _ => ?_)
                refine V_aload_n 169 B dX12_advance_169 1 rfl ?_
                refine V_aload_n 170 B dX12_advance_170 1 rfl ?_
                refine V_get 171 B gf_RX12_264 0 rfl rfl dX12_advance_171 ?_
                refine V_cvi 174 B (st := [.long o118, .ref h0]) (As := [.int (nI (a90.1 0))]) (fun sz => rX12_byteAt l D Y h0 h1 h2 h3 h4 h5 h6 p2 k5 (a90.1 0) p7 p8 1 (a0.1 0) p11 (a90.2.2.1 0) k15 k16 f0 f1 f3 f4 f13 f14 ph HI (by omega) HP (a90.1 0) (by omega) sz) glV_RX12_267 ⟨rfl, rfl⟩ ⟨(Nat.le_of_ble_eq_true rfl), (Nat.le_of_ble_eq_true rfl)⟩ ⟨(Nat.le_of_ble_eq_true rfl), (Nat.le_of_ble_eq_true rfl)⟩ [0, 0, 0, 0, 0, 0, 0] rfl 13 0 rfl rfl rfl rfl (Nat.le_of_ble_eq_true rfl) rfl (fun _ _ _ => rfl) dX12_advance_174 (fun j119 u120 w121 => ?_)
                refine V_ws [(h0, oC 13 [.ref h1, .ref h2, .int p2, .ref h3, .ref h4, .int (nI k5), .int (nI (a90.1 0)), .int p7, .int p8, .int 1, .int (nI (a0.1 0)), .int p11, .long (a90.2.2.1 0), .ref h5, .ref h6, .int (nI k15), .int (nI k16)]), (h1, aI Y 3640 f0), (h2, aZ Y 2 f1), (h3, aZ Y 80 f3), (h4, aB Y 1600 f4), (h5, aI Y 200 f13), (h6, aI Y 800 f14)] rfl ?_
                have x122 := w121
                clear w121
                have x123 : -1 ≤ j119.toInt ∧ j119.toInt ≤ 255 := by rw [x122]; exact BY_rng _ _ _
                refine V_i2l 177 B dX12_advance_177 rfl ?_
                refine V_nml (fun o124 e125 => ?_)
                have x126 : o124.toInt = j119.toInt := by rw [e125, Int32.toInt_toInt64]
                refine V_lor 178 B dX12_advance_178 rfl ?_
                refine V_nml (fun o127 e128 => ?_)
                refine V_put 179 B gp_RX12_273 0 rfl (Nat.le_of_ble_eq_true rfl) rfl rfl dX12_advance_179 [(h0, oC 13 [.ref h1, .ref h2, .int p2, .ref h3, .ref h4, .int (nI k5), .int (nI (a90.1 0)), .int p7, .int p8, .int 1, .int (nI (a0.1 0)), .int p11, .long o127, .ref h5, .ref h6, .int (nI k15), .int (nI k16)]), (h1, aI Y 3640 f0), (h2, aZ Y 2 f1), (h3, aZ Y 80 f3), (h4, aB Y 1600 f4), (h5, aI Y 200 f13), (h6, aI Y 800 f14)] rfl ?_
                refine V_aload_n 182 B dX12_advance_182 1 rfl ?_
                refine V_dup 183 B dX12_advance_183 rfl ?_
                refine V_get 184 B gf_RX12_264 0 rfl rfl dX12_advance_184 ?_
                refine V_iconst 187 B (v := 1) dX12_advance_187 (by decide +kernel) ?_
                refine V_iadd 188 B (v := (nI (1 + (a90.1 0)))) dX12_advance_188 (nI_addE (a := (a90.1 0)) (b := 1) (by omega)) ?_
                refine V_put 189 B gp_RX12_264 0 rfl (Nat.le_of_ble_eq_true rfl) rfl rfl dX12_advance_189 [(h0, oC 13 [.ref h1, .ref h2, .int p2, .ref h3, .ref h4, .int (nI k5), .int (nI (1 + (a90.1 0))), .int p7, .int p8, .int 1, .int (nI (a0.1 0)), .int p11, .long o127, .ref h5, .ref h6, .int (nI k15), .int (nI k16)]), (h1, aI Y 3640 f0), (h2, aZ Y 2 f1), (h3, aZ Y 80 f3), (h4, aB Y 1600 f4), (h5, aI Y 200 f13), (h6, aI Y 800 f14)] rfl ?_
                refine V_goto 192 B 125 dX12_advance_192 (by decide) ?_
                refine V_lv [(1, .int j21), (0, .ref h0)] [0, 1] rfl ?_
                exact IH91 (mkW [1 + (a90.1 0)] [] [o127] [] [] []) ⟨(show (a0.1 0) ≤ 1 + (a90.1 0) by omega), (show 1 + (a90.1 0) ≤ k5 by omega), fun e9 => absurd (show 1 + (a90.1 0) = (a0.1 0) from e9) (by omega)⟩ (by show 100000 - (1 + (a90.1 0)) < _; omega)
        ·
          obtain rfl : j21 = (-1) := kk26
          have e130 : ((-1) : Int32).toInt = (-1) := by decide +kernel
          refine V_iconst 67 B (v := 0) dX12_advance_67 (by decide +kernel) ?_
          refine V_goto 68 B 104 dX12_advance_68 (by decide) ?_
          refine V_put 104 B gp_RX12_283 0 rfl (Nat.le_of_ble_eq_true rfl) rfl rfl dX12_advance_104 [(h0, oC 13 [.ref h1, .ref h2, .int p2, .ref h3, .ref h4, .int (nI k5), .int (nI (a0.1 0)), .int p7, .int p8, .int 0, .int (nI (a0.1 0)), .int p11, .long 0, .ref h5, .ref h6, .int (nI k15), .int (nI k16)]), (h1, aI Y 3640 f0), (h2, aZ Y 2 f1), (h3, aZ Y 80 f3), (h4, aB Y 1600 f4), (h5, aI Y 200 f13), (h6, aI Y 800 f14)] rfl ?_
          refine V_aload_n 107 B dX12_advance_107 1 rfl ?_
          refine V_get 108 B gf_RX12_283 0 rfl rfl dX12_advance_108 ?_
          refine V_iconst 111 B (v := 2) dX12_advance_111 (by decide +kernel) ?_
          refine V_icmp_le_t 112 B 125 dX12_advance_112 (by decide) (by decide +kernel) ?_
          refine V_aload_n 125 B dX12_advance_125 1 rfl ?_
          refine V_get 126 B gf_RX12_283 0 rfl rfl dX12_advance_126 ?_
          refine V_iconst 129 B (v := 1) dX12_advance_129 (by decide +kernel) ?_
          refine V_icmp_ne_t 130 B 195 dX12_advance_130 (by decide) (by decide +kernel) ?_
          refine V_aload_n 195 B dX12_advance_195 1 rfl ?_
          refine V_get 196 B gf_RX12_283 0 rfl rfl dX12_advance_196 ?_
          refine V_iconst 199 B (v := 2) dX12_advance_199 (by decide +kernel) ?_
          refine V_icmp_ne_t 200 B 269 dX12_advance_200 (by decide) (by decide +kernel) ?_
          refine V_aload_n 269 B dX12_advance_269 1 rfl ?_
          refine V_get 270 B gf_RX12_283 0 rfl rfl dX12_advance_270 ?_
          refine V_iconst 273 B (v := 1) dX12_advance_273 (by decide +kernel) ?_
          refine V_icmp_ne_t 274 B 291 dX12_advance_274 (by decide) (by decide +kernel) ?_
          refine V_aload_n 291 B dX12_advance_291 1 rfl ?_
          refine V_get 292 B gf_RX12_283 0 rfl rfl dX12_advance_292 ?_
          refine V_iconst 295 B (v := 2) dX12_advance_295 (by decide +kernel) ?_
          refine V_icmp_ne_t 296 B 317 dX12_advance_296 (by decide) (by decide +kernel) ?_
          exact V_vret 317 B dX12_advance_317 (mkW [(a0.1 0), (a0.1 0)] [0] [0] [] [] []) ⟨(show k6 ≤ (a0.1 0) by omega), (show (a0.1 0) ≤ (a0.1 0) by omega), (show (a0.1 0) ≤ k5 by omega), (Or.inl rfl)⟩ rfl
      ·
        obtain rfl : j14 = 10 := kk19
        have e132 : (10 : Int32).toInt = 10 := by decide +kernel
        have x133 : 0 ≤ j4.toInt → (a0.1 0) < k5 := fun z => BY_lt x7 z
        have x134 := BY_lt x17 (by decide +kernel)
        refine V_aload_n 26 B dX12_advance_26 0 rfl ?_
        refine V_dup 27 B dX12_advance_27 rfl ?_
        refine V_get 28 B gf_RX12_264 0 rfl rfl dX12_advance_28 ?_
        refine V_iconst 31 B (v := 1) dX12_advance_31 (by decide +kernel) ?_
        refine V_iadd 32 B (v := (nI (1 + (a0.1 0)))) dX12_advance_32 (nI_addE (a := (a0.1 0)) (b := 1) (by omega)) ?_
        refine V_put 33 B gp_RX12_264 0 rfl (Nat.le_of_ble_eq_true rfl) rfl rfl dX12_advance_33 [(h0, oC 13 [.ref h1, .ref h2, .int p2, .ref h3, .ref h4, .int (nI k5), .int (nI (1 + (a0.1 0))), .int p7, .int p8, .int p9, .int (nI k10), .int p11, .long q12, .ref h5, .ref h6, .int (nI k15), .int (nI k16)]), (h1, aI Y 3640 f0), (h2, aZ Y 2 f1), (h3, aZ Y 80 f3), (h4, aB Y 1600 f4), (h5, aI Y 200 f13), (h6, aI Y 800 f14)] rfl ?_
        refine V_goto 36 B 0 dX12_advance_36 (by decide) ?_
        refine V_lv [(0, .ref h0)] [0] rfl ?_
        exact IH1 (mkW [1 + (a0.1 0)] [] [] [] [] []) (show k6 ≤ 1 + (a0.1 0) ∧ 1 + (a0.1 0) ≤ k5 by omega) (by show 100000 - (1 + (a0.1 0)) < _; omega))
theorem dX12_beginText_0 : decode cX12_beginText 0 = .ok (.aload_n 0, 1) := by decide +kernel
theorem dX12_beginText_1 : decode cX12_beginText 1 = .ok (.iconst 0, 1) := by decide +kernel
theorem dX12_beginText_2 : decode cX12_beginText 2 = .ok (.putfield 246, 3) := by decide +kernel
theorem gp_RX12_246 : GP RX12 246 13 7 .int false := ⟨RX12, TX12, 17, ⟨rfl, inw_X12, Nat.le_of_ble_eq_true rfl, (mT7 144 rfl rfl)⟩, ⟨tyX12, tyX12_ok⟩, nmX12, rfl, by decide +kernel, fun h => nomatch h⟩
theorem dX12_beginText_5 : decode cX12_beginText 5 = .ok (.aload_n 0, 1) := by decide +kernel
theorem dX12_beginText_6 : decode cX12_beginText 6 = .ok (.iconst (-1), 1) := by decide +kernel
theorem dX12_beginText_7 : decode cX12_beginText 7 = .ok (.putfield 24, 3) := by decide +kernel
theorem gp_RX12_24 : GP RX12 24 13 8 .int false := ⟨RX12, TX12, 17, ⟨rfl, inw_X12, Nat.le_of_ble_eq_true rfl, (mT7 145 rfl rfl)⟩, ⟨tyX12, tyX12_ok⟩, nmX12, rfl, by decide +kernel, fun h => nomatch h⟩
theorem dX12_beginText_10 : decode cX12_beginText 10 = .ok (.aload_n 0, 1) := by decide +kernel
theorem dX12_beginText_11 : decode cX12_beginText 11 = .ok (.iconst 0, 1) := by decide +kernel
theorem dX12_beginText_12 : decode cX12_beginText 12 = .ok (.putfield 264, 3) := by decide +kernel
theorem dX12_beginText_15 : decode cX12_beginText 15 = .ok (.aload_n 0, 1) := by decide +kernel
theorem dX12_beginText_16 : decode cX12_beginText 16 = .ok (.invokevirtual 288, 3) := by decide +kernel
theorem glV_RX12_288 : GLV RX12 288 yX12_advance RX12 cX12_advance 2 none 0 := ⟨⟨(mT9 197 rfl rfl), (mT9 199 rfl rfl), (mTs 73 rfl rfl), (mT1 13 rfl rfl), (mT9 200 rfl rfl)⟩, by decide +kernel⟩
theorem dX12_beginText_19 : decode cX12_beginText 19 = .ok (.return_, 1) := by decide +kernel
set_option maxRecDepth 100000 in
set_option maxHeartbeats 4000000 in
theorem rX12_beginText (l : Launch) (D : va_G) (Y : Nat → ClassId) (h0 : Nat) (h1 : Nat) (h2 : Nat) (h3 : Nat) (h4 : Nat) (h5 : Nat) (h6 : Nat) (p2 : Int32) (k5 : Nat) (k6 : Nat) (p7 : Int32) (p8 : Int32) (p9 : Int32) (k10 : Nat) (p11 : Int32) (q12 : Int64) (k15 : Nat) (k16 : Nat) (f0 : Nat → Int32) (f1 : Nat → Int32) (f3 : Nat → Int32) (f4 : Nat → Int32) (f13 : Nat → Int32) (f14 : Nat → Int32) (ph : Nat → Int32) (HI : INV ph f0) (HL : k5 ≤ 1600) (HP : PLV f13)   (sz : Nat) : Met l yX12_beginText (WSm yX12_beginText cX12_beginText 1 none) (mkR 4 0 0 86) (PreC D Y [.ref h0] [(h0, oC 13 [.ref h1, .ref h2, .int p2, .ref h3, .ref h4, .int (nI k5), .int (nI k6), .int p7, .int p8, .int p9, .int (nI k10), .int p11, .long q12, .ref h5, .ref h6, .int (nI k15), .int (nI k16)]), (h1, aI Y 3640 f0), (h2, aZ Y 2 f1), (h3, aZ Y 80 f3), (h4, aB Y 1600 f4), (h5, aI Y 200 f13), (h6, aI Y 800 f14)] sz) (QV D (fun (u : WU) => (u.1 1) ≤ (u.1 0) ∧ (u.1 0) ≤ k5 ∧ ((u.2.1 2) = 0 ∨ (u.1 1) < (u.1 0))) (fun (u : WU) => [(h0, oC 13 [.ref h1, .ref h2, .int p2, .ref h3, .ref h4, .int (nI k5), .int (nI (u.1 0)), .int (u.2.1 0), .int (u.2.1 1), .int (u.2.1 2), .int (nI (u.1 1)), .int p11, .long (u.2.2.1 0), .ref h5, .ref h6, .int (nI k15), .int (nI k16)]), (h1, aI Y 3640 f0), (h2, aZ Y 2 f1), (h3, aZ Y 80 f3), (h4, aB Y 1600 f4), (h5, aI Y 200 f13), (h6, aI Y 800 f14)]) (va_A [(h0, oC 13 [.ref h1, .ref h2, .int p2, .ref h3, .ref h4, .int (nI k5), .int (nI k6), .int p7, .int p8, .int p9, .int (nI k10), .int p11, .long q12, .ref h5, .ref h6, .int (nI k15), .int (nI k16)]), (h1, aI Y 3640 f0), (h2, aZ Y 2 f1), (h3, aZ Y 80 f3), (h4, aB Y 1600 f4), (h5, aI Y 200 f13), (h6, aI Y 800 f14)] sz)) 0 0 (va_A [(h0, oC 13 [.ref h1, .ref h2, .int p2, .ref h3, .ref h4, .int (nI k5), .int (nI k6), .int p7, .int p8, .int p9, .int (nI k10), .int p11, .long q12, .ref h5, .ref h6, .int (nI k15), .int (nI k16)]), (h1, aI Y 3640 f0), (h2, aZ Y 2 f1), (h3, aZ Y 80 f3), (h4, aB Y 1600 f4), (h5, aI Y 200 f13), (h6, aI Y 800 f14)] sz) :=
  met_of  (by decide +kernel) (Nat.le_of_ble_eq_true rfl) (fun p e s m args below meth c B hin hsz => by
    have B : VB p s m args meth c D Y (va_A [(h0, oC 13 [.ref h1, .ref h2, .int p2, .ref h3, .ref h4, .int (nI k5), .int (nI k6), .int p7, .int p8, .int p9, .int (nI k10), .int p11, .long q12, .ref h5, .ref h6, .int (nI k15), .int (nI k16)]), (h1, aI Y 3640 f0), (h2, aZ Y 2 f1), (h3, aZ Y 80 f3), (h4, aB Y 1600 f4), (h5, aI Y 200 f13), (h6, aI Y 800 f14)] sz) cX12_beginText 1 RX12 none := B
    refine V_aload_n 0 B dX12_beginText_0 0 rfl ?_
    refine V_iconst 1 B (v := 0) dX12_beginText_1 (by decide +kernel) ?_
    refine V_put 2 B gp_RX12_246 0 rfl (Nat.le_of_ble_eq_true rfl) rfl rfl dX12_beginText_2 [(h0, oC 13 [.ref h1, .ref h2, .int p2, .ref h3, .ref h4, .int (nI k5), .int (nI k6), .int 0, .int p8, .int p9, .int (nI k10), .int p11, .long q12, .ref h5, .ref h6, .int (nI k15), .int (nI k16)]), (h1, aI Y 3640 f0), (h2, aZ Y 2 f1), (h3, aZ Y 80 f3), (h4, aB Y 1600 f4), (h5, aI Y 200 f13), (h6, aI Y 800 f14)] rfl ?_
    refine V_aload_n 5 B dX12_beginText_5 0 rfl ?_
    refine V_iconst 6 B (v := (-1)) dX12_beginText_6 (by decide +kernel) ?_
    refine V_put 7 B gp_RX12_24 0 rfl (Nat.le_of_ble_eq_true rfl) rfl rfl dX12_beginText_7 [(h0, oC 13 [.ref h1, .ref h2, .int p2, .ref h3, .ref h4, .int (nI k5), .int (nI k6), .int 0, .int (-1), .int p9, .int (nI k10), .int p11, .long q12, .ref h5, .ref h6, .int (nI k15), .int (nI k16)]), (h1, aI Y 3640 f0), (h2, aZ Y 2 f1), (h3, aZ Y 80 f3), (h4, aB Y 1600 f4), (h5, aI Y 200 f13), (h6, aI Y 800 f14)] rfl ?_
    refine V_aload_n 10 B dX12_beginText_10 0 rfl ?_
    refine V_iconst 11 B (v := 0) dX12_beginText_11 (by decide +kernel) ?_
    refine V_put 12 B gp_RX12_264 0 rfl (Nat.le_of_ble_eq_true rfl) rfl rfl dX12_beginText_12 [(h0, oC 13 [.ref h1, .ref h2, .int p2, .ref h3, .ref h4, .int (nI k5), .int 0, .int 0, .int (-1), .int p9, .int (nI k10), .int p11, .long q12, .ref h5, .ref h6, .int (nI k15), .int (nI k16)]), (h1, aI Y 3640 f0), (h2, aZ Y 2 f1), (h3, aZ Y 80 f3), (h4, aB Y 1600 f4), (h5, aI Y 200 f13), (h6, aI Y 800 f14)] rfl ?_
    refine V_aload_n 15 B dX12_beginText_15 0 rfl ?_
    refine V_cvv 16 B (st := []) (As := []) (fun sz => rX12_advance l D Y h0 h1 h2 h3 h4 h5 h6 p2 k5 0 0 (-1) p9 k10 p11 q12 k15 k16 f0 f1 f3 f4 f13 f14 ph HI (by omega) HP (by omega) sz) glV_RX12_288 ⟨rfl, rfl⟩ ⟨(Nat.le_of_ble_eq_true rfl), (Nat.le_of_ble_eq_true rfl)⟩ ⟨(Nat.le_of_ble_eq_true rfl), (Nat.le_of_ble_eq_true rfl)⟩ [0, 0, 0, 0, 0, 0, 0] rfl 13 0 rfl rfl rfl rfl (Nat.le_of_ble_eq_true rfl) rfl (fun _ _ => rfl) dX12_beginText_16 (fun u1 w2 => ?_)
    refine V_ws [(h0, oC 13 [.ref h1, .ref h2, .int p2, .ref h3, .ref h4, .int (nI k5), .int (nI (u1.1 0)), .int 0, .int (-1), .int (u1.2.1 0), .int (nI (u1.1 1)), .int p11, .long (u1.2.2.1 0), .ref h5, .ref h6, .int (nI k15), .int (nI k16)]), (h1, aI Y 3640 f0), (h2, aZ Y 2 f1), (h3, aZ Y 80 f3), (h4, aB Y 1600 f4), (h5, aI Y 200 f13), (h6, aI Y 800 f14)] rfl ?_
    obtain ⟨x3, x4, x5, x6⟩ := w2
    exact V_vret 19 B dX12_beginText_19 (mkW [(u1.1 0), (u1.1 1)] [0, (-1), (u1.2.1 0)] [(u1.2.2.1 0)] [] [] []) ⟨(show (u1.1 1) ≤ (u1.1 0) by omega), (show (u1.1 0) ≤ k5 by omega), (show ((u1.2.1 0) = 0 ∨ (u1.1 1) < (u1.1 0)) by first | assumption | exact Or.inr (by omega))⟩ rfl)
theorem dX12_fail_0 : decode cX12_fail 0 = .ok (.aload_n 0, 1) := by decide +kernel
theorem dX12_fail_1 : decode cX12_fail 1 = .ok (.iload_n 1, 1) := by decide +kernel
theorem dX12_fail_2 : decode cX12_fail 2 = .ok (.putfield 246, 3) := by decide +kernel
theorem dX12_fail_5 : decode cX12_fail 5 = .ok (.aload_n 0, 1) := by decide +kernel
theorem dX12_fail_6 : decode cX12_fail 6 = .ok (.aload_n 0, 1) := by decide +kernel
theorem dX12_fail_7 : decode cX12_fail 7 = .ok (.getfield 270, 3) := by decide +kernel
theorem dX12_fail_10 : decode cX12_fail 10 = .ok (.putfield 24, 3) := by decide +kernel
theorem dX12_fail_13 : decode cX12_fail 13 = .ok (.iconst 0, 1) := by decide +kernel
theorem dX12_fail_14 : decode cX12_fail 14 = .ok (.ireturn, 1) := by decide +kernel
set_option maxRecDepth 100000 in
set_option maxHeartbeats 4000000 in
theorem rX12_fail (l : Launch) (D : va_G) (Y : Nat → ClassId) (h0 : Nat) (h1 : Nat) (h2 : Nat) (h3 : Nat) (h4 : Nat) (h5 : Nat) (h6 : Nat) (p2 : Int32) (k5 : Nat) (k6 : Nat) (p7 : Int32) (p8 : Int32) (p9 : Int32) (k10 : Nat) (p11 : Int32) (q12 : Int64) (k15 : Nat) (k16 : Nat) (f0 : Nat → Int32) (f1 : Nat → Int32) (f3 : Nat → Int32) (f4 : Nat → Int32) (f13 : Nat → Int32) (f14 : Nat → Int32) (ph : Nat → Int32) (HI : INV ph f0) (HL : k5 ≤ 1600) (HP : PLV f13) (s0 : Int32)  (sz : Nat) : Met l yX12_fail (WSm yX12_fail cX12_fail 2 (some .boolean)) (mkR 0 0 0 0) (PreC D Y [.ref h0, .int s0] [(h0, oC 13 [.ref h1, .ref h2, .int p2, .ref h3, .ref h4, .int (nI k5), .int (nI k6), .int p7, .int p8, .int p9, .int (nI k10), .int p11, .long q12, .ref h5, .ref h6, .int (nI k15), .int (nI k16)]), (h1, aI Y 3640 f0), (h2, aZ Y 2 f1), (h3, aZ Y 80 f3), (h4, aB Y 1600 f4), (h5, aI Y 200 f13), (h6, aI Y 800 f14)] sz) (QI D (fun (r : Int32) (u : WU) => r = 0) (fun (u : WU) => [(h0, oC 13 [.ref h1, .ref h2, .int p2, .ref h3, .ref h4, .int (nI k5), .int (nI k6), .int (u.2.1 0), .int (u.2.1 1), .int p9, .int (nI k10), .int p11, .long q12, .ref h5, .ref h6, .int (nI k15), .int (nI k16)]), (h1, aI Y 3640 f0), (h2, aZ Y 2 f1), (h3, aZ Y 80 f3), (h4, aB Y 1600 f4), (h5, aI Y 200 f13), (h6, aI Y 800 f14)]) (va_A [(h0, oC 13 [.ref h1, .ref h2, .int p2, .ref h3, .ref h4, .int (nI k5), .int (nI k6), .int p7, .int p8, .int p9, .int (nI k10), .int p11, .long q12, .ref h5, .ref h6, .int (nI k15), .int (nI k16)]), (h1, aI Y 3640 f0), (h2, aZ Y 2 f1), (h3, aZ Y 80 f3), (h4, aB Y 1600 f4), (h5, aI Y 200 f13), (h6, aI Y 800 f14)] sz)) 0 0 (va_A [(h0, oC 13 [.ref h1, .ref h2, .int p2, .ref h3, .ref h4, .int (nI k5), .int (nI k6), .int p7, .int p8, .int p9, .int (nI k10), .int p11, .long q12, .ref h5, .ref h6, .int (nI k15), .int (nI k16)]), (h1, aI Y 3640 f0), (h2, aZ Y 2 f1), (h3, aZ Y 80 f3), (h4, aB Y 1600 f4), (h5, aI Y 200 f13), (h6, aI Y 800 f14)] sz) :=
  met_of  (by decide +kernel) (Nat.le_of_ble_eq_true rfl) (fun p e s m args below meth c B hin hsz => by
    have B : VB p s m args meth c D Y (va_A [(h0, oC 13 [.ref h1, .ref h2, .int p2, .ref h3, .ref h4, .int (nI k5), .int (nI k6), .int p7, .int p8, .int p9, .int (nI k10), .int p11, .long q12, .ref h5, .ref h6, .int (nI k15), .int (nI k16)]), (h1, aI Y 3640 f0), (h2, aZ Y 2 f1), (h3, aZ Y 80 f3), (h4, aB Y 1600 f4), (h5, aI Y 200 f13), (h6, aI Y 800 f14)] sz) cX12_fail 2 RX12 (some .boolean) := B
    refine V_aload_n 0 B dX12_fail_0 0 rfl ?_
    refine V_iload_n 1 B dX12_fail_1 1 rfl ?_
    refine V_put 2 B gp_RX12_246 0 rfl (Nat.le_of_ble_eq_true rfl) rfl rfl dX12_fail_2 [(h0, oC 13 [.ref h1, .ref h2, .int p2, .ref h3, .ref h4, .int (nI k5), .int (nI k6), .int s0, .int p8, .int p9, .int (nI k10), .int p11, .long q12, .ref h5, .ref h6, .int (nI k15), .int (nI k16)]), (h1, aI Y 3640 f0), (h2, aZ Y 2 f1), (h3, aZ Y 80 f3), (h4, aB Y 1600 f4), (h5, aI Y 200 f13), (h6, aI Y 800 f14)] rfl ?_
    refine V_aload_n 5 B dX12_fail_5 0 rfl ?_
    refine V_aload_n 6 B dX12_fail_6 0 rfl ?_
    refine V_get 7 B gf_RX12_270 0 rfl rfl dX12_fail_7 ?_
    refine V_put 10 B gp_RX12_24 0 rfl (Nat.le_of_ble_eq_true rfl) rfl rfl dX12_fail_10 [(h0, oC 13 [.ref h1, .ref h2, .int p2, .ref h3, .ref h4, .int (nI k5), .int (nI k6), .int s0, .int (nI k10), .int p9, .int (nI k10), .int p11, .long q12, .ref h5, .ref h6, .int (nI k15), .int (nI k16)]), (h1, aI Y 3640 f0), (h2, aZ Y 2 f1), (h3, aZ Y 80 f3), (h4, aB Y 1600 f4), (h5, aI Y 200 f13), (h6, aI Y 800 f14)] rfl ?_
    refine V_iconst 13 B (v := 0) dX12_fail_13 (by decide +kernel) ?_
    exact V_zret 14 B rfl dX12_fail_14 (mkW [] [s0, (nI k10)] [] [] [] []) rfl rfl)
theorem dX12_failAt_0 : decode cX12_failAt 0 = .ok (.aload_n 0, 1) := by decide +kernel
theorem dX12_failAt_1 : decode cX12_failAt 1 = .ok (.iload_n 1, 1) := by decide +kernel
theorem dX12_failAt_2 : decode cX12_failAt 2 = .ok (.putfield 246, 3) := by decide +kernel
theorem dX12_failAt_5 : decode cX12_failAt 5 = .ok (.aload_n 0, 1) := by decide +kernel
theorem dX12_failAt_6 : decode cX12_failAt 6 = .ok (.iload_n 2, 1) := by decide +kernel
theorem dX12_failAt_7 : decode cX12_failAt 7 = .ok (.putfield 24, 3) := by decide +kernel
theorem dX12_failAt_10 : decode cX12_failAt 10 = .ok (.iconst 0, 1) := by decide +kernel
theorem dX12_failAt_11 : decode cX12_failAt 11 = .ok (.ireturn, 1) := by decide +kernel
set_option maxRecDepth 100000 in
set_option maxHeartbeats 4000000 in
theorem rX12_failAt (l : Launch) (D : va_G) (Y : Nat → ClassId) (h0 : Nat) (h1 : Nat) (h2 : Nat) (h3 : Nat) (h4 : Nat) (h5 : Nat) (h6 : Nat) (p2 : Int32) (k5 : Nat) (k6 : Nat) (p7 : Int32) (p8 : Int32) (p9 : Int32) (k10 : Nat) (p11 : Int32) (q12 : Int64) (k15 : Nat) (k16 : Nat) (f0 : Nat → Int32) (f1 : Nat → Int32) (f3 : Nat → Int32) (f4 : Nat → Int32) (f13 : Nat → Int32) (f14 : Nat → Int32) (ph : Nat → Int32) (HI : INV ph f0) (HL : k5 ≤ 1600) (HP : PLV f13) (s0 : Int32) (s1 : Int32)  (sz : Nat) : Met l yX12_failAt (WSm yX12_failAt cX12_failAt 3 (some .boolean)) (mkR 0 0 0 0) (PreC D Y [.ref h0, .int s0, .int s1] [(h0, oC 13 [.ref h1, .ref h2, .int p2, .ref h3, .ref h4, .int (nI k5), .int (nI k6), .int p7, .int p8, .int p9, .int (nI k10), .int p11, .long q12, .ref h5, .ref h6, .int (nI k15), .int (nI k16)]), (h1, aI Y 3640 f0), (h2, aZ Y 2 f1), (h3, aZ Y 80 f3), (h4, aB Y 1600 f4), (h5, aI Y 200 f13), (h6, aI Y 800 f14)] sz) (QI D (fun (r : Int32) (u : WU) => r = 0) (fun (u : WU) => [(h0, oC 13 [.ref h1, .ref h2, .int p2, .ref h3, .ref h4, .int (nI k5), .int (nI k6), .int (u.2.1 0), .int (u.2.1 1), .int p9, .int (nI k10), .int p11, .long q12, .ref h5, .ref h6, .int (nI k15), .int (nI k16)]), (h1, aI Y 3640 f0), (h2, aZ Y 2 f1), (h3, aZ Y 80 f3), (h4, aB Y 1600 f4), (h5, aI Y 200 f13), (h6, aI Y 800 f14)]) (va_A [(h0, oC 13 [.ref h1, .ref h2, .int p2, .ref h3, .ref h4, .int (nI k5), .int (nI k6), .int p7, .int p8, .int p9, .int (nI k10), .int p11, .long q12, .ref h5, .ref h6, .int (nI k15), .int (nI k16)]), (h1, aI Y 3640 f0), (h2, aZ Y 2 f1), (h3, aZ Y 80 f3), (h4, aB Y 1600 f4), (h5, aI Y 200 f13), (h6, aI Y 800 f14)] sz)) 0 0 (va_A [(h0, oC 13 [.ref h1, .ref h2, .int p2, .ref h3, .ref h4, .int (nI k5), .int (nI k6), .int p7, .int p8, .int p9, .int (nI k10), .int p11, .long q12, .ref h5, .ref h6, .int (nI k15), .int (nI k16)]), (h1, aI Y 3640 f0), (h2, aZ Y 2 f1), (h3, aZ Y 80 f3), (h4, aB Y 1600 f4), (h5, aI Y 200 f13), (h6, aI Y 800 f14)] sz) :=
  met_of  (by decide +kernel) (Nat.le_of_ble_eq_true rfl) (fun p e s m args below meth c B hin hsz => by
    have B : VB p s m args meth c D Y (va_A [(h0, oC 13 [.ref h1, .ref h2, .int p2, .ref h3, .ref h4, .int (nI k5), .int (nI k6), .int p7, .int p8, .int p9, .int (nI k10), .int p11, .long q12, .ref h5, .ref h6, .int (nI k15), .int (nI k16)]), (h1, aI Y 3640 f0), (h2, aZ Y 2 f1), (h3, aZ Y 80 f3), (h4, aB Y 1600 f4), (h5, aI Y 200 f13), (h6, aI Y 800 f14)] sz) cX12_failAt 3 RX12 (some .boolean) := B
    refine V_aload_n 0 B dX12_failAt_0 0 rfl ?_
    refine V_iload_n 1 B dX12_failAt_1 1 rfl ?_
    refine V_put 2 B gp_RX12_246 0 rfl (Nat.le_of_ble_eq_true rfl) rfl rfl dX12_failAt_2 [(h0, oC 13 [.ref h1, .ref h2, .int p2, .ref h3, .ref h4, .int (nI k5), .int (nI k6), .int s0, .int p8, .int p9, .int (nI k10), .int p11, .long q12, .ref h5, .ref h6, .int (nI k15), .int (nI k16)]), (h1, aI Y 3640 f0), (h2, aZ Y 2 f1), (h3, aZ Y 80 f3), (h4, aB Y 1600 f4), (h5, aI Y 200 f13), (h6, aI Y 800 f14)] rfl ?_
    refine V_aload_n 5 B dX12_failAt_5 0 rfl ?_
    refine V_iload_n 6 B dX12_failAt_6 2 rfl ?_
    refine V_put 7 B gp_RX12_24 0 rfl (Nat.le_of_ble_eq_true rfl) rfl rfl dX12_failAt_7 [(h0, oC 13 [.ref h1, .ref h2, .int p2, .ref h3, .ref h4, .int (nI k5), .int (nI k6), .int s0, .int s1, .int p9, .int (nI k10), .int p11, .long q12, .ref h5, .ref h6, .int (nI k15), .int (nI k16)]), (h1, aI Y 3640 f0), (h2, aZ Y 2 f1), (h3, aZ Y 80 f3), (h4, aB Y 1600 f4), (h5, aI Y 200 f13), (h6, aI Y 800 f14)] rfl ?_
    refine V_iconst 10 B (v := 0) dX12_failAt_10 (by decide +kernel) ?_
    exact V_zret 11 B rfl dX12_failAt_11 (mkW [] [s0, s1] [] [] [] []) rfl rfl)
theorem dX12_readNumber_0 : decode cX12_readNumber 0 = .ok (.aload_n 0, 1) := by decide +kernel
theorem dX12_readNumber_1 : decode cX12_readNumber 1 = .ok (.getfield 283, 3) := by decide +kernel
theorem dX12_readNumber_4 : decode cX12_readNumber 4 = .ok (.iconst 2, 1) := by decide +kernel
theorem dX12_readNumber_5 : decode cX12_readNumber 5 = .ok (.if_icmp .eq 9, 3) := by decide +kernel
theorem dX12_readNumber_14 : decode cX12_readNumber 14 = .ok (.aload_n 0, 1) := by decide +kernel
theorem dX12_readNumber_15 : decode cX12_readNumber 15 = .ok (.getfield 273, 3) := by decide +kernel
theorem dX12_readNumber_18 : decode cX12_readNumber 18 = .ok (.iload_n 1, 1) := by decide +kernel
theorem dX12_readNumber_19 : decode cX12_readNumber 19 = .ok (.i2l, 1) := by decide +kernel
theorem dX12_readNumber_20 : decode cX12_readNumber 20 = .ok (.iload_n 2, 1) := by decide +kernel
theorem dX12_readNumber_21 : decode cX12_readNumber 21 = .ok (.i2l, 1) := by decide +kernel
theorem dX12_readNumber_22 : decode cX12_readNumber 22 = .ok (.invokestatic 41, 3) := by decide +kernel
theorem dX12_readNumber_25 : decode cX12_readNumber 25 = .ok (.ifCond .ne 9, 3) := by decide +kernel
theorem dX12_readNumber_28 : decode cX12_readNumber 28 = .ok (.aload_n 0, 1) := by decide +kernel
theorem dX12_readNumber_29 : decode cX12_readNumber 29 = .ok (.iconst 2, 1) := by decide +kernel
theorem dX12_readNumber_30 : decode cX12_readNumber 30 = .ok (.invokevirtual 291, 3) := by decide +kernel
theorem glV_RX12_291 : GLV RX12 291 yX12_fail RX12 cX12_fail 2 (some .boolean) 1 := ⟨⟨(mT9 236 rfl rfl), (mT9 238 rfl rfl), (mTs 78 rfl rfl), (mT1 13 rfl rfl), (mT9 239 rfl rfl)⟩, by decide +kernel⟩
theorem dX12_readNumber_33 : decode cX12_readNumber 33 = .ok (.ireturn, 1) := by decide +kernel
theorem dX12_readNumber_34 : decode cX12_readNumber 34 = .ok (.aload_n 0, 1) := by decide +kernel
theorem dX12_readNumber_35 : decode cX12_readNumber 35 = .ok (.aload_n 0, 1) := by decide +kernel
theorem dX12_readNumber_36 : decode cX12_readNumber 36 = .ok (.getfield 273, 3) := by decide +kernel
theorem dX12_readNumber_39 : decode cX12_readNumber 39 = .ok (.l2i, 1) := by decide +kernel
theorem dX12_readNumber_40 : decode cX12_readNumber 40 = .ok (.putfield 294, 3) := by decide +kernel
theorem gp_RX12_294 : GP RX12 294 13 11 .int false := ⟨RX12, TX12, 17, ⟨rfl, inw_X12, Nat.le_of_ble_eq_true rfl, (mT7 148 rfl rfl)⟩, ⟨tyX12, tyX12_ok⟩, nmX12, rfl, by decide +kernel, fun h => nomatch h⟩
theorem dX12_readNumber_43 : decode cX12_readNumber 43 = .ok (.aload_n 0, 1) := by decide +kernel
theorem dX12_readNumber_44 : decode cX12_readNumber 44 = .ok (.invokevirtual 288, 3) := by decide +kernel
theorem dX12_readNumber_47 : decode cX12_readNumber 47 = .ok (.iconst 1, 1) := by decide +kernel
theorem dX12_readNumber_48 : decode cX12_readNumber 48 = .ok (.ireturn, 1) := by decide +kernel
theorem dX12_readNumber_8 : decode cX12_readNumber 8 = .ok (.aload_n 0, 1) := by decide +kernel
theorem dX12_readNumber_9 : decode cX12_readNumber 9 = .ok (.iconst 1, 1) := by decide +kernel
theorem dX12_readNumber_10 : decode cX12_readNumber 10 = .ok (.invokevirtual 291, 3) := by decide +kernel
theorem dX12_readNumber_13 : decode cX12_readNumber 13 = .ok (.ireturn, 1) := by decide +kernel
set_option maxRecDepth 100000 in
set_option maxHeartbeats 4000000 in
theorem rX12_readNumber (l : Launch) (D : va_G) (Y : Nat → ClassId) (h0 : Nat) (h1 : Nat) (h2 : Nat) (h3 : Nat) (h4 : Nat) (h5 : Nat) (h6 : Nat) (p2 : Int32) (k5 : Nat) (k6 : Nat) (p7 : Int32) (p8 : Int32) (p9 : Int32) (k10 : Nat) (p11 : Int32) (q12 : Int64) (k15 : Nat) (k16 : Nat) (f0 : Nat → Int32) (f1 : Nat → Int32) (f3 : Nat → Int32) (f4 : Nat → Int32) (f13 : Nat → Int32) (f14 : Nat → Int32) (ph : Nat → Int32) (HI : INV ph f0) (HL : k5 ≤ 1600) (HP : PLV f13) (s0 : Int32) (s1 : Int32) (hx0 : k10 ≤ k6) (hx1 : k6 ≤ k5) (hx2 : (p9 = 0 ∨ k10 < k6)) (hx3 : 0 ≤ s0.toInt) (sz : Nat) : Met l yX12_readNumber (WSm yX12_readNumber cX12_readNumber 3 (some .boolean)) (mkR 4 0 0 86) (PreC D Y [.ref h0, .int s0, .int s1] [(h0, oC 13 [.ref h1, .ref h2, .int p2, .ref h3, .ref h4, .int (nI k5), .int (nI k6), .int p7, .int p8, .int p9, .int (nI k10), .int p11, .long q12, .ref h5, .ref h6, .int (nI k15), .int (nI k16)]), (h1, aI Y 3640 f0), (h2, aZ Y 2 f1), (h3, aZ Y 80 f3), (h4, aB Y 1600 f4), (h5, aI Y 200 f13), (h6, aI Y 800 f14)] sz) (QI D (fun (r : Int32) (u : WU) => (r = 0 ∨ (r = 1 ∧ k10 < (u.1 1) ∧ s0.toInt ≤ (u.2.1 3).toInt ∧ (u.2.1 3).toInt ≤ s1.toInt)) ∧ k10 ≤ (u.1 1) ∧ (u.1 1) ≤ (u.1 0) ∧ (u.1 0) ≤ k5 ∧ ((u.2.1 2) = 0 ∨ (u.1 1) < (u.1 0))) (fun (u : WU) => [(h0, oC 13 [.ref h1, .ref h2, .int p2, .ref h3, .ref h4, .int (nI k5), .int (nI (u.1 0)), .int (u.2.1 0), .int (u.2.1 1), .int (u.2.1 2), .int (nI (u.1 1)), .int (u.2.1 3), .long (u.2.2.1 0), .ref h5, .ref h6, .int (nI k15), .int (nI k16)]), (h1, aI Y 3640 f0), (h2, aZ Y 2 f1), (h3, aZ Y 80 f3), (h4, aB Y 1600 f4), (h5, aI Y 200 f13), (h6, aI Y 800 f14)]) (va_A [(h0, oC 13 [.ref h1, .ref h2, .int p2, .ref h3, .ref h4, .int (nI k5), .int (nI k6), .int p7, .int p8, .int p9, .int (nI k10), .int p11, .long q12, .ref h5, .ref h6, .int (nI k15), .int (nI k16)]), (h1, aI Y 3640 f0), (h2, aZ Y 2 f1), (h3, aZ Y 80 f3), (h4, aB Y 1600 f4), (h5, aI Y 200 f13), (h6, aI Y 800 f14)] sz)) 0 0 (va_A [(h0, oC 13 [.ref h1, .ref h2, .int p2, .ref h3, .ref h4, .int (nI k5), .int (nI k6), .int p7, .int p8, .int p9, .int (nI k10), .int p11, .long q12, .ref h5, .ref h6, .int (nI k15), .int (nI k16)]), (h1, aI Y 3640 f0), (h2, aZ Y 2 f1), (h3, aZ Y 80 f3), (h4, aB Y 1600 f4), (h5, aI Y 200 f13), (h6, aI Y 800 f14)] sz) :=
  met_of  (by decide +kernel) (Nat.le_of_ble_eq_true rfl) (fun p e s m args below meth c B hin hsz => by
    have B : VB p s m args meth c D Y (va_A [(h0, oC 13 [.ref h1, .ref h2, .int p2, .ref h3, .ref h4, .int (nI k5), .int (nI k6), .int p7, .int p8, .int p9, .int (nI k10), .int p11, .long q12, .ref h5, .ref h6, .int (nI k15), .int (nI k16)]), (h1, aI Y 3640 f0), (h2, aZ Y 2 f1), (h3, aZ Y 80 f3), (h4, aB Y 1600 f4), (h5, aI Y 200 f13), (h6, aI Y 800 f14)] sz) cX12_readNumber 3 RX12 (some .boolean) := B
    refine V_aload_n 0 B dX12_readNumber_0 0 rfl ?_
    refine V_get 1 B gf_RX12_283 0 rfl rfl dX12_readNumber_1 ?_
    refine V_iconst 4 B (v := 2) dX12_readNumber_4 (by decide +kernel) ?_
    refine V_icmp_eq 5 B 14 dX12_readNumber_5 (by decide) (fun kk0 => ?_) (fun kk0 => ?_)
    ·
      obtain rfl : p9 = 2 := kk0
      have e2 : (2 : Int32).toInt = 2 := by decide +kernel
      refine V_aload_n 14 B dX12_readNumber_14 0 rfl ?_
      refine V_get 15 B gf_RX12_273 0 rfl rfl dX12_readNumber_15 ?_
      refine V_iload_n 18 B dX12_readNumber_18 1 rfl ?_
      refine V_i2l 19 B dX12_readNumber_19 rfl ?_
      refine V_nml (fun o3 e4 => ?_)
      have x5 : o3.toInt = s0.toInt := by rw [e4, Int32.toInt_toInt64]
      refine V_iload_n 20 B dX12_readNumber_20 2 rfl ?_
      refine V_i2l 21 B dX12_readNumber_21 rfl ?_
      refine V_nml (fun o6 e7 => ?_)
      have x8 : o6.toInt = s1.toInt := by rw [e7, Int32.toInt_toInt64]
      refine V_csi 22 B (st := []) (As := [.long q12, .long o3, .long o6]) (fun sz => rX12_inRange l D Y q12 o3 o6 sz) glS_RX12_41 ⟨rfl, rfl⟩ ⟨(Nat.le_of_ble_eq_true rfl), (Nat.le_of_ble_eq_true rfl)⟩ ⟨(Nat.le_of_ble_eq_true rfl), (Nat.le_of_ble_eq_true rfl)⟩ [] rfl rfl (Nat.le_of_ble_eq_true rfl) rfl (fun _ _ _ => rfl) dX12_readNumber_22 (fun j9 u10 w11 => ?_)
      refine V_ws [(h0, oC 13 [.ref h1, .ref h2, .int p2, .ref h3, .ref h4, .int (nI k5), .int (nI k6), .int p7, .int p8, .int 2, .int (nI k10), .int p11, .long q12, .ref h5, .ref h6, .int (nI k15), .int (nI k16)]), (h1, aI Y 3640 f0), (h2, aZ Y 2 f1), (h3, aZ Y 80 f3), (h4, aB Y 1600 f4), (h5, aI Y 200 f13), (h6, aI Y 800 f14)] rfl ?_
      rcases w11 with ⟨rfl, x14⟩ | ⟨rfl, x12, x13⟩
      ·
        refine V_if_ne_f 25 B 34 dX12_readNumber_25 (by decide) (by decide +kernel) ?_
        refine V_aload_n 28 B dX12_readNumber_28 0 rfl ?_
        refine V_iconst 29 B (v := 2) dX12_readNumber_29 (by decide +kernel) ?_
        refine V_cvi 30 B (st := []) (As := [.int 2]) (fun sz => rX12_fail l D Y h0 h1 h2 h3 h4 h5 h6 p2 k5 k6 p7 p8 2 k10 p11 q12 k15 k16 f0 f1 f3 f4 f13 f14 ph HI (by omega) HP 2 sz) glV_RX12_291 ⟨rfl, rfl⟩ ⟨(Nat.le_of_ble_eq_true rfl), (Nat.le_of_ble_eq_true rfl)⟩ ⟨(Nat.le_of_ble_eq_true rfl), (Nat.le_of_ble_eq_true rfl)⟩ [0, 0, 0, 0, 0, 0, 0] rfl 13 0 rfl rfl rfl rfl (Nat.le_of_ble_eq_true rfl) rfl (fun _ _ _ => rfl) dX12_readNumber_30 (fun j15 u16 w17 => ?_)
        refine V_ws [(h0, oC 13 [.ref h1, .ref h2, .int p2, .ref h3, .ref h4, .int (nI k5), .int (nI k6), .int (u16.2.1 0), .int (u16.2.1 1), .int 2, .int (nI k10), .int p11, .long q12, .ref h5, .ref h6, .int (nI k15), .int (nI k16)]), (h1, aI Y 3640 f0), (h2, aZ Y 2 f1), (h3, aZ Y 80 f3), (h4, aB Y 1600 f4), (h5, aI Y 200 f13), (h6, aI Y 800 f14)] rfl ?_
        have x18 := w17
        clear w17
        obtain rfl := x18
        exact V_zret 33 B rfl dX12_readNumber_33 (mkW [k6, k10] [(u16.2.1 0), (u16.2.1 1), 2, p11] [q12] [] [] []) ⟨(Or.inl rfl), (show k10 ≤ k10 by omega), (show k10 ≤ k6 by omega), (show k6 ≤ k5 by omega), (Or.inr (show k10 < k6 by first | omega | exact (Or.resolve_left hx2 (by decide))))⟩ rfl
      ·
        refine V_if_ne_t 25 B 34 dX12_readNumber_25 (by decide) (by decide +kernel) ?_
        refine V_aload_n 34 B dX12_readNumber_34 0 rfl ?_
        refine V_aload_n 35 B dX12_readNumber_35 0 rfl ?_
        refine V_get 36 B gf_RX12_273 0 rfl rfl dX12_readNumber_36 ?_
        refine V_l2i 39 B dX12_readNumber_39 rfl ?_
        refine V_nmi (fun j19 e20 => ?_)
        have x21 : j19.toInt = q12.toInt := by rw [e20]; exact l2i_rng (h := s1.toInt) (by omega) (by omega) (i_hi _)
        have x22 : k10 < k6 := by
          rcases hx2 with z | z
          · first | contradiction | exact absurd z (by decide) | omega
          · exact z
        refine V_put 40 B gp_RX12_294 0 rfl (Nat.le_of_ble_eq_true rfl) rfl rfl dX12_readNumber_40 [(h0, oC 13 [.ref h1, .ref h2, .int p2, .ref h3, .ref h4, .int (nI k5), .int (nI k6), .int p7, .int p8, .int 2, .int (nI k10), .int j19, .long q12, .ref h5, .ref h6, .int (nI k15), .int (nI k16)]), (h1, aI Y 3640 f0), (h2, aZ Y 2 f1), (h3, aZ Y 80 f3), (h4, aB Y 1600 f4), (h5, aI Y 200 f13), (h6, aI Y 800 f14)] rfl ?_
        refine V_aload_n 43 B dX12_readNumber_43 0 rfl ?_
        refine V_cvv 44 B (st := []) (As := []) (fun sz => rX12_advance l D Y h0 h1 h2 h3 h4 h5 h6 p2 k5 k6 p7 p8 2 k10 j19 q12 k15 k16 f0 f1 f3 f4 f13 f14 ph HI (by omega) HP (by omega) sz) glV_RX12_288 ⟨rfl, rfl⟩ ⟨(Nat.le_of_ble_eq_true rfl), (Nat.le_of_ble_eq_true rfl)⟩ ⟨(Nat.le_of_ble_eq_true rfl), (Nat.le_of_ble_eq_true rfl)⟩ [0, 0, 0, 0, 0, 0, 0] rfl 13 0 rfl rfl rfl rfl (Nat.le_of_ble_eq_true rfl) rfl (fun _ _ => rfl) dX12_readNumber_44 (fun u24 w25 => ?_)
        refine V_ws [(h0, oC 13 [.ref h1, .ref h2, .int p2, .ref h3, .ref h4, .int (nI k5), .int (nI (u24.1 0)), .int p7, .int p8, .int (u24.2.1 0), .int (nI (u24.1 1)), .int j19, .long (u24.2.2.1 0), .ref h5, .ref h6, .int (nI k15), .int (nI k16)]), (h1, aI Y 3640 f0), (h2, aZ Y 2 f1), (h3, aZ Y 80 f3), (h4, aB Y 1600 f4), (h5, aI Y 200 f13), (h6, aI Y 800 f14)] rfl ?_
        obtain ⟨x26, x27, x28, x29⟩ := w25
        refine V_iconst 47 B (v := 1) dX12_readNumber_47 (by decide +kernel) ?_
        exact V_zret 48 B rfl dX12_readNumber_48 (mkW [(u24.1 0), (u24.1 1)] [p7, p8, (u24.2.1 0), j19] [(u24.2.2.1 0)] [] [] []) ⟨(Or.inr ⟨rfl, (show k10 < (u24.1 1) by omega), (show s0.toInt ≤ (j19 : Int32).toInt ∧ (j19 : Int32).toInt ≤ s1.toInt by omega)⟩), (show k10 ≤ (u24.1 1) by omega), (show (u24.1 1) ≤ (u24.1 0) by omega), (show (u24.1 0) ≤ k5 by omega), (show ((u24.2.1 0) = 0 ∨ (u24.1 1) < (u24.1 0)) by first | assumption | exact Or.inr (by omega))⟩ rfl
    ·
      have x30 := x_ne kk0
      rw [show (2 : Int32).toInt = 2 by decide +kernel] at x30
      refine V_aload_n 8 B dX12_readNumber_8 0 rfl ?_
      refine V_iconst 9 B (v := 1) dX12_readNumber_9 (by decide +kernel) ?_
      refine V_cvi 10 B (st := []) (As := [.int 1]) (fun sz => rX12_fail l D Y h0 h1 h2 h3 h4 h5 h6 p2 k5 k6 p7 p8 p9 k10 p11 q12 k15 k16 f0 f1 f3 f4 f13 f14 ph HI (by omega) HP 1 sz) glV_RX12_291 ⟨rfl, rfl⟩ ⟨(Nat.le_of_ble_eq_true rfl), (Nat.le_of_ble_eq_true rfl)⟩ ⟨(Nat.le_of_ble_eq_true rfl), (Nat.le_of_ble_eq_true rfl)⟩ [0, 0, 0, 0, 0, 0, 0] rfl 13 0 rfl rfl rfl rfl (Nat.le_of_ble_eq_true rfl) rfl (fun _ _ _ => rfl) dX12_readNumber_10 (fun j31 u32 w33 => ?_)
      refine V_ws [(h0, oC 13 [.ref h1, .ref h2, .int p2, .ref h3, .ref h4, .int (nI k5), .int (nI k6), .int (u32.2.1 0), .int (u32.2.1 1), .int p9, .int (nI k10), .int p11, .long q12, .ref h5, .ref h6, .int (nI k15), .int (nI k16)]), (h1, aI Y 3640 f0), (h2, aZ Y 2 f1), (h3, aZ Y 80 f3), (h4, aB Y 1600 f4), (h5, aI Y 200 f13), (h6, aI Y 800 f14)] rfl ?_
      have x34 := w33
      clear w33
      obtain rfl := x34
      exact V_zret 13 B rfl dX12_readNumber_13 (mkW [k6, k10] [(u32.2.1 0), (u32.2.1 1), p9, p11] [q12] [] [] []) ⟨(Or.inl rfl), (show k10 ≤ k10 by omega), (show k10 ≤ k6 by omega), (show k6 ≤ k5 by omega), (show (p9 = 0 ∨ k10 < k6) by first | assumption | exact Or.inr (by omega))⟩ rfl)
theorem dX12_readEnd_0 : decode cX12_readEnd 0 = .ok (.aload_n 0, 1) := by decide +kernel
theorem dX12_readEnd_1 : decode cX12_readEnd 1 = .ok (.getfield 283, 3) := by decide +kernel
theorem dX12_readEnd_4 : decode cX12_readEnd 4 = .ok (.iconst 3, 1) := by decide +kernel
theorem dX12_readEnd_5 : decode cX12_readEnd 5 = .ok (.if_icmp .eq 9, 3) := by decide +kernel
theorem dX12_readEnd_14 : decode cX12_readEnd 14 = .ok (.aload_n 0, 1) := by decide +kernel
theorem dX12_readEnd_15 : decode cX12_readEnd 15 = .ok (.invokevirtual 288, 3) := by decide +kernel
theorem dX12_readEnd_18 : decode cX12_readEnd 18 = .ok (.iconst 1, 1) := by decide +kernel
theorem dX12_readEnd_19 : decode cX12_readEnd 19 = .ok (.ireturn, 1) := by decide +kernel
theorem dX12_readEnd_8 : decode cX12_readEnd 8 = .ok (.aload_n 0, 1) := by decide +kernel
theorem dX12_readEnd_9 : decode cX12_readEnd 9 = .ok (.iconst 1, 1) := by decide +kernel
theorem dX12_readEnd_10 : decode cX12_readEnd 10 = .ok (.invokevirtual 291, 3) := by decide +kernel
theorem dX12_readEnd_13 : decode cX12_readEnd 13 = .ok (.ireturn, 1) := by decide +kernel
set_option maxRecDepth 100000 in
set_option maxHeartbeats 4000000 in
theorem rX12_readEnd (l : Launch) (D : va_G) (Y : Nat → ClassId) (h0 : Nat) (h1 : Nat) (h2 : Nat) (h3 : Nat) (h4 : Nat) (h5 : Nat) (h6 : Nat) (p2 : Int32) (k5 : Nat) (k6 : Nat) (p7 : Int32) (p8 : Int32) (p9 : Int32) (k10 : Nat) (p11 : Int32) (q12 : Int64) (k15 : Nat) (k16 : Nat) (f0 : Nat → Int32) (f1 : Nat → Int32) (f3 : Nat → Int32) (f4 : Nat → Int32) (f13 : Nat → Int32) (f14 : Nat → Int32) (ph : Nat → Int32) (HI : INV ph f0) (HL : k5 ≤ 1600) (HP : PLV f13)  (hx0 : k10 ≤ k6) (hx1 : k6 ≤ k5) (hx2 : (p9 = 0 ∨ k10 < k6)) (sz : Nat) : Met l yX12_readEnd (WSm yX12_readEnd cX12_readEnd 1 (some .boolean)) (mkR 4 0 0 86) (PreC D Y [.ref h0] [(h0, oC 13 [.ref h1, .ref h2, .int p2, .ref h3, .ref h4, .int (nI k5), .int (nI k6), .int p7, .int p8, .int p9, .int (nI k10), .int p11, .long q12, .ref h5, .ref h6, .int (nI k15), .int (nI k16)]), (h1, aI Y 3640 f0), (h2, aZ Y 2 f1), (h3, aZ Y 80 f3), (h4, aB Y 1600 f4), (h5, aI Y 200 f13), (h6, aI Y 800 f14)] sz) (QI D (fun (r : Int32) (u : WU) => (r = 0 ∨ (r = 1 ∧ k10 < (u.1 1))) ∧ k10 ≤ (u.1 1) ∧ (u.1 1) ≤ (u.1 0) ∧ (u.1 0) ≤ k5 ∧ ((u.2.1 2) = 0 ∨ (u.1 1) < (u.1 0))) (fun (u : WU) => [(h0, oC 13 [.ref h1, .ref h2, .int p2, .ref h3, .ref h4, .int (nI k5), .int (nI (u.1 0)), .int (u.2.1 0), .int (u.2.1 1), .int (u.2.1 2), .int (nI (u.1 1)), .int p11, .long (u.2.2.1 0), .ref h5, .ref h6, .int (nI k15), .int (nI k16)]), (h1, aI Y 3640 f0), (h2, aZ Y 2 f1), (h3, aZ Y 80 f3), (h4, aB Y 1600 f4), (h5, aI Y 200 f13), (h6, aI Y 800 f14)]) (va_A [(h0, oC 13 [.ref h1, .ref h2, .int p2, .ref h3, .ref h4, .int (nI k5), .int (nI k6), .int p7, .int p8, .int p9, .int (nI k10), .int p11, .long q12, .ref h5, .ref h6, .int (nI k15), .int (nI k16)]), (h1, aI Y 3640 f0), (h2, aZ Y 2 f1), (h3, aZ Y 80 f3), (h4, aB Y 1600 f4), (h5, aI Y 200 f13), (h6, aI Y 800 f14)] sz)) 0 0 (va_A [(h0, oC 13 [.ref h1, .ref h2, .int p2, .ref h3, .ref h4, .int (nI k5), .int (nI k6), .int p7, .int p8, .int p9, .int (nI k10), .int p11, .long q12, .ref h5, .ref h6, .int (nI k15), .int (nI k16)]), (h1, aI Y 3640 f0), (h2, aZ Y 2 f1), (h3, aZ Y 80 f3), (h4, aB Y 1600 f4), (h5, aI Y 200 f13), (h6, aI Y 800 f14)] sz) :=
  met_of  (by decide +kernel) (Nat.le_of_ble_eq_true rfl) (fun p e s m args below meth c B hin hsz => by
    have B : VB p s m args meth c D Y (va_A [(h0, oC 13 [.ref h1, .ref h2, .int p2, .ref h3, .ref h4, .int (nI k5), .int (nI k6), .int p7, .int p8, .int p9, .int (nI k10), .int p11, .long q12, .ref h5, .ref h6, .int (nI k15), .int (nI k16)]), (h1, aI Y 3640 f0), (h2, aZ Y 2 f1), (h3, aZ Y 80 f3), (h4, aB Y 1600 f4), (h5, aI Y 200 f13), (h6, aI Y 800 f14)] sz) cX12_readEnd 1 RX12 (some .boolean) := B
    refine V_aload_n 0 B dX12_readEnd_0 0 rfl ?_
    refine V_get 1 B gf_RX12_283 0 rfl rfl dX12_readEnd_1 ?_
    refine V_iconst 4 B (v := 3) dX12_readEnd_4 (by decide +kernel) ?_
    refine V_icmp_eq 5 B 14 dX12_readEnd_5 (by decide) (fun kk0 => ?_) (fun kk0 => ?_)
    ·
      obtain rfl : p9 = 3 := kk0
      have e2 : (3 : Int32).toInt = 3 := by decide +kernel
      have x3 : k10 < k6 := by
        rcases hx2 with z | z
        · first | contradiction | exact absurd z (by decide) | omega
        · exact z
      refine V_aload_n 14 B dX12_readEnd_14 0 rfl ?_
      refine V_cvv 15 B (st := []) (As := []) (fun sz => rX12_advance l D Y h0 h1 h2 h3 h4 h5 h6 p2 k5 k6 p7 p8 3 k10 p11 q12 k15 k16 f0 f1 f3 f4 f13 f14 ph HI (by omega) HP (by omega) sz) glV_RX12_288 ⟨rfl, rfl⟩ ⟨(Nat.le_of_ble_eq_true rfl), (Nat.le_of_ble_eq_true rfl)⟩ ⟨(Nat.le_of_ble_eq_true rfl), (Nat.le_of_ble_eq_true rfl)⟩ [0, 0, 0, 0, 0, 0, 0] rfl 13 0 rfl rfl rfl rfl (Nat.le_of_ble_eq_true rfl) rfl (fun _ _ => rfl) dX12_readEnd_15 (fun u5 w6 => ?_)
      refine V_ws [(h0, oC 13 [.ref h1, .ref h2, .int p2, .ref h3, .ref h4, .int (nI k5), .int (nI (u5.1 0)), .int p7, .int p8, .int (u5.2.1 0), .int (nI (u5.1 1)), .int p11, .long (u5.2.2.1 0), .ref h5, .ref h6, .int (nI k15), .int (nI k16)]), (h1, aI Y 3640 f0), (h2, aZ Y 2 f1), (h3, aZ Y 80 f3), (h4, aB Y 1600 f4), (h5, aI Y 200 f13), (h6, aI Y 800 f14)] rfl ?_
      obtain ⟨x7, x8, x9, x10⟩ := w6
      refine V_iconst 18 B (v := 1) dX12_readEnd_18 (by decide +kernel) ?_
      exact V_zret 19 B rfl dX12_readEnd_19 (mkW [(u5.1 0), (u5.1 1)] [p7, p8, (u5.2.1 0)] [(u5.2.2.1 0)] [] [] []) ⟨(Or.inr ⟨rfl, (show k10 < (u5.1 1) by omega)⟩), (show k10 ≤ (u5.1 1) by omega), (show (u5.1 1) ≤ (u5.1 0) by omega), (show (u5.1 0) ≤ k5 by omega), (show ((u5.2.1 0) = 0 ∨ (u5.1 1) < (u5.1 0)) by first | assumption | exact Or.inr (by omega))⟩ rfl
    ·
      have x11 := x_ne kk0
      rw [show (3 : Int32).toInt = 3 by decide +kernel] at x11
      refine V_aload_n 8 B dX12_readEnd_8 0 rfl ?_
      refine V_iconst 9 B (v := 1) dX12_readEnd_9 (by decide +kernel) ?_
      refine V_cvi 10 B (st := []) (As := [.int 1]) (fun sz => rX12_fail l D Y h0 h1 h2 h3 h4 h5 h6 p2 k5 k6 p7 p8 p9 k10 p11 q12 k15 k16 f0 f1 f3 f4 f13 f14 ph HI (by omega) HP 1 sz) glV_RX12_291 ⟨rfl, rfl⟩ ⟨(Nat.le_of_ble_eq_true rfl), (Nat.le_of_ble_eq_true rfl)⟩ ⟨(Nat.le_of_ble_eq_true rfl), (Nat.le_of_ble_eq_true rfl)⟩ [0, 0, 0, 0, 0, 0, 0] rfl 13 0 rfl rfl rfl rfl (Nat.le_of_ble_eq_true rfl) rfl (fun _ _ _ => rfl) dX12_readEnd_10 (fun j12 u13 w14 => ?_)
      refine V_ws [(h0, oC 13 [.ref h1, .ref h2, .int p2, .ref h3, .ref h4, .int (nI k5), .int (nI k6), .int (u13.2.1 0), .int (u13.2.1 1), .int p9, .int (nI k10), .int p11, .long q12, .ref h5, .ref h6, .int (nI k15), .int (nI k16)]), (h1, aI Y 3640 f0), (h2, aZ Y 2 f1), (h3, aZ Y 80 f3), (h4, aB Y 1600 f4), (h5, aI Y 200 f13), (h6, aI Y 800 f14)] rfl ?_
      have x15 := w14
      clear w14
      obtain rfl := x15
      exact V_zret 13 B rfl dX12_readEnd_13 (mkW [k6, k10] [(u13.2.1 0), (u13.2.1 1), p9] [q12] [] [] []) ⟨(Or.inl rfl), (show k10 ≤ k10 by omega), (show k10 ≤ k6 by omega), (show k6 ≤ k5 by omega), (show (p9 = 0 ∨ k10 < k6) by first | assumption | exact Or.inr (by omega))⟩ rfl)
theorem dX12_pack_0 : decode cX12_pack 0 = .ok (.iload_n 0, 1) := by decide +kernel
theorem dX12_pack_1 : decode cX12_pack 1 = .ok (.i2l, 1) := by decide +kernel
theorem dX12_pack_2 : decode cX12_pack 2 = .ok (.bipush 7, 2) := by decide +kernel
theorem dX12_pack_4 : decode cX12_pack 4 = .ok (.lshl, 1) := by decide +kernel
theorem dX12_pack_5 : decode cX12_pack 5 = .ok (.iload_n 1, 1) := by decide +kernel
theorem dX12_pack_6 : decode cX12_pack 6 = .ok (.i2l, 1) := by decide +kernel
theorem dX12_pack_7 : decode cX12_pack 7 = .ok (.lor, 1) := by decide +kernel
theorem dX12_pack_8 : decode cX12_pack 8 = .ok (.bipush 14, 2) := by decide +kernel
theorem dX12_pack_10 : decode cX12_pack 10 = .ok (.lshl, 1) := by decide +kernel
theorem dX12_pack_11 : decode cX12_pack 11 = .ok (.iload_n 2, 1) := by decide +kernel
theorem dX12_pack_12 : decode cX12_pack 12 = .ok (.bipush 7, 2) := by decide +kernel
theorem dX12_pack_14 : decode cX12_pack 14 = .ok (.ishl, 1) := by decide +kernel
theorem dX12_pack_15 : decode cX12_pack 15 = .ok (.i2l, 1) := by decide +kernel
theorem dX12_pack_16 : decode cX12_pack 16 = .ok (.lor, 1) := by decide +kernel
theorem dX12_pack_17 : decode cX12_pack 17 = .ok (.iload_n 3, 1) := by decide +kernel
theorem dX12_pack_18 : decode cX12_pack 18 = .ok (.i2l, 1) := by decide +kernel
theorem dX12_pack_19 : decode cX12_pack 19 = .ok (.lor, 1) := by decide +kernel
theorem dX12_pack_20 : decode cX12_pack 20 = .ok (.lstore 6, 2) := by decide +kernel
theorem dX12_pack_22 : decode cX12_pack 22 = .ok (.iload 4, 2) := by decide +kernel
theorem dX12_pack_24 : decode cX12_pack 24 = .ok (.ifCond .ne 8, 3) := by decide +kernel
theorem dX12_pack_32 : decode cX12_pack 32 = .ok (.lload 6, 2) := by decide +kernel
theorem dX12_pack_34 : decode cX12_pack 34 = .ok (.bipush 7, 2) := by decide +kernel
theorem dX12_pack_36 : decode cX12_pack 36 = .ok (.lshl, 1) := by decide +kernel
theorem dX12_pack_37 : decode cX12_pack 37 = .ok (.iload 4, 2) := by decide +kernel
theorem dX12_pack_39 : decode cX12_pack 39 = .ok (.i2l, 1) := by decide +kernel
theorem dX12_pack_40 : decode cX12_pack 40 = .ok (.lor, 1) := by decide +kernel
theorem dX12_pack_41 : decode cX12_pack 41 = .ok (.lstore 6, 2) := by decide +kernel
theorem dX12_pack_43 : decode cX12_pack 43 = .ok (.iload 5, 2) := by decide +kernel
theorem dX12_pack_45 : decode cX12_pack 45 = .ok (.ifCond .ne 8, 3) := by decide +kernel
theorem dX12_pack_53 : decode cX12_pack 53 = .ok (.lload 6, 2) := by decide +kernel
theorem dX12_pack_55 : decode cX12_pack 55 = .ok (.bipush 7, 2) := by decide +kernel
theorem dX12_pack_57 : decode cX12_pack 57 = .ok (.lshl, 1) := by decide +kernel
theorem dX12_pack_58 : decode cX12_pack 58 = .ok (.iload 5, 2) := by decide +kernel
theorem dX12_pack_60 : decode cX12_pack 60 = .ok (.i2l, 1) := by decide +kernel
theorem dX12_pack_61 : decode cX12_pack 61 = .ok (.lor, 1) := by decide +kernel
theorem dX12_pack_62 : decode cX12_pack 62 = .ok (.lreturn, 1) := by decide +kernel
theorem dX12_pack_48 : decode cX12_pack 48 = .ok (.lload 6, 2) := by decide +kernel
theorem dX12_pack_50 : decode cX12_pack 50 = .ok (.goto 12, 3) := by decide +kernel
theorem dX12_pack_27 : decode cX12_pack 27 = .ok (.lload 6, 2) := by decide +kernel
theorem dX12_pack_29 : decode cX12_pack 29 = .ok (.goto 12, 3) := by decide +kernel
set_option maxRecDepth 100000 in
set_option maxHeartbeats 4000000 in
theorem rX12_pack (l : Launch) (D : va_G) (Y : Nat → ClassId)  (s0 : Int32) (s1 : Int32) (s2 : Int32) (s3 : Int32) (s4 : Int32) (s5 : Int32)  (sz : Nat) : Met l yX12_pack (WSm yX12_pack cX12_pack 8 (some .long)) (mkR 0 0 0 0) (PreC D Y [.int s0, .int s1, .int s2, .int s3, .int s4, .int s5] [] sz) (QJ D (fun (r : Int64) (u : WU) => True) (fun (u : WU) => []) (va_A [] sz)) 0 0 (va_A [] sz) :=
  met_of  (by decide +kernel) (Nat.le_of_ble_eq_true rfl) (fun p e s m args below meth c B hin hsz => by
    have B : VB p s m args meth c D Y (va_A [] sz) cX12_pack 8 RX12 (some .long) := B
    refine V_iload_n 0 B dX12_pack_0 0 rfl ?_
    refine V_i2l 1 B dX12_pack_1 rfl ?_
    refine V_nml (fun o0 e1 => ?_)
    have x2 : o0.toInt = s0.toInt := by rw [e1, Int32.toInt_toInt64]
    refine V_bipush 2 B (v := 7) dX12_pack_2 (by decide +kernel) ?_
    refine V_lshl 4 B dX12_pack_4 rfl ?_
    refine V_nml (fun o3 _ => ?_)
    refine V_iload_n 5 B dX12_pack_5 1 rfl ?_
    refine V_i2l 6 B dX12_pack_6 rfl ?_
    refine V_nml (fun o4 e5 => ?_)
    have x6 : o4.toInt = s1.toInt := by rw [e5, Int32.toInt_toInt64]
    refine V_lor 7 B dX12_pack_7 rfl ?_
    refine V_nml (fun o7 e8 => ?_)
    refine V_bipush 8 B (v := 14) dX12_pack_8 (by decide +kernel) ?_
    refine V_lshl 10 B dX12_pack_10 rfl ?_
    refine V_nml (fun o9 _ => ?_)
    refine V_iload_n 11 B dX12_pack_11 2 rfl ?_
    refine V_bipush 12 B (v := 7) dX12_pack_12 (by decide +kernel) ?_
    refine V_ishl 14 B dX12_pack_14 rfl ?_
    refine V_nmi (fun j10 _ => ?_)
    refine V_i2l 15 B dX12_pack_15 rfl ?_
    refine V_nml (fun o11 e12 => ?_)
    have x13 : o11.toInt = j10.toInt := by rw [e12, Int32.toInt_toInt64]
    refine V_lor 16 B dX12_pack_16 rfl ?_
    refine V_nml (fun o14 e15 => ?_)
    refine V_iload_n 17 B dX12_pack_17 3 rfl ?_
    refine V_i2l 18 B dX12_pack_18 rfl ?_
    refine V_nml (fun o16 e17 => ?_)
    have x18 : o16.toInt = s3.toInt := by rw [e17, Int32.toInt_toInt64]
    refine V_lor 19 B dX12_pack_19 rfl ?_
    refine V_nml (fun o19 e20 => ?_)
    refine V_lstore 20 B (lv2 := [(6, .long o19), (0, .int s0), (1, .int s1), (2, .int s2), (3, .int s3), (4, .int s4), (5, .int s5)]) dX12_pack_20 (by decide) rfl ?_
    refine V_iload 22 B dX12_pack_22 5 rfl ?_
    refine V_if_ne 24 B 32 dX12_pack_24 (by decide) (fun kk21 => ?_) (fun kk21 => ?_)
    ·
      have x22 := x_ne kk21
      rw [show (0 : Int32).toInt = 0 by decide +kernel] at x22
      refine V_lload 32 B dX12_pack_32 0 rfl ?_
      refine V_bipush 34 B (v := 7) dX12_pack_34 (by decide +kernel) ?_
      refine V_lshl 36 B dX12_pack_36 rfl ?_
      refine V_nml (fun o23 _ => ?_)
      refine V_iload 37 B dX12_pack_37 5 rfl ?_
      refine V_i2l 39 B dX12_pack_39 rfl ?_
      refine V_nml (fun o24 e25 => ?_)
      have x26 : o24.toInt = s4.toInt := by rw [e25, Int32.toInt_toInt64]
      refine V_lor 40 B dX12_pack_40 rfl ?_
      refine V_nml (fun o27 e28 => ?_)
      refine V_lstore 41 B (lv2 := [(6, .long o27), (0, .int s0), (1, .int s1), (2, .int s2), (3, .int s3), (4, .int s4), (5, .int s5)]) dX12_pack_41 (by decide) rfl ?_
      refine V_iload 43 B dX12_pack_43 6 rfl ?_
      refine V_if_ne 45 B 53 dX12_pack_45 (by decide) (fun kk29 => ?_) (fun kk29 => ?_)
      ·
        have x30 := x_ne kk29
        rw [show (0 : Int32).toInt = 0 by decide +kernel] at x30
        refine V_lload 53 B dX12_pack_53 0 rfl ?_
        refine V_bipush 55 B (v := 7) dX12_pack_55 (by decide +kernel) ?_
        refine V_lshl 57 B dX12_pack_57 rfl ?_
        refine V_nml (fun o31 _ => ?_)
        refine V_iload 58 B dX12_pack_58 6 rfl ?_
        refine V_i2l 60 B dX12_pack_60 rfl ?_
        refine V_nml (fun o32 e33 => ?_)
        have x34 : o32.toInt = s5.toInt := by rw [e33, Int32.toInt_toInt64]
        refine V_lor 61 B dX12_pack_61 rfl ?_
        refine V_nml (fun o35 e36 => ?_)
        exact V_lret 62 B dX12_pack_62 (mkW [] [] [] [] [] []) trivial rfl
      ·
        obtain rfl : s5 = 0 := kk29
        have e38 : (0 : Int32).toInt = 0 := by decide +kernel
        refine V_lload 48 B dX12_pack_48 0 rfl ?_
        refine V_goto 50 B 62 dX12_pack_50 (by decide) ?_
        exact V_lret 62 B dX12_pack_62 (mkW [] [] [] [] [] []) trivial rfl
    ·
      obtain rfl : s4 = 0 := kk21
      have e40 : (0 : Int32).toInt = 0 := by decide +kernel
      refine V_lload 27 B dX12_pack_27 0 rfl ?_
      refine V_goto 29 B 41 dX12_pack_29 (by decide) ?_
      refine V_lstore 41 B (lv2 := [(6, .long o19), (0, .int s0), (1, .int s1), (2, .int s2), (3, .int s3), (4, .int 0), (5, .int s5)]) dX12_pack_41 (by decide) rfl ?_
      refine V_iload 43 B dX12_pack_43 6 rfl ?_
      refine V_if_ne 45 B 53 dX12_pack_45 (by decide) (fun kk41 => ?_) (fun kk41 => ?_)
      ·
        have x42 := x_ne kk41
        rw [show (0 : Int32).toInt = 0 by decide +kernel] at x42
        refine V_lload 53 B dX12_pack_53 0 rfl ?_
        refine V_bipush 55 B (v := 7) dX12_pack_55 (by decide +kernel) ?_
        refine V_lshl 57 B dX12_pack_57 rfl ?_
        refine V_nml (fun o43 _ => ?_)
        refine V_iload 58 B dX12_pack_58 6 rfl ?_
        refine V_i2l 60 B dX12_pack_60 rfl ?_
        refine V_nml (fun o44 e45 => ?_)
        have x46 : o44.toInt = s5.toInt := by rw [e45, Int32.toInt_toInt64]
        refine V_lor 61 B dX12_pack_61 rfl ?_
        refine V_nml (fun o47 e48 => ?_)
        exact V_lret 62 B dX12_pack_62 (mkW [] [] [] [] [] []) trivial rfl
      ·
        obtain rfl : s5 = 0 := kk41
        have e50 : (0 : Int32).toInt = 0 := by decide +kernel
        refine V_lload 48 B dX12_pack_48 0 rfl ?_
        refine V_goto 50 B 62 dX12_pack_50 (by decide) ?_
        exact V_lret 62 B dX12_pack_62 (mkW [] [] [] [] [] []) trivial rfl)
theorem dX12_isWord_0 : decode cX12_isWord 0 = .ok (.aload_n 0, 1) := by decide +kernel
theorem dX12_isWord_1 : decode cX12_isWord 1 = .ok (.getfield 283, 3) := by decide +kernel
theorem dX12_isWord_4 : decode cX12_isWord 4 = .ok (.iconst 1, 1) := by decide +kernel
theorem dX12_isWord_5 : decode cX12_isWord 5 = .ok (.if_icmp .ne 16, 3) := by decide +kernel
theorem dX12_isWord_21 : decode cX12_isWord 21 = .ok (.iconst 0, 1) := by decide +kernel
theorem dX12_isWord_22 : decode cX12_isWord 22 = .ok (.ireturn, 1) := by decide +kernel
theorem dX12_isWord_8 : decode cX12_isWord 8 = .ok (.aload_n 0, 1) := by decide +kernel
theorem dX12_isWord_9 : decode cX12_isWord 9 = .ok (.getfield 273, 3) := by decide +kernel
theorem dX12_isWord_12 : decode cX12_isWord 12 = .ok (.lload_n 1, 1) := by decide +kernel
theorem dX12_isWord_13 : decode cX12_isWord 13 = .ok (.lcmp, 1) := by decide +kernel
theorem dX12_isWord_14 : decode cX12_isWord 14 = .ok (.ifCond .ne 7, 3) := by decide +kernel
theorem dX12_isWord_17 : decode cX12_isWord 17 = .ok (.iconst 1, 1) := by decide +kernel
theorem dX12_isWord_18 : decode cX12_isWord 18 = .ok (.goto 4, 3) := by decide +kernel
set_option maxRecDepth 100000 in
set_option maxHeartbeats 4000000 in
theorem rX12_isWord (l : Launch) (D : va_G) (Y : Nat → ClassId) (h0 : Nat) (h1 : Nat) (h2 : Nat) (h3 : Nat) (h4 : Nat) (h5 : Nat) (h6 : Nat) (p2 : Int32) (k5 : Nat) (k6 : Nat) (p7 : Int32) (p8 : Int32) (p9 : Int32) (k10 : Nat) (p11 : Int32) (q12 : Int64) (k15 : Nat) (k16 : Nat) (f0 : Nat → Int32) (f1 : Nat → Int32) (f3 : Nat → Int32) (f4 : Nat → Int32) (f13 : Nat → Int32) (f14 : Nat → Int32) (ph : Nat → Int32) (HI : INV ph f0) (HL : k5 ≤ 1600) (HP : PLV f13) (s0 : Int64)  (sz : Nat) : Met l yX12_isWord (WSm yX12_isWord cX12_isWord 3 (some .boolean)) (mkR 0 0 0 0) (PreC D Y [.ref h0, .long s0] [(h0, oC 13 [.ref h1, .ref h2, .int p2, .ref h3, .ref h4, .int (nI k5), .int (nI k6), .int p7, .int p8, .int p9, .int (nI k10), .int p11, .long q12, .ref h5, .ref h6, .int (nI k15), .int (nI k16)]), (h1, aI Y 3640 f0), (h2, aZ Y 2 f1), (h3, aZ Y 80 f3), (h4, aB Y 1600 f4), (h5, aI Y 200 f13), (h6, aI Y 800 f14)] sz) (QI D (fun (r : Int32) (u : WU) => (r = 0 ∨ r = 1)) (fun (u : WU) => [(h0, oC 13 [.ref h1, .ref h2, .int p2, .ref h3, .ref h4, .int (nI k5), .int (nI k6), .int p7, .int p8, .int p9, .int (nI k10), .int p11, .long q12, .ref h5, .ref h6, .int (nI k15), .int (nI k16)]), (h1, aI Y 3640 f0), (h2, aZ Y 2 f1), (h3, aZ Y 80 f3), (h4, aB Y 1600 f4), (h5, aI Y 200 f13), (h6, aI Y 800 f14)]) (va_A [(h0, oC 13 [.ref h1, .ref h2, .int p2, .ref h3, .ref h4, .int (nI k5), .int (nI k6), .int p7, .int p8, .int p9, .int (nI k10), .int p11, .long q12, .ref h5, .ref h6, .int (nI k15), .int (nI k16)]), (h1, aI Y 3640 f0), (h2, aZ Y 2 f1), (h3, aZ Y 80 f3), (h4, aB Y 1600 f4), (h5, aI Y 200 f13), (h6, aI Y 800 f14)] sz)) 0 0 (va_A [(h0, oC 13 [.ref h1, .ref h2, .int p2, .ref h3, .ref h4, .int (nI k5), .int (nI k6), .int p7, .int p8, .int p9, .int (nI k10), .int p11, .long q12, .ref h5, .ref h6, .int (nI k15), .int (nI k16)]), (h1, aI Y 3640 f0), (h2, aZ Y 2 f1), (h3, aZ Y 80 f3), (h4, aB Y 1600 f4), (h5, aI Y 200 f13), (h6, aI Y 800 f14)] sz) :=
  met_of  (by decide +kernel) (Nat.le_of_ble_eq_true rfl) (fun p e s m args below meth c B hin hsz => by
    have B : VB p s m args meth c D Y (va_A [(h0, oC 13 [.ref h1, .ref h2, .int p2, .ref h3, .ref h4, .int (nI k5), .int (nI k6), .int p7, .int p8, .int p9, .int (nI k10), .int p11, .long q12, .ref h5, .ref h6, .int (nI k15), .int (nI k16)]), (h1, aI Y 3640 f0), (h2, aZ Y 2 f1), (h3, aZ Y 80 f3), (h4, aB Y 1600 f4), (h5, aI Y 200 f13), (h6, aI Y 800 f14)] sz) cX12_isWord 3 RX12 (some .boolean) := B
    refine V_aload_n 0 B dX12_isWord_0 0 rfl ?_
    refine V_get 1 B gf_RX12_283 0 rfl rfl dX12_isWord_1 ?_
    refine V_iconst 4 B (v := 1) dX12_isWord_4 (by decide +kernel) ?_
    refine V_icmp_ne 5 B 21 dX12_isWord_5 (by decide) (fun kk0 => ?_) (fun kk0 => ?_)
    ·
      have x1 := x_ne kk0
      rw [show (1 : Int32).toInt = 1 by decide +kernel] at x1
      refine V_iconst 21 B (v := 0) dX12_isWord_21 (by decide +kernel) ?_
      exact V_zret 22 B rfl dX12_isWord_22 (mkW [] [] [] [] [] []) (Or.inl rfl) rfl
    ·
      obtain rfl : p9 = 1 := kk0
      have e3 : (1 : Int32).toInt = 1 := by decide +kernel
      refine V_aload_n 8 B dX12_isWord_8 0 rfl ?_
      refine V_get 9 B gf_RX12_273 0 rfl rfl dX12_isWord_9 ?_
      refine V_lload_n 12 B dX12_isWord_12 1 rfl ?_
      refine V_lcmp 13 B dX12_isWord_13 rfl ?_
      refine V_nmi (fun j4 _ => ?_)
      refine V_if_ne 14 B 21 dX12_isWord_14 (by decide) (fun kk5 => ?_) (fun kk5 => ?_)
      ·
        have x6 := x_ne kk5
        rw [show (0 : Int32).toInt = 0 by decide +kernel] at x6
        refine V_iconst 21 B (v := 0) dX12_isWord_21 (by decide +kernel) ?_
        exact V_zret 22 B rfl dX12_isWord_22 (mkW [] [] [] [] [] []) (Or.inl rfl) rfl
      ·
        obtain rfl : j4 = 0 := kk5
        have e8 : (0 : Int32).toInt = 0 := by decide +kernel
        refine V_iconst 17 B (v := 1) dX12_isWord_17 (by decide +kernel) ?_
        refine V_goto 18 B 22 dX12_isWord_18 (by decide) ?_
        exact V_zret 22 B rfl dX12_isWord_22 (mkW [] [] [] [] [] []) (Or.inr rfl) rfl)
theorem dX12_strokeHere_0 : decode cX12_strokeHere 0 = .ok (.iconst 0, 1) := by decide +kernel
theorem dX12_strokeHere_1 : decode cX12_strokeHere 1 = .ok (.istore_n 1, 1) := by decide +kernel
theorem dX12_strokeHere_2 : decode cX12_strokeHere 2 = .ok (.aload_n 0, 1) := by decide +kernel
theorem dX12_strokeHere_3 : decode cX12_strokeHere 3 = .ok (.getfield 283, 3) := by decide +kernel
theorem dX12_strokeHere_6 : decode cX12_strokeHere 6 = .ok (.iconst 1, 1) := by decide +kernel
theorem dX12_strokeHere_7 : decode cX12_strokeHere 7 = .ok (.if_icmp .ne 19, 3) := by decide +kernel
theorem dX12_strokeHere_26 : decode cX12_strokeHere 26 = .ok (.iconst (-1), 1) := by decide +kernel
theorem dX12_strokeHere_27 : decode cX12_strokeHere 27 = .ok (.ireturn, 1) := by decide +kernel
theorem dX12_strokeHere_10 : decode cX12_strokeHere 10 = .ok (.aload_n 0, 1) := by decide +kernel
theorem dX12_strokeHere_11 : decode cX12_strokeHere 11 = .ok (.aload_n 0, 1) := by decide +kernel
theorem dX12_strokeHere_12 : decode cX12_strokeHere 12 = .ok (.getfield 264, 3) := by decide +kernel
theorem dX12_strokeHere_15 : decode cX12_strokeHere 15 = .ok (.iconst 1, 1) := by decide +kernel
theorem dX12_strokeHere_16 : decode cX12_strokeHere 16 = .ok (.isub, 1) := by decide +kernel
theorem dX12_strokeHere_17 : decode cX12_strokeHere 17 = .ok (.invokevirtual 267, 3) := by decide +kernel
theorem dX12_strokeHere_20 : decode cX12_strokeHere 20 = .ok (.invokestatic 253, 3) := by decide +kernel
theorem dX12_strokeHere_23 : decode cX12_strokeHere 23 = .ok (.ifCond .ne 5, 3) := by decide +kernel
theorem dX12_strokeHere_28 : decode cX12_strokeHere 28 = .ok (.aload_n 0, 1) := by decide +kernel
theorem dX12_strokeHere_29 : decode cX12_strokeHere 29 = .ok (.getfield 270, 3) := by decide +kernel
theorem dX12_strokeHere_32 : decode cX12_strokeHere 32 = .ok (.istore_n 2, 1) := by decide +kernel
theorem dX12_strokeHere_33 : decode cX12_strokeHere 33 = .ok (.iload_n 2, 1) := by decide +kernel
theorem dX12_strokeHere_34 : decode cX12_strokeHere 34 = .ok (.aload_n 0, 1) := by decide +kernel
theorem dX12_strokeHere_35 : decode cX12_strokeHere 35 = .ok (.getfield 264, 3) := by decide +kernel
theorem dX12_strokeHere_38 : decode cX12_strokeHere 38 = .ok (.iconst 1, 1) := by decide +kernel
theorem dX12_strokeHere_39 : decode cX12_strokeHere 39 = .ok (.isub, 1) := by decide +kernel
theorem dX12_strokeHere_40 : decode cX12_strokeHere 40 = .ok (.if_icmp .ge 84, 3) := by decide +kernel
theorem dX12_strokeHere_124 : decode cX12_strokeHere 124 = .ok (.bipush 32, 2) := by decide +kernel
theorem dX12_strokeHere_126 : decode cX12_strokeHere 126 = .ok (.iload_n 1, 1) := by decide +kernel
theorem dX12_strokeHere_127 : decode cX12_strokeHere 127 = .ok (.imul, 1) := by decide +kernel
theorem dX12_strokeHere_128 : decode cX12_strokeHere 128 = .ok (.aload_n 0, 1) := by decide +kernel
theorem dX12_strokeHere_129 : decode cX12_strokeHere 129 = .ok (.aload_n 0, 1) := by decide +kernel
theorem dX12_strokeHere_130 : decode cX12_strokeHere 130 = .ok (.getfield 264, 3) := by decide +kernel
theorem dX12_strokeHere_133 : decode cX12_strokeHere 133 = .ok (.iconst 1, 1) := by decide +kernel
theorem dX12_strokeHere_134 : decode cX12_strokeHere 134 = .ok (.isub, 1) := by decide +kernel
theorem dX12_strokeHere_135 : decode cX12_strokeHere 135 = .ok (.invokevirtual 267, 3) := by decide +kernel
theorem dX12_strokeHere_138 : decode cX12_strokeHere 138 = .ok (.iadd, 1) := by decide +kernel
theorem dX12_strokeHere_139 : decode cX12_strokeHere 139 = .ok (.bipush 97, 2) := by decide +kernel
theorem dX12_strokeHere_141 : decode cX12_strokeHere 141 = .ok (.isub, 1) := by decide +kernel
theorem dX12_strokeHere_142 : decode cX12_strokeHere 142 = .ok (.ireturn, 1) := by decide +kernel
theorem dX12_strokeHere_43 : decode cX12_strokeHere 43 = .ok (.aload_n 0, 1) := by decide +kernel
theorem dX12_strokeHere_44 : decode cX12_strokeHere 44 = .ok (.iload_n 2, 1) := by decide +kernel
theorem dX12_strokeHere_45 : decode cX12_strokeHere 45 = .ok (.invokevirtual 267, 3) := by decide +kernel
theorem dX12_strokeHere_48 : decode cX12_strokeHere 48 = .ok (.bipush 67, 2) := by decide +kernel
theorem dX12_strokeHere_50 : decode cX12_strokeHere 50 = .ok (.if_icmp .ne 7, 3) := by decide +kernel
theorem dX12_strokeHere_57 : decode cX12_strokeHere 57 = .ok (.aload_n 0, 1) := by decide +kernel
theorem dX12_strokeHere_58 : decode cX12_strokeHere 58 = .ok (.iload_n 2, 1) := by decide +kernel
theorem dX12_strokeHere_59 : decode cX12_strokeHere 59 = .ok (.invokevirtual 267, 3) := by decide +kernel
theorem dX12_strokeHere_62 : decode cX12_strokeHere 62 = .ok (.bipush 83, 2) := by decide +kernel
theorem dX12_strokeHere_64 : decode cX12_strokeHere 64 = .ok (.if_icmp .ne 7, 3) := by decide +kernel
theorem dX12_strokeHere_71 : decode cX12_strokeHere 71 = .ok (.aload_n 0, 1) := by decide +kernel
theorem dX12_strokeHere_72 : decode cX12_strokeHere 72 = .ok (.iload_n 2, 1) := by decide +kernel
theorem dX12_strokeHere_73 : decode cX12_strokeHere 73 = .ok (.invokevirtual 267, 3) := by decide +kernel
theorem dX12_strokeHere_76 : decode cX12_strokeHere 76 = .ok (.bipush 65, 2) := by decide +kernel
theorem dX12_strokeHere_78 : decode cX12_strokeHere 78 = .ok (.if_icmp .ne 7, 3) := by decide +kernel
theorem dX12_strokeHere_85 : decode cX12_strokeHere 85 = .ok (.aload_n 0, 1) := by decide +kernel
theorem dX12_strokeHere_86 : decode cX12_strokeHere 86 = .ok (.iload_n 2, 1) := by decide +kernel
theorem dX12_strokeHere_87 : decode cX12_strokeHere 87 = .ok (.invokevirtual 267, 3) := by decide +kernel
theorem dX12_strokeHere_90 : decode cX12_strokeHere 90 = .ok (.bipush 77, 2) := by decide +kernel
theorem dX12_strokeHere_92 : decode cX12_strokeHere 92 = .ok (.if_icmp .ne 8, 3) := by decide +kernel
theorem dX12_strokeHere_100 : decode cX12_strokeHere 100 = .ok (.iconst 0, 1) := by decide +kernel
theorem dX12_strokeHere_101 : decode cX12_strokeHere 101 = .ok (.istore_n 3, 1) := by decide +kernel
theorem dX12_strokeHere_102 : decode cX12_strokeHere 102 = .ok (.iload_n 3, 1) := by decide +kernel
theorem dX12_strokeHere_103 : decode cX12_strokeHere 103 = .ok (.ifCond .eq 9, 3) := by decide +kernel
theorem dX12_strokeHere_112 : decode cX12_strokeHere 112 = .ok (.iconst (-1), 1) := by decide +kernel
theorem dX12_strokeHere_113 : decode cX12_strokeHere 113 = .ok (.ireturn, 1) := by decide +kernel
theorem dX12_strokeHere_95 : decode cX12_strokeHere 95 = .ok (.bipush 8, 2) := by decide +kernel
theorem dX12_strokeHere_97 : decode cX12_strokeHere 97 = .ok (.goto 4, 3) := by decide +kernel
theorem dX12_strokeHere_106 : decode cX12_strokeHere 106 = .ok (.iload_n 1, 1) := by decide +kernel
theorem dX12_strokeHere_107 : decode cX12_strokeHere 107 = .ok (.iload_n 3, 1) := by decide +kernel
theorem dX12_strokeHere_108 : decode cX12_strokeHere 108 = .ok (.iand, 1) := by decide +kernel
theorem dX12_strokeHere_109 : decode cX12_strokeHere 109 = .ok (.ifCond .eq 5, 3) := by decide +kernel
theorem dX12_strokeHere_114 : decode cX12_strokeHere 114 = .ok (.iload_n 1, 1) := by decide +kernel
theorem dX12_strokeHere_115 : decode cX12_strokeHere 115 = .ok (.iload_n 3, 1) := by decide +kernel
theorem dX12_strokeHere_116 : decode cX12_strokeHere 116 = .ok (.ior, 1) := by decide +kernel
theorem dX12_strokeHere_117 : decode cX12_strokeHere 117 = .ok (.istore_n 1, 1) := by decide +kernel
theorem dX12_strokeHere_118 : decode cX12_strokeHere 118 = .ok (.iinc 2 1, 3) := by decide +kernel
theorem dX12_strokeHere_121 : decode cX12_strokeHere 121 = .ok (.goto (-88), 3) := by decide +kernel
theorem dX12_strokeHere_81 : decode cX12_strokeHere 81 = .ok (.iconst 4, 1) := by decide +kernel
theorem dX12_strokeHere_82 : decode cX12_strokeHere 82 = .ok (.goto 19, 3) := by decide +kernel
theorem dX12_strokeHere_67 : decode cX12_strokeHere 67 = .ok (.iconst 2, 1) := by decide +kernel
theorem dX12_strokeHere_68 : decode cX12_strokeHere 68 = .ok (.goto 33, 3) := by decide +kernel
theorem dX12_strokeHere_53 : decode cX12_strokeHere 53 = .ok (.iconst 1, 1) := by decide +kernel
theorem dX12_strokeHere_54 : decode cX12_strokeHere 54 = .ok (.goto 47, 3) := by decide +kernel
set_option maxRecDepth 100000 in
set_option maxHeartbeats 4000000 in
theorem rX12_strokeHere (l : Launch) (D : va_G) (Y : Nat → ClassId) (h0 : Nat) (h1 : Nat) (h2 : Nat) (h3 : Nat) (h4 : Nat) (h5 : Nat) (h6 : Nat) (p2 : Int32) (k5 : Nat) (k6 : Nat) (p7 : Int32) (p8 : Int32) (p9 : Int32) (k10 : Nat) (p11 : Int32) (q12 : Int64) (k15 : Nat) (k16 : Nat) (f0 : Nat → Int32) (f1 : Nat → Int32) (f3 : Nat → Int32) (f4 : Nat → Int32) (f13 : Nat → Int32) (f14 : Nat → Int32) (ph : Nat → Int32) (HI : INV ph f0) (HL : k5 ≤ 1600) (HP : PLV f13)  (hx0 : k10 ≤ k6) (hx1 : k6 ≤ k5) (hx2 : (p9 = 0 ∨ k10 < k6)) (sz : Nat) : Met l yX12_strokeHere (WSm yX12_strokeHere cX12_strokeHere 4 (some .int)) (mkR 2 0 0 45) (PreC D Y [.ref h0] [(h0, oC 13 [.ref h1, .ref h2, .int p2, .ref h3, .ref h4, .int (nI k5), .int (nI k6), .int p7, .int p8, .int p9, .int (nI k10), .int p11, .long q12, .ref h5, .ref h6, .int (nI k15), .int (nI k16)]), (h1, aI Y 3640 f0), (h2, aZ Y 2 f1), (h3, aZ Y 80 f3), (h4, aB Y 1600 f4), (h5, aI Y 200 f13), (h6, aI Y 800 f14)] sz) (QI D (fun (r : Int32) (u : WU) => (r = -1 ∨ k10 < k6)) (fun (u : WU) => [(h0, oC 13 [.ref h1, .ref h2, .int p2, .ref h3, .ref h4, .int (nI k5), .int (nI k6), .int p7, .int p8, .int p9, .int (nI k10), .int p11, .long q12, .ref h5, .ref h6, .int (nI k15), .int (nI k16)]), (h1, aI Y 3640 f0), (h2, aZ Y 2 f1), (h3, aZ Y 80 f3), (h4, aB Y 1600 f4), (h5, aI Y 200 f13), (h6, aI Y 800 f14)]) (va_A [(h0, oC 13 [.ref h1, .ref h2, .int p2, .ref h3, .ref h4, .int (nI k5), .int (nI k6), .int p7, .int p8, .int p9, .int (nI k10), .int p11, .long q12, .ref h5, .ref h6, .int (nI k15), .int (nI k16)]), (h1, aI Y 3640 f0), (h2, aZ Y 2 f1), (h3, aZ Y 80 f3), (h4, aB Y 1600 f4), (h5, aI Y 200 f13), (h6, aI Y 800 f14)] sz)) 0 0 (va_A [(h0, oC 13 [.ref h1, .ref h2, .int p2, .ref h3, .ref h4, .int (nI k5), .int (nI k6), .int p7, .int p8, .int p9, .int (nI k10), .int p11, .long q12, .ref h5, .ref h6, .int (nI k15), .int (nI k16)]), (h1, aI Y 3640 f0), (h2, aZ Y 2 f1), (h3, aZ Y 80 f3), (h4, aB Y 1600 f4), (h5, aI Y 200 f13), (h6, aI Y 800 f14)] sz) :=
  met_of  (by decide +kernel) (Nat.le_of_ble_eq_true rfl) (fun p e s m args below meth c B hin hsz => by
    have B : VB p s m args meth c D Y (va_A [(h0, oC 13 [.ref h1, .ref h2, .int p2, .ref h3, .ref h4, .int (nI k5), .int (nI k6), .int p7, .int p8, .int p9, .int (nI k10), .int p11, .long q12, .ref h5, .ref h6, .int (nI k15), .int (nI k16)]), (h1, aI Y 3640 f0), (h2, aZ Y 2 f1), (h3, aZ Y 80 f3), (h4, aB Y 1600 f4), (h5, aI Y 200 f13), (h6, aI Y 800 f14)] sz) cX12_strokeHere 4 RX12 (some .int) := B
    refine V_iconst 0 B (v := 0) dX12_strokeHere_0 (by decide +kernel) ?_
    refine V_istore_n 1 B (lv2 := [(1, .int 0), (0, .ref h0)]) dX12_strokeHere_1 (by decide) rfl ?_
    refine V_aload_n 2 B dX12_strokeHere_2 1 rfl ?_
    refine V_get 3 B gf_RX12_283 0 rfl rfl dX12_strokeHere_3 ?_
    refine V_iconst 6 B (v := 1) dX12_strokeHere_6 (by decide +kernel) ?_
    refine V_icmp_ne 7 B 26 dX12_strokeHere_7 (by decide) (fun kk0 => ?_) (fun kk0 => ?_)
    ·
      have x1 := x_ne kk0
      rw [show (1 : Int32).toInt = 1 by decide +kernel] at x1
      refine V_iconst 26 B (v := (-1)) dX12_strokeHere_26 (by decide +kernel) ?_
      exact V_iret 27 B dX12_strokeHere_27 (mkW [] [] [] [] [] []) (Or.inl rfl) rfl
    ·
      obtain rfl : p9 = 1 := kk0
      have e3 : (1 : Int32).toInt = 1 := by decide +kernel
      have x4 : k10 < k6 := by
        rcases hx2 with z | z
        · first | contradiction | exact absurd z (by decide) | omega
        · exact z
      refine V_aload_n 10 B dX12_strokeHere_10 1 rfl ?_
      refine V_aload_n 11 B dX12_strokeHere_11 1 rfl ?_
      refine V_get 12 B gf_RX12_264 0 rfl rfl dX12_strokeHere_12 ?_
      refine V_iconst 15 B (v := 1) dX12_strokeHere_15 (by decide +kernel) ?_
      refine V_isub 16 B (v := (nI (k6 - 1))) dX12_strokeHere_16 (nI_subE (a := k6) (b := 1) (by omega)) ?_
      refine V_cvi 17 B (st := []) (As := [.int (nI (k6 - 1))]) (fun sz => rX12_byteAt l D Y h0 h1 h2 h3 h4 h5 h6 p2 k5 k6 p7 p8 1 k10 p11 q12 k15 k16 f0 f1 f3 f4 f13 f14 ph HI (by omega) HP (k6 - 1) (by omega) sz) glV_RX12_267 ⟨rfl, rfl⟩ ⟨(Nat.le_of_ble_eq_true rfl), (Nat.le_of_ble_eq_true rfl)⟩ ⟨(Nat.le_of_ble_eq_true rfl), (Nat.le_of_ble_eq_true rfl)⟩ [0, 0, 0, 0, 0, 0, 0] rfl 13 0 rfl rfl rfl rfl (Nat.le_of_ble_eq_true rfl) rfl (fun _ _ _ => rfl) dX12_strokeHere_17 (fun j5 u6 w7 => ?_)
      refine V_ws [(h0, oC 13 [.ref h1, .ref h2, .int p2, .ref h3, .ref h4, .int (nI k5), .int (nI k6), .int p7, .int p8, .int 1, .int (nI k10), .int p11, .long q12, .ref h5, .ref h6, .int (nI k15), .int (nI k16)]), (h1, aI Y 3640 f0), (h2, aZ Y 2 f1), (h3, aZ Y 80 f3), (h4, aB Y 1600 f4), (h5, aI Y 200 f13), (h6, aI Y 800 f14)] rfl ?_
      have x8 := w7
      clear w7
      have x9 : -1 ≤ j5.toInt ∧ j5.toInt ≤ 255 := by rw [x8]; exact BY_rng _ _ _
      refine V_csi 20 B (st := []) (As := [.int j5]) (fun sz => rX12_isSmall l D Y j5 sz) glS_RX12_253 ⟨rfl, rfl⟩ ⟨(Nat.le_of_ble_eq_true rfl), (Nat.le_of_ble_eq_true rfl)⟩ ⟨(Nat.le_of_ble_eq_true rfl), (Nat.le_of_ble_eq_true rfl)⟩ [] rfl rfl (Nat.le_of_ble_eq_true rfl) rfl (fun _ _ _ => rfl) dX12_strokeHere_20 (fun j10 u11 w12 => ?_)
      refine V_ws [(h0, oC 13 [.ref h1, .ref h2, .int p2, .ref h3, .ref h4, .int (nI k5), .int (nI k6), .int p7, .int p8, .int 1, .int (nI k10), .int p11, .long q12, .ref h5, .ref h6, .int (nI k15), .int (nI k16)]), (h1, aI Y 3640 f0), (h2, aZ Y 2 f1), (h3, aZ Y 80 f3), (h4, aB Y 1600 f4), (h5, aI Y 200 f13), (h6, aI Y 800 f14)] rfl ?_
      have x13 := w12
      clear w12
      rcases x13 with ⟨rfl, x14⟩ | ⟨rfl, x14⟩
      ·
        refine V_if_ne_f 23 B 28 dX12_strokeHere_23 (by decide) (by decide +kernel) ?_
        refine V_iconst 26 B (v := (-1)) dX12_strokeHere_26 (by decide +kernel) ?_
        exact V_iret 27 B dX12_strokeHere_27 (mkW [] [] [] [] [] []) (Or.inl rfl) rfl
      ·
        refine V_if_ne_t 23 B 28 dX12_strokeHere_23 (by decide) (by decide +kernel) ?_
        refine V_aload_n 28 B dX12_strokeHere_28 1 rfl ?_
        refine V_get 29 B gf_RX12_270 0 rfl rfl dX12_strokeHere_29 ?_
        refine V_istore_n 32 B (lv2 := [(2, .int (nI k10)), (1, .int 0), (0, .ref h0)]) dX12_strokeHere_32 (by decide) rfl ?_
        refine V_wloop (α := WU) (fun a => 100000 - (a.1 0)) (fun a => (a.1 0) ≤ 4000) (fun a => [(2, .int (nI (a.1 0))), (1, .int (a.2.1 0)), (0, .ref h0)]) (fun a => [(h0, oC 13 [.ref h1, .ref h2, .int p2, .ref h3, .ref h4, .int (nI k5), .int (nI k6), .int p7, .int p8, .int 1, .int (nI k10), .int p11, .long q12, .ref h5, .ref h6, .int (nI k15), .int (nI k16)]), (h1, aI Y 3640 f0), (h2, aZ Y 2 f1), (h3, aZ Y 80 f3), (h4, aB Y 1600 f4), (h5, aI Y 200 f13), (h6, aI Y 800 f14)]) (mkW [k10] [0] [] [] [] []) (show k10 ≤ 4000 by omega) rfl rfl (fun a15 hI17 IH16 => ?_)
        refine V_lv [(2, .int (nI (a15.1 0))), (1, .int (a15.2.1 0)), (0, .ref h0)] [0, 1, 2] rfl ?_
        refine V_ws [(h0, oC 13 [.ref h1, .ref h2, .int p2, .ref h3, .ref h4, .int (nI k5), .int (nI k6), .int p7, .int p8, .int 1, .int (nI k10), .int p11, .long q12, .ref h5, .ref h6, .int (nI k15), .int (nI k16)]), (h1, aI Y 3640 f0), (h2, aZ Y 2 f1), (h3, aZ Y 80 f3), (h4, aB Y 1600 f4), (h5, aI Y 200 f13), (h6, aI Y 800 f14)] rfl ?_
        have x18 := hI17
        refine V_iload_n 33 B dX12_strokeHere_33 0 rfl ?_
        refine V_aload_n 34 B dX12_strokeHere_34 2 rfl ?_
        refine V_get 35 B gf_RX12_264 0 rfl rfl dX12_strokeHere_35 ?_
        refine V_iconst 38 B (v := 1) dX12_strokeHere_38 (by decide +kernel) ?_
        refine V_isub 39 B (v := (nI (k6 - 1))) dX12_strokeHere_39 (nI_subE (a := k6) (b := 1) (by omega)) ?_
        refine V_icmp_ge 40 B 124 dX12_strokeHere_40 (by decide) (fun kk19 => ?_) (fun kk19 => ?_)
        ·
          have x20 := n_le (a := (k6 - 1)) (b := (a15.1 0)) kk19 (by omega) (by omega)
          refine V_bipush 124 B (v := 32) dX12_strokeHere_124 (by decide +kernel) ?_
          refine V_iload_n 126 B dX12_strokeHere_126 1 rfl ?_
          refine V_imul 127 B dX12_strokeHere_127 rfl ?_
          refine V_nmi (fun j21 e22 => ?_)
          refine V_aload_n 128 B dX12_strokeHere_128 2 rfl ?_
          refine V_aload_n 129 B dX12_strokeHere_129 2 rfl ?_
          refine V_get 130 B gf_RX12_264 0 rfl rfl dX12_strokeHere_130 ?_
          refine V_iconst 133 B (v := 1) dX12_strokeHere_133 (by decide +kernel) ?_
          refine V_isub 134 B (v := (nI (k6 - 1))) dX12_strokeHere_134 (nI_subE (a := k6) (b := 1) (by omega)) ?_
          refine V_cvi 135 B (st := [.int j21]) (As := [.int (nI (k6 - 1))]) (fun sz => rX12_byteAt l D Y h0 h1 h2 h3 h4 h5 h6 p2 k5 k6 p7 p8 1 k10 p11 q12 k15 k16 f0 f1 f3 f4 f13 f14 ph HI (by omega) HP (k6 - 1) (by omega) sz) glV_RX12_267 ⟨rfl, rfl⟩ ⟨(Nat.le_of_ble_eq_true rfl), (Nat.le_of_ble_eq_true rfl)⟩ ⟨(Nat.le_of_ble_eq_true rfl), (Nat.le_of_ble_eq_true rfl)⟩ [0, 0, 0, 0, 0, 0, 0] rfl 13 0 rfl rfl rfl rfl (Nat.le_of_ble_eq_true rfl) rfl (fun _ _ _ => rfl) dX12_strokeHere_135 (fun j23 u24 w25 => ?_)
          refine V_ws [(h0, oC 13 [.ref h1, .ref h2, .int p2, .ref h3, .ref h4, .int (nI k5), .int (nI k6), .int p7, .int p8, .int 1, .int (nI k10), .int p11, .long q12, .ref h5, .ref h6, .int (nI k15), .int (nI k16)]), (h1, aI Y 3640 f0), (h2, aZ Y 2 f1), (h3, aZ Y 80 f3), (h4, aB Y 1600 f4), (h5, aI Y 200 f13), (h6, aI Y 800 f14)] rfl ?_
          have x26 := w25
          clear w25
          have x27 : -1 ≤ j23.toInt ∧ j23.toInt ≤ 255 := by rw [x26]; exact BY_rng _ _ _
          refine V_iadd 138 B dX12_strokeHere_138 rfl ?_
          refine V_nmi (fun j28 e29 => ?_)
          refine V_bipush 139 B (v := 97) dX12_strokeHere_139 (by decide +kernel) ?_
          refine V_isub 141 B dX12_strokeHere_141 rfl ?_
          refine V_nmi (fun j30 e31 => ?_)
          exact V_iret 142 B dX12_strokeHere_142 (mkW [] [] [] [] [] []) (Or.inr (by omega)) rfl
        ·
          have x32 := n_nle (a := (k6 - 1)) (b := (a15.1 0)) kk19 (by omega) (by omega)
          refine V_aload_n 43 B dX12_strokeHere_43 2 rfl ?_
          refine V_iload_n 44 B dX12_strokeHere_44 0 rfl ?_
          refine V_cvi 45 B (st := []) (As := [.int (nI (a15.1 0))]) (fun sz => rX12_byteAt l D Y h0 h1 h2 h3 h4 h5 h6 p2 k5 k6 p7 p8 1 k10 p11 q12 k15 k16 f0 f1 f3 f4 f13 f14 ph HI (by omega) HP (a15.1 0) (by omega) sz) glV_RX12_267 ⟨rfl, rfl⟩ ⟨(Nat.le_of_ble_eq_true rfl), (Nat.le_of_ble_eq_true rfl)⟩ ⟨(Nat.le_of_ble_eq_true rfl), (Nat.le_of_ble_eq_true rfl)⟩ [0, 0, 0, 0, 0, 0, 0] rfl 13 0 rfl rfl rfl rfl (Nat.le_of_ble_eq_true rfl) rfl (fun _ _ _ => rfl) dX12_strokeHere_45 (fun j33 u34 w35 => ?_)
          refine V_ws [(h0, oC 13 [.ref h1, .ref h2, .int p2, .ref h3, .ref h4, .int (nI k5), .int (nI k6), .int p7, .int p8, .int 1, .int (nI k10), .int p11, .long q12, .ref h5, .ref h6, .int (nI k15), .int (nI k16)]), (h1, aI Y 3640 f0), (h2, aZ Y 2 f1), (h3, aZ Y 80 f3), (h4, aB Y 1600 f4), (h5, aI Y 200 f13), (h6, aI Y 800 f14)] rfl ?_
          have x36 := w35
          clear w35
          have x37 : -1 ≤ j33.toInt ∧ j33.toInt ≤ 255 := by rw [x36]; exact BY_rng _ _ _
          refine V_bipush 48 B (v := 67) dX12_strokeHere_48 (by decide +kernel) ?_
          refine V_icmp_ne 50 B 57 dX12_strokeHere_50 (by decide) (fun kk38 => ?_) (fun kk38 => ?_)
          ·
            have x39 := x_ne kk38
            rw [show (67 : Int32).toInt = 67 by decide +kernel] at x39
            refine V_aload_n 57 B dX12_strokeHere_57 2 rfl ?_
            refine V_iload_n 58 B dX12_strokeHere_58 0 rfl ?_
            refine V_cvi 59 B (st := []) (As := [.int (nI (a15.1 0))]) (fun sz => rX12_byteAt l D Y h0 h1 h2 h3 h4 h5 h6 p2 k5 k6 p7 p8 1 k10 p11 q12 k15 k16 f0 f1 f3 f4 f13 f14 ph HI (by omega) HP (a15.1 0) (by omega) sz) glV_RX12_267 ⟨rfl, rfl⟩ ⟨(Nat.le_of_ble_eq_true rfl), (Nat.le_of_ble_eq_true rfl)⟩ ⟨(Nat.le_of_ble_eq_true rfl), (Nat.le_of_ble_eq_true rfl)⟩ [0, 0, 0, 0, 0, 0, 0] rfl 13 0 rfl rfl rfl rfl (Nat.le_of_ble_eq_true rfl) rfl (fun _ _ _ => rfl) dX12_strokeHere_59 (fun j40 u41 w42 => ?_)
            refine V_ws [(h0, oC 13 [.ref h1, .ref h2, .int p2, .ref h3, .ref h4, .int (nI k5), .int (nI k6), .int p7, .int p8, .int 1, .int (nI k10), .int p11, .long q12, .ref h5, .ref h6, .int (nI k15), .int (nI k16)]), (h1, aI Y 3640 f0), (h2, aZ Y 2 f1), (h3, aZ Y 80 f3), (h4, aB Y 1600 f4), (h5, aI Y 200 f13), (h6, aI Y 800 f14)] rfl ?_
            have x43 := w42
            clear w42
            have x44 : -1 ≤ j40.toInt ∧ j40.toInt ≤ 255 := by rw [x43]; exact BY_rng _ _ _
            refine V_bipush 62 B (v := 83) dX12_strokeHere_62 (by decide +kernel) ?_
            refine V_icmp_ne 64 B 71 dX12_strokeHere_64 (by decide) (fun kk45 => ?_) (fun kk45 => ?_)
            ·
              have x46 := x_ne kk45
              rw [show (83 : Int32).toInt = 83 by decide +kernel] at x46
              refine V_aload_n 71 B dX12_strokeHere_71 2 rfl ?_
              refine V_iload_n 72 B dX12_strokeHere_72 0 rfl ?_
              refine V_cvi 73 B (st := []) (As := [.int (nI (a15.1 0))]) (fun sz => rX12_byteAt l D Y h0 h1 h2 h3 h4 h5 h6 p2 k5 k6 p7 p8 1 k10 p11 q12 k15 k16 f0 f1 f3 f4 f13 f14 ph HI (by omega) HP (a15.1 0) (by omega) sz) glV_RX12_267 ⟨rfl, rfl⟩ ⟨(Nat.le_of_ble_eq_true rfl), (Nat.le_of_ble_eq_true rfl)⟩ ⟨(Nat.le_of_ble_eq_true rfl), (Nat.le_of_ble_eq_true rfl)⟩ [0, 0, 0, 0, 0, 0, 0] rfl 13 0 rfl rfl rfl rfl (Nat.le_of_ble_eq_true rfl) rfl (fun _ _ _ => rfl) dX12_strokeHere_73 (fun j47 u48 w49 => ?_)
              refine V_ws [(h0, oC 13 [.ref h1, .ref h2, .int p2, .ref h3, .ref h4, .int (nI k5), .int (nI k6), .int p7, .int p8, .int 1, .int (nI k10), .int p11, .long q12, .ref h5, .ref h6, .int (nI k15), .int (nI k16)]), (h1, aI Y 3640 f0), (h2, aZ Y 2 f1), (h3, aZ Y 80 f3), (h4, aB Y 1600 f4), (h5, aI Y 200 f13), (h6, aI Y 800 f14)] rfl ?_
              have x50 := w49
              clear w49
              have x51 : -1 ≤ j47.toInt ∧ j47.toInt ≤ 255 := by rw [x50]; exact BY_rng _ _ _
              refine V_bipush 76 B (v := 65) dX12_strokeHere_76 (by decide +kernel) ?_
              refine V_icmp_ne 78 B 85 dX12_strokeHere_78 (by decide) (fun kk52 => ?_) (fun kk52 => ?_)
              ·
                have x53 := x_ne kk52
                rw [show (65 : Int32).toInt = 65 by decide +kernel] at x53
                refine V_aload_n 85 B dX12_strokeHere_85 2 rfl ?_
                refine V_iload_n 86 B dX12_strokeHere_86 0 rfl ?_
                refine V_cvi 87 B (st := []) (As := [.int (nI (a15.1 0))]) (fun sz => rX12_byteAt l D Y h0 h1 h2 h3 h4 h5 h6 p2 k5 k6 p7 p8 1 k10 p11 q12 k15 k16 f0 f1 f3 f4 f13 f14 ph HI (by omega) HP (a15.1 0) (by omega) sz) glV_RX12_267 ⟨rfl, rfl⟩ ⟨(Nat.le_of_ble_eq_true rfl), (Nat.le_of_ble_eq_true rfl)⟩ ⟨(Nat.le_of_ble_eq_true rfl), (Nat.le_of_ble_eq_true rfl)⟩ [0, 0, 0, 0, 0, 0, 0] rfl 13 0 rfl rfl rfl rfl (Nat.le_of_ble_eq_true rfl) rfl (fun _ _ _ => rfl) dX12_strokeHere_87 (fun j54 u55 w56 => ?_)
                refine V_ws [(h0, oC 13 [.ref h1, .ref h2, .int p2, .ref h3, .ref h4, .int (nI k5), .int (nI k6), .int p7, .int p8, .int 1, .int (nI k10), .int p11, .long q12, .ref h5, .ref h6, .int (nI k15), .int (nI k16)]), (h1, aI Y 3640 f0), (h2, aZ Y 2 f1), (h3, aZ Y 80 f3), (h4, aB Y 1600 f4), (h5, aI Y 200 f13), (h6, aI Y 800 f14)] rfl ?_
                have x57 := w56
                clear w56
                have x58 : -1 ≤ j54.toInt ∧ j54.toInt ≤ 255 := by rw [x57]; exact BY_rng _ _ _
                refine V_bipush 90 B (v := 77) dX12_strokeHere_90 (by decide +kernel) ?_
                refine V_icmp_ne 92 B 100 dX12_strokeHere_92 (by decide) (fun kk59 => ?_) (fun kk59 => ?_)
                ·
                  have x60 := x_ne kk59
                  rw [show (77 : Int32).toInt = 77 by decide +kernel] at x60
                  refine V_iconst 100 B (v := 0) dX12_strokeHere_100 (by decide +kernel) ?_
                  refine V_istore_n 101 B (lv2 := [(3, .int 0), (2, .int (nI (a15.1 0))), (1, .int (a15.2.1 0)), (0, .ref h0)]) dX12_strokeHere_101 (by decide) rfl ?_
                  refine V_iload_n 102 B dX12_strokeHere_102 0 rfl ?_
                  refine V_if_eq_t 103 B 112 dX12_strokeHere_103 (by decide) (by decide +kernel) ?_
                  refine V_iconst 112 B (v := (-1)) dX12_strokeHere_112 (by decide +kernel) ?_
                  exact V_iret 113 B dX12_strokeHere_113 (mkW [] [] [] [] [] []) (Or.inl rfl) rfl
                ·
                  obtain rfl : j54 = 77 := kk59
                  have e62 : (77 : Int32).toInt = 77 := by decide +kernel
                  refine V_bipush 95 B (v := 8) dX12_strokeHere_95 (by decide +kernel) ?_
                  refine V_goto 97 B 101 dX12_strokeHere_97 (by decide) ?_
                  refine V_istore_n 101 B (lv2 := [(3, .int 8), (2, .int (nI (a15.1 0))), (1, .int (a15.2.1 0)), (0, .ref h0)]) dX12_strokeHere_101 (by decide) rfl ?_
                  refine V_iload_n 102 B dX12_strokeHere_102 0 rfl ?_
                  refine V_if_eq_f 103 B 112 dX12_strokeHere_103 (by decide) (by decide +kernel) ?_
                  refine V_iload_n 106 B dX12_strokeHere_106 2 rfl ?_
                  refine V_iload_n 107 B dX12_strokeHere_107 0 rfl ?_
                  refine V_iand 108 B dX12_strokeHere_108 rfl ?_
                  refine V_nmi (fun j63 e64 => ?_)
                  refine V_if_eq 109 B 114 dX12_strokeHere_109 (by decide) (fun kk65 => ?_) (fun kk65 => ?_)
                  ·
                    obtain rfl : j63 = 0 := kk65
                    have e67 : (0 : Int32).toInt = 0 := by decide +kernel
                    refine V_iload_n 114 B dX12_strokeHere_114 2 rfl ?_
                    refine V_iload_n 115 B dX12_strokeHere_115 0 rfl ?_
                    refine V_ior 116 B dX12_strokeHere_116 rfl ?_
                    refine V_nmi (fun j68 e69 => ?_)
                    refine V_istore_n 117 B (lv2 := [(1, .int j68), (3, .int 8), (2, .int (nI (a15.1 0))), (0, .ref h0)]) dX12_strokeHere_117 (by decide) rfl ?_
                    refine V_iinc 118 B (v := (nI (1 + (a15.1 0)))) (lv2 := [(2, .int (nI (1 + (a15.1 0)))), (1, .int j68), (3, .int 8), (0, .ref h0)]) dX12_strokeHere_118 2 rfl (nI_addE (a := (a15.1 0)) (b := 1) (by omega)) (by decide) rfl ?_
                    refine V_goto 121 B 33 dX12_strokeHere_121 (by decide) ?_
                    refine V_lv [(2, .int (nI (1 + (a15.1 0)))), (1, .int j68), (0, .ref h0)] [0, 1, 3] rfl ?_
                    exact IH16 (mkW [1 + (a15.1 0)] [j68] [] [] [] []) (show 1 + (a15.1 0) ≤ 4000 by omega) (by show 100000 - (1 + (a15.1 0)) < 100000 - (a15.1 0); omega)
                  ·
                    have x70 := x_ne kk65
                    rw [show (0 : Int32).toInt = 0 by decide +kernel] at x70
                    refine V_iconst 112 B (v := (-1)) dX12_strokeHere_112 (by decide +kernel) ?_
                    exact V_iret 113 B dX12_strokeHere_113 (mkW [] [] [] [] [] []) (Or.inl rfl) rfl
              ·
                obtain rfl : j47 = 65 := kk52
                have e72 : (65 : Int32).toInt = 65 := by decide +kernel
                refine V_iconst 81 B (v := 4) dX12_strokeHere_81 (by decide +kernel) ?_
                refine V_goto 82 B 101 dX12_strokeHere_82 (by decide) ?_
                refine V_istore_n 101 B (lv2 := [(3, .int 4), (2, .int (nI (a15.1 0))), (1, .int (a15.2.1 0)), (0, .ref h0)]) dX12_strokeHere_101 (by decide) rfl ?_
                refine V_iload_n 102 B dX12_strokeHere_102 0 rfl ?_
                refine V_if_eq_f 103 B 112 dX12_strokeHere_103 (by decide) (by decide +kernel) ?_
                refine V_iload_n 106 B dX12_strokeHere_106 2 rfl ?_
                refine V_iload_n 107 B dX12_strokeHere_107 0 rfl ?_
                refine V_iand 108 B dX12_strokeHere_108 rfl ?_
                refine V_nmi (fun j73 e74 => ?_)
                refine V_if_eq 109 B 114 dX12_strokeHere_109 (by decide) (fun kk75 => ?_) (fun kk75 => ?_)
                ·
                  obtain rfl : j73 = 0 := kk75
                  have e77 : (0 : Int32).toInt = 0 := by decide +kernel
                  refine V_iload_n 114 B dX12_strokeHere_114 2 rfl ?_
                  refine V_iload_n 115 B dX12_strokeHere_115 0 rfl ?_
                  refine V_ior 116 B dX12_strokeHere_116 rfl ?_
                  refine V_nmi (fun j78 e79 => ?_)
                  refine V_istore_n 117 B (lv2 := [(1, .int j78), (3, .int 4), (2, .int (nI (a15.1 0))), (0, .ref h0)]) dX12_strokeHere_117 (by decide) rfl ?_
                  refine V_iinc 118 B (v := (nI (1 + (a15.1 0)))) (lv2 := [(2, .int (nI (1 + (a15.1 0)))), (1, .int j78), (3, .int 4), (0, .ref h0)]) dX12_strokeHere_118 2 rfl (nI_addE (a := (a15.1 0)) (b := 1) (by omega)) (by decide) rfl ?_
                  refine V_goto 121 B 33 dX12_strokeHere_121 (by decide) ?_
                  refine V_lv [(2, .int (nI (1 + (a15.1 0)))), (1, .int j78), (0, .ref h0)] [0, 1, 3] rfl ?_
                  exact IH16 (mkW [1 + (a15.1 0)] [j78] [] [] [] []) (show 1 + (a15.1 0) ≤ 4000 by omega) (by show 100000 - (1 + (a15.1 0)) < 100000 - (a15.1 0); omega)
                ·
                  have x80 := x_ne kk75
                  rw [show (0 : Int32).toInt = 0 by decide +kernel] at x80
                  refine V_iconst 112 B (v := (-1)) dX12_strokeHere_112 (by decide +kernel) ?_
                  exact V_iret 113 B dX12_strokeHere_113 (mkW [] [] [] [] [] []) (Or.inl rfl) rfl
            ·
              obtain rfl : j40 = 83 := kk45
              have e82 : (83 : Int32).toInt = 83 := by decide +kernel
              refine V_iconst 67 B (v := 2) dX12_strokeHere_67 (by decide +kernel) ?_
              refine V_goto 68 B 101 dX12_strokeHere_68 (by decide) ?_
              refine V_istore_n 101 B (lv2 := [(3, .int 2), (2, .int (nI (a15.1 0))), (1, .int (a15.2.1 0)), (0, .ref h0)]) dX12_strokeHere_101 (by decide) rfl ?_
              refine V_iload_n 102 B dX12_strokeHere_102 0 rfl ?_
              refine V_if_eq_f 103 B 112 dX12_strokeHere_103 (by decide) (by decide +kernel) ?_
              refine V_iload_n 106 B dX12_strokeHere_106 2 rfl ?_
              refine V_iload_n 107 B dX12_strokeHere_107 0 rfl ?_
              refine V_iand 108 B dX12_strokeHere_108 rfl ?_
              refine V_nmi (fun j83 e84 => ?_)
              refine V_if_eq 109 B 114 dX12_strokeHere_109 (by decide) (fun kk85 => ?_) (fun kk85 => ?_)
              ·
                obtain rfl : j83 = 0 := kk85
                have e87 : (0 : Int32).toInt = 0 := by decide +kernel
                refine V_iload_n 114 B dX12_strokeHere_114 2 rfl ?_
                refine V_iload_n 115 B dX12_strokeHere_115 0 rfl ?_
                refine V_ior 116 B dX12_strokeHere_116 rfl ?_
                refine V_nmi (fun j88 e89 => ?_)
                refine V_istore_n 117 B (lv2 := [(1, .int j88), (3, .int 2), (2, .int (nI (a15.1 0))), (0, .ref h0)]) dX12_strokeHere_117 (by decide) rfl ?_
                refine V_iinc 118 B (v := (nI (1 + (a15.1 0)))) (lv2 := [(2, .int (nI (1 + (a15.1 0)))), (1, .int j88), (3, .int 2), (0, .ref h0)]) dX12_strokeHere_118 2 rfl (nI_addE (a := (a15.1 0)) (b := 1) (by omega)) (by decide) rfl ?_
                refine V_goto 121 B 33 dX12_strokeHere_121 (by decide) ?_
                refine V_lv [(2, .int (nI (1 + (a15.1 0)))), (1, .int j88), (0, .ref h0)] [0, 1, 3] rfl ?_
                exact IH16 (mkW [1 + (a15.1 0)] [j88] [] [] [] []) (show 1 + (a15.1 0) ≤ 4000 by omega) (by show 100000 - (1 + (a15.1 0)) < 100000 - (a15.1 0); omega)
              ·
                have x90 := x_ne kk85
                rw [show (0 : Int32).toInt = 0 by decide +kernel] at x90
                refine V_iconst 112 B (v := (-1)) dX12_strokeHere_112 (by decide +kernel) ?_
                exact V_iret 113 B dX12_strokeHere_113 (mkW [] [] [] [] [] []) (Or.inl rfl) rfl
          ·
            obtain rfl : j33 = 67 := kk38
            have e92 : (67 : Int32).toInt = 67 := by decide +kernel
            refine V_iconst 53 B (v := 1) dX12_strokeHere_53 (by decide +kernel) ?_
            refine V_goto 54 B 101 dX12_strokeHere_54 (by decide) ?_
            refine V_istore_n 101 B (lv2 := [(3, .int 1), (2, .int (nI (a15.1 0))), (1, .int (a15.2.1 0)), (0, .ref h0)]) dX12_strokeHere_101 (by decide) rfl ?_
            refine V_iload_n 102 B dX12_strokeHere_102 0 rfl ?_
            refine V_if_eq_f 103 B 112 dX12_strokeHere_103 (by decide) (by decide +kernel) ?_
            refine V_iload_n 106 B dX12_strokeHere_106 2 rfl ?_
            refine V_iload_n 107 B dX12_strokeHere_107 0 rfl ?_
            refine V_iand 108 B dX12_strokeHere_108 rfl ?_
            refine V_nmi (fun j93 e94 => ?_)
            refine V_if_eq 109 B 114 dX12_strokeHere_109 (by decide) (fun kk95 => ?_) (fun kk95 => ?_)
            ·
              obtain rfl : j93 = 0 := kk95
              have e97 : (0 : Int32).toInt = 0 := by decide +kernel
              refine V_iload_n 114 B dX12_strokeHere_114 2 rfl ?_
              refine V_iload_n 115 B dX12_strokeHere_115 0 rfl ?_
              refine V_ior 116 B dX12_strokeHere_116 rfl ?_
              refine V_nmi (fun j98 e99 => ?_)
              refine V_istore_n 117 B (lv2 := [(1, .int j98), (3, .int 1), (2, .int (nI (a15.1 0))), (0, .ref h0)]) dX12_strokeHere_117 (by decide) rfl ?_
              refine V_iinc 118 B (v := (nI (1 + (a15.1 0)))) (lv2 := [(2, .int (nI (1 + (a15.1 0)))), (1, .int j98), (3, .int 1), (0, .ref h0)]) dX12_strokeHere_118 2 rfl (nI_addE (a := (a15.1 0)) (b := 1) (by omega)) (by decide) rfl ?_
              refine V_goto 121 B 33 dX12_strokeHere_121 (by decide) ?_
              refine V_lv [(2, .int (nI (1 + (a15.1 0)))), (1, .int j98), (0, .ref h0)] [0, 1, 3] rfl ?_
              exact IH16 (mkW [1 + (a15.1 0)] [j98] [] [] [] []) (show 1 + (a15.1 0) ≤ 4000 by omega) (by show 100000 - (1 + (a15.1 0)) < 100000 - (a15.1 0); omega)
            ·
              have x100 := x_ne kk95
              rw [show (0 : Int32).toInt = 0 by decide +kernel] at x100
              refine V_iconst 112 B (v := (-1)) dX12_strokeHere_112 (by decide +kernel) ?_
              exact V_iret 113 B dX12_strokeHere_113 (mkW [] [] [] [] [] []) (Or.inl rfl) rfl)
