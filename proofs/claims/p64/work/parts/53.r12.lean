theorem dX12_readNumber_40 : decode cX12_readNumber 40 = .ok (.putfield 294, 3) := by decide +kernel
theorem gp_RX12_294 : GP RX12 294 13 11 .int false := ⟨RX12, TX12, 17, ⟨rfl, inw_X12, Nat.le_of_ble_eq_true rfl, (mT7 148 rfl rfl)⟩, ⟨tyX12, tyX12_ok⟩, nmX12, rfl, by decide +kernel, fun h => nomatch h⟩
theorem dX12_readNumber_43 : decode cX12_readNumber 43 = .ok (.aload_n 0, 1) := by decide +kernel
theorem dX12_readNumber_44 : decode cX12_readNumber 44 = .ok (.invokevirtual 288, 3) := by decide +kernel
theorem dX12_readEnd_0 : decode cX12_readEnd 0 = .ok (.aload_n 0, 1) := by decide +kernel
theorem dX12_readEnd_1 : decode cX12_readEnd 1 = .ok (.getfield 283, 3) := by decide +kernel
theorem dX12_readEnd_4 : decode cX12_readEnd 4 = .ok (.iconst 3, 1) := by decide +kernel
theorem dX12_readEnd_5 : decode cX12_readEnd 5 = .ok (.if_icmp .eq 9, 3) := by decide +kernel
theorem dX12_readEnd_14 : decode cX12_readEnd 14 = .ok (.aload_n 0, 1) := by decide +kernel
theorem dX12_readEnd_15 : decode cX12_readEnd 15 = .ok (.invokevirtual 288, 3) := by decide +kernel
theorem dX12_pack_0 : decode cX12_pack 0 = .ok (.iload_n 0, 1) := by decide +kernel
theorem dX12_pack_1 : decode cX12_pack 1 = .ok (.i2l, 1) := by decide +kernel
theorem dX12_pack_2 : decode cX12_pack 2 = .ok (.bipush 7, 2) := by decide +kernel
theorem dX12_pack_4 : decode cX12_pack 4 = .ok (.lshl, 1) := by decide +kernel
theorem dX12_pack_5 : decode cX12_pack 5 = .ok (.iload_n 1, 1) := by decide +kernel
theorem dX12_pack_6 : decode cX12_pack 6 = .ok (.i2l, 1) := by decide +kernel
theorem dX12_pack_7 : decode cX12_pack 7 = .ok (.lor, 1) := by decide +kernel
theorem dX12_pack_8 : decode cX12_pack 8 = .ok (.bipush 14, 2) := by decide +kernel
theorem dX12_pack_10 : decode cX12_pack 10 = .ok (.lshl, 1) := by decide +kernel
theorem dX12_pack_11 : decode cX12_pack 11 = .ok (.iload_n 2, 1) := by decide +kernel
theorem dX12_pack_12 : decode cX12_pack 12 = .ok (.bipush 7, 2) := by decide +kernel
theorem dX12_pack_14 : decode cX12_pack 14 = .ok (.ishl, 1) := by decide +kernel
theorem dX12_pack_15 : decode cX12_pack 15 = .ok (.i2l, 1) := by decide +kernel
theorem dX12_pack_16 : decode cX12_pack 16 = .ok (.lor, 1) := by decide +kernel
theorem dX12_pack_17 : decode cX12_pack 17 = .ok (.iload_n 3, 1) := by decide +kernel
theorem dX12_pack_18 : decode cX12_pack 18 = .ok (.i2l, 1) := by decide +kernel
theorem dX12_pack_19 : decode cX12_pack 19 = .ok (.lor, 1) := by decide +kernel
theorem dX12_pack_20 : decode cX12_pack 20 = .ok (.lstore 6, 2) := by decide +kernel
theorem dX12_pack_22 : decode cX12_pack 22 = .ok (.iload 4, 2) := by decide +kernel
theorem dX12_pack_24 : decode cX12_pack 24 = .ok (.ifCond .ne 8, 3) := by decide +kernel
theorem dX12_pack_32 : decode cX12_pack 32 = .ok (.lload 6, 2) := by decide +kernel
theorem dX12_pack_34 : decode cX12_pack 34 = .ok (.bipush 7, 2) := by decide +kernel
theorem dX12_pack_36 : decode cX12_pack 36 = .ok (.lshl, 1) := by decide +kernel
theorem dX12_pack_37 : decode cX12_pack 37 = .ok (.iload 4, 2) := by decide +kernel
theorem dX12_pack_39 : decode cX12_pack 39 = .ok (.i2l, 1) := by decide +kernel
theorem dX12_pack_40 : decode cX12_pack 40 = .ok (.lor, 1) := by decide +kernel
theorem dX12_pack_41 : decode cX12_pack 41 = .ok (.lstore 6, 2) := by decide +kernel
theorem dX12_pack_43 : decode cX12_pack 43 = .ok (.iload 5, 2) := by decide +kernel
theorem dX12_pack_45 : decode cX12_pack 45 = .ok (.ifCond .ne 8, 3) := by decide +kernel
theorem dX12_pack_53 : decode cX12_pack 53 = .ok (.lload 6, 2) := by decide +kernel
theorem dX12_pack_55 : decode cX12_pack 55 = .ok (.bipush 7, 2) := by decide +kernel
theorem dX12_pack_57 : decode cX12_pack 57 = .ok (.lshl, 1) := by decide +kernel
theorem dX12_pack_58 : decode cX12_pack 58 = .ok (.iload 5, 2) := by decide +kernel
theorem dX12_pack_60 : decode cX12_pack 60 = .ok (.i2l, 1) := by decide +kernel
theorem dX12_pack_61 : decode cX12_pack 61 = .ok (.lor, 1) := by decide +kernel
theorem dX12_pack_62 : decode cX12_pack 62 = .ok (.lreturn, 1) := by decide +kernel
theorem dX12_pack_48 : decode cX12_pack 48 = .ok (.lload 6, 2) := by decide +kernel
theorem dX12_pack_50 : decode cX12_pack 50 = .ok (.goto 12, 3) := by decide +kernel
theorem dX12_pack_27 : decode cX12_pack 27 = .ok (.lload 6, 2) := by decide +kernel
theorem dX12_pack_29 : decode cX12_pack 29 = .ok (.goto 12, 3) := by decide +kernel
set_option maxRecDepth 100000 in
set_option maxHeartbeats 4000000 in
theorem rX12_pack (l : Launch) (D : va_G) (Y : Nat → ClassId)  (s0 : Int32) (s1 : Int32) (s2 : Int32) (s3 : Int32) (s4 : Int32) (s5 : Int32)  (sz : Nat) : Met l yX12_pack (WSm yX12_pack cX12_pack 8 (some .long)) (mkR 0 0 0 0) (PreC D Y [.int s0, .int s1, .int s2, .int s3, .int s4, .int s5] [] sz) (QJ D (fun (r : Int64) (u : WU) => True) (fun (u : WU) => []) (va_A [] sz)) 0 0 (va_A [] sz) :=
  met_of (by decide +kernel) (Nat.le_of_ble_eq_true rfl) (fun p e s m args below meth c B hin hsz => by
    have B : VB p s m args meth c D Y (va_A [] sz) cX12_pack 8 RX12 (some .long) := B
    refine V_iload_n 0 B dX12_pack_0 0 rfl ?_
    refine V_i2l 1 B dX12_pack_1 rfl ?_
    refine V_nml (fun o0 e1 => ?_)
    have x2 : o0.toInt = s0.toInt := by rw [e1, Int32.toInt_toInt64]
    refine V_bipush 2 B (v := 7) dX12_pack_2 (by decide +kernel) ?_
    refine V_lshl 4 B dX12_pack_4 rfl ?_
    refine V_nml (fun o3 _ => ?_)
    refine V_iload_n 5 B dX12_pack_5 1 rfl ?_
    refine V_i2l 6 B dX12_pack_6 rfl ?_
    refine V_nml (fun o4 e5 => ?_)
    have x6 : o4.toInt = s1.toInt := by rw [e5, Int32.toInt_toInt64]
    refine V_lor 7 B dX12_pack_7 rfl ?_
    refine V_nml (fun o7 e8 => ?_)
    refine V_bipush 8 B (v := 14) dX12_pack_8 (by decide +kernel) ?_
    refine V_lshl 10 B dX12_pack_10 rfl ?_
    refine V_nml (fun o9 _ => ?_)
    refine V_iload_n 11 B dX12_pack_11 2 rfl ?_
    refine V_bipush 12 B (v := 7) dX12_pack_12 (by decide +kernel) ?_
    refine V_ishl 14 B dX12_pack_14 rfl ?_
    refine V_nmi (fun j10 _ => ?_)
    refine V_i2l 15 B dX12_pack_15 rfl ?_
    refine V_nml (fun o11 e12 => ?_)
    have x13 : o11.toInt = j10.toInt := by rw [e12, Int32.toInt_toInt64]
    refine V_lor 16 B dX12_pack_16 rfl ?_
    refine V_nml (fun o14 e15 => ?_)
    refine V_iload_n 17 B dX12_pack_17 3 rfl ?_
    refine V_i2l 18 B dX12_pack_18 rfl ?_
    refine V_nml (fun o16 e17 => ?_)
    have x18 : o16.toInt = s3.toInt := by rw [e17, Int32.toInt_toInt64]
    refine V_lor 19 B dX12_pack_19 rfl ?_
    refine V_nml (fun o19 e20 => ?_)
    refine V_lstore 20 B (lv2 := [(6, .long o19), (0, .int s0), (1, .int s1), (2, .int s2), (3, .int s3), (4, .int s4), (5, .int s5)]) dX12_pack_20 (by decide) rfl ?_
    refine V_iload 22 B dX12_pack_22 5 rfl ?_
    refine V_if_ne 24 B 32 dX12_pack_24 (by decide) (fun kk21 => ?_) (fun kk21 => ?_)
    ·
      have x22 := x_ne kk21
      rw [show (0 : Int32).toInt = 0 by decide +kernel] at x22
      refine V_lload 32 B dX12_pack_32 0 rfl ?_
      refine V_bipush 34 B (v := 7) dX12_pack_34 (by decide +kernel) ?_
      refine V_lshl 36 B dX12_pack_36 rfl ?_
      refine V_nml (fun o23 _ => ?_)
      refine V_iload 37 B dX12_pack_37 5 rfl ?_
      refine V_i2l 39 B dX12_pack_39 rfl ?_
      refine V_nml (fun o24 e25 => ?_)
      have x26 : o24.toInt = s4.toInt := by rw [e25, Int32.toInt_toInt64]
      refine V_lor 40 B dX12_pack_40 rfl ?_
      refine V_nml (fun o27 e28 => ?_)
      refine V_lstore 41 B (lv2 := [(6, .long o27), (0, .int s0), (1, .int s1), (2, .int s2), (3, .int s3), (4, .int s4), (5, .int s5)]) dX12_pack_41 (by decide) rfl ?_
      refine V_iload 43 B dX12_pack_43 6 rfl ?_
      refine V_if_ne 45 B 53 dX12_pack_45 (by decide) (fun kk29 => ?_) (fun kk29 => ?_)
      ·
        have x30 := x_ne kk29
        rw [show (0 : Int32).toInt = 0 by decide +kernel] at x30
        refine V_lload 53 B dX12_pack_53 0 rfl ?_
        refine V_bipush 55 B (v := 7) dX12_pack_55 (by decide +kernel) ?_
        refine V_lshl 57 B dX12_pack_57 rfl ?_
        refine V_nml (fun o31 _ => ?_)
        refine V_iload 58 B dX12_pack_58 6 rfl ?_
        refine V_i2l 60 B dX12_pack_60 rfl ?_
        refine V_nml (fun o32 e33 => ?_)
        have x34 : o32.toInt = s5.toInt := by rw [e33, Int32.toInt_toInt64]
        refine V_lor 61 B dX12_pack_61 rfl ?_
        refine V_nml (fun o35 e36 => ?_)
        exact V_lret 62 B dX12_pack_62 (mkW [] [] [] [] [] []) trivial rfl
      ·
        obtain rfl : s5 = 0 := kk29
        have e38 : (0 : Int32).toInt = 0 := by decide +kernel
        refine V_lload 48 B dX12_pack_48 0 rfl ?_
        refine V_goto 50 B 62 dX12_pack_50 (by decide) ?_
        exact V_lret 62 B dX12_pack_62 (mkW [] [] [] [] [] []) trivial rfl
    ·
      obtain rfl : s4 = 0 := kk21
      have e40 : (0 : Int32).toInt = 0 := by decide +kernel
      refine V_lload 27 B dX12_pack_27 0 rfl ?_
      refine V_goto 29 B 41 dX12_pack_29 (by decide) ?_
      refine V_lstore 41 B (lv2 := [(6, .long o19), (0, .int s0), (1, .int s1), (2, .int s2), (3, .int s3), (4, .int 0), (5, .int s5)]) dX12_pack_41 (by decide) rfl ?_
      refine V_iload 43 B dX12_pack_43 6 rfl ?_
      refine V_if_ne 45 B 53 dX12_pack_45 (by decide) (fun kk41 => ?_) (fun kk41 => ?_)
      ·
        have x42 := x_ne kk41
        rw [show (0 : Int32).toInt = 0 by decide +kernel] at x42
        refine V_lload 53 B dX12_pack_53 0 rfl ?_
        refine V_bipush 55 B (v := 7) dX12_pack_55 (by decide +kernel) ?_
        refine V_lshl 57 B dX12_pack_57 rfl ?_
        refine V_nml (fun o43 _ => ?_)
        refine V_iload 58 B dX12_pack_58 6 rfl ?_
        refine V_i2l 60 B dX12_pack_60 rfl ?_
        refine V_nml (fun o44 e45 => ?_)
        have x46 : o44.toInt = s5.toInt := by rw [e45, Int32.toInt_toInt64]
        refine V_lor 61 B dX12_pack_61 rfl ?_
        refine V_nml (fun o47 e48 => ?_)
        exact V_lret 62 B dX12_pack_62 (mkW [] [] [] [] [] []) trivial rfl
      ·
        obtain rfl : s5 = 0 := kk41
        have e50 : (0 : Int32).toInt = 0 := by decide +kernel
        refine V_lload 48 B dX12_pack_48 0 rfl ?_
        refine V_goto 50 B 62 dX12_pack_50 (by decide) ?_
        exact V_lret 62 B dX12_pack_62 (mkW [] [] [] [] [] []) trivial rfl)
theorem dX12_isWord_0 : decode cX12_isWord 0 = .ok (.aload_n 0, 1) := by decide +kernel
theorem dX12_isWord_1 : decode cX12_isWord 1 = .ok (.getfield 283, 3) := by decide +kernel
theorem dX12_isWord_4 : decode cX12_isWord 4 = .ok (.iconst 1, 1) := by decide +kernel
theorem dX12_isWord_5 : decode cX12_isWord 5 = .ok (.if_icmp .ne 16, 3) := by decide +kernel
theorem dX12_isWord_21 : decode cX12_isWord 21 = .ok (.iconst 0, 1) := by decide +kernel
theorem dX12_isWord_22 : decode cX12_isWord 22 = .ok (.ireturn, 1) := by decide +kernel
theorem dX12_isWord_8 : decode cX12_isWord 8 = .ok (.aload_n 0, 1) := by decide +kernel
theorem dX12_isWord_9 : decode cX12_isWord 9 = .ok (.getfield 273, 3) := by decide +kernel
theorem dX12_isWord_12 : decode cX12_isWord 12 = .ok (.lload_n 1, 1) := by decide +kernel
theorem dX12_isWord_13 : decode cX12_isWord 13 = .ok (.lcmp, 1) := by decide +kernel
theorem dX12_isWord_14 : decode cX12_isWord 14 = .ok (.ifCond .ne 7, 3) := by decide +kernel
theorem dX12_isWord_17 : decode cX12_isWord 17 = .ok (.iconst 1, 1) := by decide +kernel
theorem dX12_isWord_18 : decode cX12_isWord 18 = .ok (.goto 4, 3) := by decide +kernel
set_option maxRecDepth 100000 in
set_option maxHeartbeats 4000000 in
theorem rX12_isWord (l : Launch) (D : va_G) (Y : Nat → ClassId) (h0 : Nat) (h1 : Nat) (h2 : Nat) (h3 : Nat) (h4 : Nat) (h5 : Nat) (h6 : Nat) (p2 : Int32) (k5 : Nat) (k6 : Nat) (p7 : Int32) (p8 : Int32) (p9 : Int32) (k10 : Nat) (p11 : Int32) (q12 : Int64) (k15 : Nat) (k16 : Nat) (f0 : Nat → Int32) (f1 : Nat → Int32) (f3 : Nat → Int32) (f4 : Nat → Int32) (f13 : Nat → Int32) (f14 : Nat → Int32) (HI : INV f0) (HL : k5 ≤ 1600) (HP : PLV f13) (s0 : Int64)  (sz : Nat) : Met l yX12_isWord (WSm yX12_isWord cX12_isWord 3 (some .boolean)) (mkR 0 0 0 0) (PreC D Y [.ref h0, .long s0] [(h0, oC 13 [.ref h1, .ref h2, .int p2, .ref h3, .ref h4, .int (nI k5), .int (nI k6), .int p7, .int p8, .int p9, .int (nI k10), .int p11, .long q12, .ref h5, .ref h6, .int (nI k15), .int (nI k16)]), (h1, aI Y 3640 f0), (h2, aZ Y 2 f1), (h3, aZ Y 80 f3), (h4, aB Y 1600 f4), (h5, aI Y 200 f13), (h6, aI Y 800 f14)] sz) (QI D (fun (r : Int32) (u : WU) => (r = 0 ∨ r = 1)) (fun (u : WU) => [(h0, oC 13 [.ref h1, .ref h2, .int p2, .ref h3, .ref h4, .int (nI k5), .int (nI k6), .int p7, .int p8, .int p9, .int (nI k10), .int p11, .long q12, .ref h5, .ref h6, .int (nI k15), .int (nI k16)]), (h1, aI Y 3640 f0), (h2, aZ Y 2 f1), (h3, aZ Y 80 f3), (h4, aB Y 1600 f4), (h5, aI Y 200 f13), (h6, aI Y 800 f14)]) (va_A [(h0, oC 13 [.ref h1, .ref h2, .int p2, .ref h3, .ref h4, .int (nI k5), .int (nI k6), .int p7, .int p8, .int p9, .int (nI k10), .int p11, .long q12, .ref h5, .ref h6, .int (nI k15), .int (nI k16)]), (h1, aI Y 3640 f0), (h2, aZ Y 2 f1), (h3, aZ Y 80 f3), (h4, aB Y 1600 f4), (h5, aI Y 200 f13), (h6, aI Y 800 f14)] sz)) 0 0 (va_A [(h0, oC 13 [.ref h1, .ref h2, .int p2, .ref h3, .ref h4, .int (nI k5), .int (nI k6), .int p7, .int p8, .int p9, .int (nI k10), .int p11, .long q12, .ref h5, .ref h6, .int (nI k15), .int (nI k16)]), (h1, aI Y 3640 f0), (h2, aZ Y 2 f1), (h3, aZ Y 80 f3), (h4, aB Y 1600 f4), (h5, aI Y 200 f13), (h6, aI Y 800 f14)] sz) :=
  met_of (by decide +kernel) (Nat.le_of_ble_eq_true rfl) (fun p e s m args below meth c B hin hsz => by
    have B : VB p s m args meth c D Y (va_A [(h0, oC 13 [.ref h1, .ref h2, .int p2, .ref h3, .ref h4, .int (nI k5), .int (nI k6), .int p7, .int p8, .int p9, .int (nI k10), .int p11, .long q12, .ref h5, .ref h6, .int (nI k15), .int (nI k16)]), (h1, aI Y 3640 f0), (h2, aZ Y 2 f1), (h3, aZ Y 80 f3), (h4, aB Y 1600 f4), (h5, aI Y 200 f13), (h6, aI Y 800 f14)] sz) cX12_isWord 3 RX12 (some .boolean) := B
    refine V_aload_n 0 B dX12_isWord_0 0 rfl ?_
    refine V_get 1 B gf_RX12_283 0 rfl rfl dX12_isWord_1 ?_
    refine V_iconst 4 B (v := 1) dX12_isWord_4 (by decide +kernel) ?_
    refine V_icmp_ne 5 B 21 dX12_isWord_5 (by decide) (fun kk0 => ?_) (fun kk0 => ?_)
    ·
      have x1 := x_ne kk0
      rw [show (1 : Int32).toInt = 1 by decide +kernel] at x1
      refine V_iconst 21 B (v := 0) dX12_isWord_21 (by decide +kernel) ?_
      exact V_zret 22 B rfl dX12_isWord_22 (mkW [] [] [] [] [] []) (Or.inl rfl) rfl
    ·
      obtain rfl : p9 = 1 := kk0
      have e3 : (1 : Int32).toInt = 1 := by decide +kernel
      refine V_aload_n 8 B dX12_isWord_8 0 rfl ?_
      refine V_get 9 B gf_RX12_273 0 rfl rfl dX12_isWord_9 ?_
      refine V_lload_n 12 B dX12_isWord_12 1 rfl ?_
      refine V_lcmp 13 B dX12_isWord_13 rfl ?_
      refine V_nmi (fun j4 _ => ?_)
      refine V_if_ne 14 B 21 dX12_isWord_14 (by decide) (fun kk5 => ?_) (fun kk5 => ?_)
      ·
        have x6 := x_ne kk5
        rw [show (0 : Int32).toInt = 0 by decide +kernel] at x6
        refine V_iconst 21 B (v := 0) dX12_isWord_21 (by decide +kernel) ?_
        exact V_zret 22 B rfl dX12_isWord_22 (mkW [] [] [] [] [] []) (Or.inl rfl) rfl
      ·
        obtain rfl : j4 = 0 := kk5
        have e8 : (0 : Int32).toInt = 0 := by decide +kernel
        refine V_iconst 17 B (v := 1) dX12_isWord_17 (by decide +kernel) ?_
        refine V_goto 18 B 22 dX12_isWord_18 (by decide) ?_
        exact V_zret 22 B rfl dX12_isWord_22 (mkW [] [] [] [] [] []) (Or.inr rfl) rfl)
theorem dX12_strokeHere_0 : decode cX12_strokeHere 0 = .ok (.iconst 0, 1) := by decide +kernel
theorem dX12_strokeHere_1 : decode cX12_strokeHere 1 = .ok (.istore_n 1, 1) := by decide +kernel
theorem dX12_strokeHere_2 : decode cX12_strokeHere 2 = .ok (.aload_n 0, 1) := by decide +kernel
theorem dX12_strokeHere_3 : decode cX12_strokeHere 3 = .ok (.getfield 283, 3) := by decide +kernel
theorem dX12_strokeHere_6 : decode cX12_strokeHere 6 = .ok (.iconst 1, 1) := by decide +kernel
theorem dX12_strokeHere_7 : decode cX12_strokeHere 7 = .ok (.if_icmp .ne 19, 3) := by decide +kernel
theorem dX12_strokeHere_26 : decode cX12_strokeHere 26 = .ok (.iconst (-1), 1) := by decide +kernel
theorem dX12_strokeHere_27 : decode cX12_strokeHere 27 = .ok (.ireturn, 1) := by decide +kernel
theorem dX12_strokeHere_10 : decode cX12_strokeHere 10 = .ok (.aload_n 0, 1) := by decide +kernel
theorem dX12_strokeHere_11 : decode cX12_strokeHere 11 = .ok (.aload_n 0, 1) := by decide +kernel
theorem dX12_strokeHere_12 : decode cX12_strokeHere 12 = .ok (.getfield 264, 3) := by decide +kernel
theorem gf_RX12_264 : GF RX12 264 13 6 := ⟨RX12, TX12, 17, rfl, inw_X12, Nat.le_of_ble_eq_true rfl, (mT7 143 rfl rfl)⟩
theorem dX12_strokeHere_15 : decode cX12_strokeHere 15 = .ok (.iconst 1, 1) := by decide +kernel
theorem dX12_strokeHere_16 : decode cX12_strokeHere 16 = .ok (.isub, 1) := by decide +kernel
theorem dX12_strokeHere_17 : decode cX12_strokeHere 17 = .ok (.invokevirtual 267, 3) := by decide +kernel
theorem dX12_readSequence_0 : decode cX12_readSequence 0 = .ok (.aload_n 0, 1) := by decide +kernel
theorem dX12_readSequence_1 : decode cX12_readSequence 1 = .ok (.getfield 9, 3) := by decide +kernel
theorem dX12_readSequence_4 : decode cX12_readSequence 4 = .ok (.iload_n 1, 1) := by decide +kernel
theorem dX12_readSequence_5 : decode cX12_readSequence 5 = .ok (.iconst 0, 1) := by decide +kernel
theorem dX12_readSequence_6 : decode cX12_readSequence 6 = .ok (.iastore, 1) := by decide +kernel
theorem dX12_readKey_0 : decode cX12_readKey 0 = .ok (.aload_n 0, 1) := by decide +kernel
theorem dX12_readKey_1 : decode cX12_readKey 1 = .ok (.getfield 283, 3) := by decide +kernel
theorem dX12_readKey_4 : decode cX12_readKey 4 = .ok (.iconst 1, 1) := by decide +kernel
theorem dX12_readKey_5 : decode cX12_readKey 5 = .ok (.if_icmp .ne 30, 3) := by decide +kernel
theorem dX12_readKey_35 : decode cX12_readKey 35 = .ok (.aload_n 0, 1) := by decide +kernel
theorem dX12_readKey_36 : decode cX12_readKey 36 = .ok (.iconst 1, 1) := by decide +kernel
theorem dX12_readKey_37 : decode cX12_readKey 37 = .ok (.invokevirtual 291, 3) := by decide +kernel
theorem dX12_readKey_40 : decode cX12_readKey 40 = .ok (.ireturn, 1) := by decide +kernel
theorem dX12_readKey_8 : decode cX12_readKey 8 = .ok (.aload_n 0, 1) := by decide +kernel
theorem dX12_readKey_9 : decode cX12_readKey 9 = .ok (.getfield 264, 3) := by decide +kernel
theorem dX12_readKey_12 : decode cX12_readKey 12 = .ok (.aload_n 0, 1) := by decide +kernel
theorem dX12_readKey_13 : decode cX12_readKey 13 = .ok (.getfield 270, 3) := by decide +kernel
theorem dX12_readKey_16 : decode cX12_readKey 16 = .ok (.isub, 1) := by decide +kernel
theorem dX12_readKey_17 : decode cX12_readKey 17 = .ok (.iconst 1, 1) := by decide +kernel
theorem dX12_readKey_18 : decode cX12_readKey 18 = .ok (.if_icmp .ne 17, 3) := by decide +kernel
theorem dX12_readKey_21 : decode cX12_readKey 21 = .ok (.aload_n 0, 1) := by decide +kernel
theorem dX12_readKey_22 : decode cX12_readKey 22 = .ok (.aload_n 0, 1) := by decide +kernel
theorem dX12_readKey_23 : decode cX12_readKey 23 = .ok (.getfield 270, 3) := by decide +kernel
theorem dX12_readKey_26 : decode cX12_readKey 26 = .ok (.invokevirtual 267, 3) := by decide +kernel
theorem dX12_readMode_0 : decode cX12_readMode 0 = .ok (.aload_n 0, 1) := by decide +kernel
theorem dX12_readMode_1 : decode cX12_readMode 1 = .ok (.getfield 9, 3) := by decide +kernel
theorem dX12_readMode_4 : decode cX12_readMode 4 = .ok (.sipush 2718, 3) := by decide +kernel
theorem dX12_readMode_7 : decode cX12_readMode 7 = .ok (.iaload, 1) := by decide +kernel
theorem dX12_readMode_8 : decode cX12_readMode 8 = .ok (.bipush 6, 2) := by decide +kernel
theorem dX12_readMode_10 : decode cX12_readMode 10 = .ok (.if_icmp .ne 9, 3) := by decide +kernel
theorem dX12_readMode_19 : decode cX12_readMode 19 = .ok (.aload_n 0, 1) := by decide +kernel
theorem dX12_readMode_20 : decode cX12_readMode 20 = .ok (.invokevirtual 288, 3) := by decide +kernel
theorem dX12_readCommand_0 : decode cX12_readCommand 0 = .ok (.aload_n 0, 1) := by decide +kernel
theorem dX12_readCommand_1 : decode cX12_readCommand 1 = .ok (.getfield 9, 3) := by decide +kernel
theorem dX12_readCommand_4 : decode cX12_readCommand 4 = .ok (.sipush 2719, 3) := by decide +kernel
theorem dX12_readCommand_7 : decode cX12_readCommand 7 = .ok (.iaload, 1) := by decide +kernel
theorem dX12_readCommand_8 : decode cX12_readCommand 8 = .ok (.bipush 40, 2) := by decide +kernel
theorem dX12_readCommand_10 : decode cX12_readCommand 10 = .ok (.if_icmp .ne 9, 3) := by decide +kernel
theorem dX12_readCommand_19 : decode cX12_readCommand 19 = .ok (.aload_n 0, 1) := by decide +kernel
theorem dX12_readCommand_20 : decode cX12_readCommand 20 = .ok (.invokevirtual 288, 3) := by decide +kernel
theorem dX12_clashesRead_0 : decode cX12_clashesRead 0 = .ok (.iconst 0, 1) := by decide +kernel
theorem dX12_clashesRead_1 : decode cX12_clashesRead 1 = .ok (.istore_n 3, 1) := by decide +kernel
theorem dX12_clashesRead_2 : decode cX12_clashesRead 2 = .ok (.iconst 0, 1) := by decide +kernel
theorem dX12_clashesRead_3 : decode cX12_clashesRead 3 = .ok (.istore 4, 2) := by decide +kernel
theorem dX12_clashesRead_5 : decode cX12_clashesRead 5 = .ok (.iload 4, 2) := by decide +kernel
theorem dX12_clashesRead_7 : decode cX12_clashesRead 7 = .ok (.aload_n 0, 1) := by decide +kernel
theorem dX12_clashesRead_8 : decode cX12_clashesRead 8 = .ok (.getfield 9, 3) := by decide +kernel
theorem dX12_clashesRead_11 : decode cX12_clashesRead 11 = .ok (.sipush 2721, 3) := by decide +kernel
theorem dX12_clashesRead_14 : decode cX12_clashesRead 14 = .ok (.iaload, 1) := by decide +kernel
theorem dX12_clashesRead_15 : decode cX12_clashesRead 15 = .ok (.if_icmp .ge 59, 3) := by decide +kernel
theorem dX12_clashesRead_74 : decode cX12_clashesRead 74 = .ok (.iload_n 3, 1) := by decide +kernel
theorem dX12_clashesRead_75 : decode cX12_clashesRead 75 = .ok (.ireturn, 1) := by decide +kernel
theorem dX12_readReserved_0 : decode cX12_readReserved 0 = .ok (.aload_n 0, 1) := by decide +kernel
theorem dX12_readReserved_1 : decode cX12_readReserved 1 = .ok (.getfield 9, 3) := by decide +kernel
theorem dX12_readReserved_4 : decode cX12_readReserved 4 = .ok (.sipush 2720, 3) := by decide +kernel
theorem dX12_readReserved_7 : decode cX12_readReserved 7 = .ok (.iaload, 1) := by decide +kernel
theorem dX12_readReserved_8 : decode cX12_readReserved 8 = .ok (.bipush 6, 2) := by decide +kernel
theorem dX12_readReserved_10 : decode cX12_readReserved 10 = .ok (.if_icmp .ne 9, 3) := by decide +kernel
theorem dX12_readReserved_19 : decode cX12_readReserved 19 = .ok (.aload_n 0, 1) := by decide +kernel
theorem dX12_readReserved_20 : decode cX12_readReserved 20 = .ok (.getfield 270, 3) := by decide +kernel
theorem dX12_readReserved_23 : decode cX12_readReserved 23 = .ok (.istore_n 1, 1) := by decide +kernel
theorem dX12_readReserved_24 : decode cX12_readReserved 24 = .ok (.sipush 2718, 3) := by decide +kernel
theorem dX12_readReserved_27 : decode cX12_readReserved 27 = .ok (.aload_n 0, 1) := by decide +kernel
theorem dX12_readReserved_28 : decode cX12_readReserved 28 = .ok (.getfield 9, 3) := by decide +kernel
theorem dX12_readReserved_31 : decode cX12_readReserved 31 = .ok (.sipush 2720, 3) := by decide +kernel
theorem dX12_readReserved_34 : decode cX12_readReserved 34 = .ok (.iaload, 1) := by decide +kernel
theorem dX12_readReserved_35 : decode cX12_readReserved 35 = .ok (.invokestatic 108, 3) := by decide +kernel
theorem dX12_readReserved_38 : decode cX12_readReserved 38 = .ok (.iadd, 1) := by decide +kernel
theorem dX12_readReserved_39 : decode cX12_readReserved 39 = .ok (.istore_n 2, 1) := by decide +kernel
theorem dX12_readReserved_40 : decode cX12_readReserved 40 = .ok (.aload_n 0, 1) := by decide +kernel
theorem dX12_readReserved_41 : decode cX12_readReserved 41 = .ok (.invokevirtual 288, 3) := by decide +kernel
theorem dX12_readBinding_0 : decode cX12_readBinding 0 = .ok (.aload_n 0, 1) := by decide +kernel
theorem dX12_readBinding_1 : decode cX12_readBinding 1 = .ok (.getfield 9, 3) := by decide +kernel
theorem dX12_readBinding_4 : decode cX12_readBinding 4 = .ok (.sipush 2721, 3) := by decide +kernel
theorem dX12_readBinding_7 : decode cX12_readBinding 7 = .ok (.iaload, 1) := by decide +kernel
theorem dX12_readBinding_8 : decode cX12_readBinding 8 = .ok (.bipush 80, 2) := by decide +kernel
theorem dX12_readBinding_10 : decode cX12_readBinding 10 = .ok (.if_icmp .ne 9, 3) := by decide +kernel
theorem dX12_readBinding_19 : decode cX12_readBinding 19 = .ok (.aload_n 0, 1) := by decide +kernel
theorem dX12_readBinding_20 : decode cX12_readBinding 20 = .ok (.getfield 270, 3) := by decide +kernel
theorem dX12_readBinding_23 : decode cX12_readBinding 23 = .ok (.istore_n 1, 1) := by decide +kernel
theorem dX12_readBinding_24 : decode cX12_readBinding 24 = .ok (.sipush 2718, 3) := by decide +kernel
theorem dX12_readBinding_27 : decode cX12_readBinding 27 = .ok (.aload_n 0, 1) := by decide +kernel
theorem dX12_readBinding_28 : decode cX12_readBinding 28 = .ok (.getfield 9, 3) := by decide +kernel
theorem dX12_readBinding_31 : decode cX12_readBinding 31 = .ok (.sipush 2721, 3) := by decide +kernel
theorem dX12_readBinding_34 : decode cX12_readBinding 34 = .ok (.iaload, 1) := by decide +kernel
theorem dX12_readBinding_35 : decode cX12_readBinding 35 = .ok (.invokestatic 79, 3) := by decide +kernel
theorem dX12_readBinding_38 : decode cX12_readBinding 38 = .ok (.iadd, 1) := by decide +kernel
theorem dX12_readBinding_39 : decode cX12_readBinding 39 = .ok (.istore_n 2, 1) := by decide +kernel
theorem dX12_readBinding_40 : decode cX12_readBinding 40 = .ok (.aload_n 0, 1) := by decide +kernel
theorem dX12_readBinding_41 : decode cX12_readBinding 41 = .ok (.invokevirtual 288, 3) := by decide +kernel
theorem dX12_readLayer_0 : decode cX12_readLayer 0 = .ok (.aload_n 0, 1) := by decide +kernel
theorem dX12_readLayer_1 : decode cX12_readLayer 1 = .ok (.getfield 9, 3) := by decide +kernel
theorem dX12_readLayer_4 : decode cX12_readLayer 4 = .ok (.sipush 2722, 3) := by decide +kernel
theorem dX12_readLayer_7 : decode cX12_readLayer 7 = .ok (.iaload, 1) := by decide +kernel
theorem dX12_readLayer_8 : decode cX12_readLayer 8 = .ok (.iconst 4, 1) := by decide +kernel
theorem dX12_readLayer_9 : decode cX12_readLayer 9 = .ok (.if_icmp .ne 9, 3) := by decide +kernel
theorem dX12_readLayer_18 : decode cX12_readLayer 18 = .ok (.aload_n 0, 1) := by decide +kernel
theorem dX12_readLayer_19 : decode cX12_readLayer 19 = .ok (.getfield 270, 3) := by decide +kernel
theorem dX12_readLayer_22 : decode cX12_readLayer 22 = .ok (.istore_n 1, 1) := by decide +kernel
theorem dX12_readLayer_23 : decode cX12_readLayer 23 = .ok (.sipush 3462, 3) := by decide +kernel
theorem dX12_readLayer_26 : decode cX12_readLayer 26 = .ok (.bipush 28, 2) := by decide +kernel
theorem dX12_readLayer_28 : decode cX12_readLayer 28 = .ok (.aload_n 0, 1) := by decide +kernel
theorem dX12_readLayer_29 : decode cX12_readLayer 29 = .ok (.getfield 9, 3) := by decide +kernel
theorem dX12_readLayer_32 : decode cX12_readLayer 32 = .ok (.sipush 2722, 3) := by decide +kernel
theorem dX12_readLayer_35 : decode cX12_readLayer 35 = .ok (.iaload, 1) := by decide +kernel
theorem dX12_readLayer_36 : decode cX12_readLayer 36 = .ok (.imul, 1) := by decide +kernel
theorem dX12_readLayer_37 : decode cX12_readLayer 37 = .ok (.iadd, 1) := by decide +kernel
theorem dX12_readLayer_38 : decode cX12_readLayer 38 = .ok (.istore_n 2, 1) := by decide +kernel
theorem dX12_readLayer_39 : decode cX12_readLayer 39 = .ok (.aload_n 0, 1) := by decide +kernel
theorem dX12_readLayer_40 : decode cX12_readLayer 40 = .ok (.invokevirtual 288, 3) := by decide +kernel
theorem dX12_readTimeout_0 : decode cX12_readTimeout 0 = .ok (.aload_n 0, 1) := by decide +kernel
theorem dX12_readTimeout_1 : decode cX12_readTimeout 1 = .ok (.invokevirtual 288, 3) := by decide +kernel
theorem dX12_readStatement_0 : decode cX12_readStatement 0 = .ok (.aload_n 0, 1) := by decide +kernel
theorem dX12_readStatement_1 : decode cX12_readStatement 1 = .ok (.bipush 109, 2) := by decide +kernel
theorem dX12_readStatement_3 : decode cX12_readStatement 3 = .ok (.bipush 111, 2) := by decide +kernel
theorem dX12_readStatement_5 : decode cX12_readStatement 5 = .ok (.bipush 100, 2) := by decide +kernel
theorem dX12_readStatement_7 : decode cX12_readStatement 7 = .ok (.bipush 101, 2) := by decide +kernel
theorem dX12_readStatement_9 : decode cX12_readStatement 9 = .ok (.iconst 0, 1) := by decide +kernel
theorem dX12_readStatement_10 : decode cX12_readStatement 10 = .ok (.iconst 0, 1) := by decide +kernel
theorem dX12_readStatement_11 : decode cX12_readStatement 11 = .ok (.invokestatic 319, 3) := by decide +kernel
theorem glS_RX12_319 : GLS RX12 319 yX12_pack cX12_pack 8 (some .long) 6 := ⟨⟨(mT9 225 rfl rfl), (mT9 226 rfl rfl), (mT1 13 rfl rfl), (mT9 227 rfl rfl)⟩, by decide +kernel⟩
theorem dX12_readStatement_14 : decode cX12_readStatement 14 = .ok (.invokevirtual 323, 3) := by decide +kernel
theorem glV_RX12_323 : GLV RX12 323 yX12_isWord RX12 cX12_isWord 3 (some .boolean) 1 := ⟨⟨(mT9 228 rfl rfl), (mT9 230 rfl rfl), (mTs 76 rfl rfl), (mT1 13 rfl rfl), (mT9 231 rfl rfl)⟩, by decide +kernel⟩
theorem dX12_readStatement_17 : decode cX12_readStatement 17 = .ok (.ifCond .eq 8, 3) := by decide +kernel
theorem dX12_readStatement_25 : decode cX12_readStatement 25 = .ok (.aload_n 0, 1) := by decide +kernel
theorem dX12_readStatement_26 : decode cX12_readStatement 26 = .ok (.bipush 112, 2) := by decide +kernel
theorem dX12_readStatement_28 : decode cX12_readStatement 28 = .ok (.bipush 108, 2) := by decide +kernel
theorem dX12_readStatement_30 : decode cX12_readStatement 30 = .ok (.bipush 97, 2) := by decide +kernel
theorem dX12_readStatement_32 : decode cX12_readStatement 32 = .ok (.bipush 105, 2) := by decide +kernel
theorem dX12_readStatement_34 : decode cX12_readStatement 34 = .ok (.bipush 110, 2) := by decide +kernel
theorem dX12_readStatement_36 : decode cX12_readStatement 36 = .ok (.iconst 0, 1) := by decide +kernel
theorem dX12_readStatement_37 : decode cX12_readStatement 37 = .ok (.invokestatic 319, 3) := by decide +kernel
theorem dX12_readStatement_40 : decode cX12_readStatement 40 = .ok (.invokevirtual 323, 3) := by decide +kernel
theorem dX12_readStatement_43 : decode cX12_readStatement 43 = .ok (.ifCond .eq 9, 3) := by decide +kernel
theorem dX12_readStatement_52 : decode cX12_readStatement 52 = .ok (.aload_n 0, 1) := by decide +kernel
theorem dX12_readStatement_53 : decode cX12_readStatement 53 = .ok (.bipush 115, 2) := by decide +kernel
theorem dX12_readStatement_55 : decode cX12_readStatement 55 = .ok (.bipush 119, 2) := by decide +kernel
theorem dX12_readStatement_57 : decode cX12_readStatement 57 = .ok (.bipush 105, 2) := by decide +kernel
theorem dX12_readStatement_59 : decode cX12_readStatement 59 = .ok (.bipush 116, 2) := by decide +kernel
theorem dX12_readStatement_61 : decode cX12_readStatement 61 = .ok (.bipush 99, 2) := by decide +kernel
theorem dX12_readStatement_63 : decode cX12_readStatement 63 = .ok (.bipush 104, 2) := by decide +kernel
theorem dX12_readStatement_65 : decode cX12_readStatement 65 = .ok (.invokestatic 319, 3) := by decide +kernel
theorem dX12_readStatement_68 : decode cX12_readStatement 68 = .ok (.invokevirtual 323, 3) := by decide +kernel
theorem dX12_readStatement_71 : decode cX12_readStatement 71 = .ok (.ifCond .eq 9, 3) := by decide +kernel
theorem dX12_readStatement_80 : decode cX12_readStatement 80 = .ok (.aload_n 0, 1) := by decide +kernel
theorem dX12_readStatement_81 : decode cX12_readStatement 81 = .ok (.bipush 98, 2) := by decide +kernel
theorem dX12_readStatement_83 : decode cX12_readStatement 83 = .ok (.bipush 97, 2) := by decide +kernel
theorem dX12_readStatement_85 : decode cX12_readStatement 85 = .ok (.bipush 99, 2) := by decide +kernel
theorem dX12_readStatement_87 : decode cX12_readStatement 87 = .ok (.bipush 107, 2) := by decide +kernel
theorem dX12_readStatement_89 : decode cX12_readStatement 89 = .ok (.iconst 0, 1) := by decide +kernel
theorem dX12_readStatement_90 : decode cX12_readStatement 90 = .ok (.iconst 0, 1) := by decide +kernel
theorem dX12_readStatement_91 : decode cX12_readStatement 91 = .ok (.invokestatic 319, 3) := by decide +kernel
theorem dX12_readStatement_94 : decode cX12_readStatement 94 = .ok (.invokevirtual 323, 3) := by decide +kernel
theorem dX12_readStatement_97 : decode cX12_readStatement 97 = .ok (.ifCond .eq 9, 3) := by decide +kernel
theorem dX12_readStatement_106 : decode cX12_readStatement 106 = .ok (.aload_n 0, 1) := by decide +kernel
theorem dX12_readStatement_107 : decode cX12_readStatement 107 = .ok (.bipush 114, 2) := by decide +kernel
theorem dX12_readStatement_109 : decode cX12_readStatement 109 = .ok (.bipush 101, 2) := by decide +kernel
theorem dX12_readStatement_111 : decode cX12_readStatement 111 = .ok (.bipush 115, 2) := by decide +kernel
theorem dX12_readStatement_113 : decode cX12_readStatement 113 = .ok (.bipush 101, 2) := by decide +kernel
theorem dX12_readStatement_115 : decode cX12_readStatement 115 = .ok (.bipush 114, 2) := by decide +kernel
theorem dX12_readStatement_117 : decode cX12_readStatement 117 = .ok (.bipush 118, 2) := by decide +kernel
theorem dX12_readStatement_119 : decode cX12_readStatement 119 = .ok (.invokestatic 319, 3) := by decide +kernel
theorem dX12_readStatement_122 : decode cX12_readStatement 122 = .ok (.bipush 7, 2) := by decide +kernel
theorem dX12_readStatement_124 : decode cX12_readStatement 124 = .ok (.lshl, 1) := by decide +kernel
theorem dX12_readStatement_125 : decode cX12_readStatement 125 = .ok (.ldc2_w 333, 3) := by decide +kernel
theorem dX12_readStatement_128 : decode cX12_readStatement 128 = .ok (.lor, 1) := by decide +kernel
theorem dX12_readStatement_129 : decode cX12_readStatement 129 = .ok (.invokevirtual 323, 3) := by decide +kernel
theorem dX12_readStatement_132 : decode cX12_readStatement 132 = .ok (.ifCond .eq 8, 3) := by decide +kernel
theorem dX12_readStatement_140 : decode cX12_readStatement 140 = .ok (.aload_n 0, 1) := by decide +kernel
theorem dX12_readStatement_141 : decode cX12_readStatement 141 = .ok (.bipush 98, 2) := by decide +kernel
theorem dX12_readStatement_143 : decode cX12_readStatement 143 = .ok (.bipush 105, 2) := by decide +kernel
theorem dX12_readStatement_145 : decode cX12_readStatement 145 = .ok (.bipush 110, 2) := by decide +kernel
theorem dX12_readStatement_147 : decode cX12_readStatement 147 = .ok (.bipush 100, 2) := by decide +kernel
theorem dX12_readStatement_149 : decode cX12_readStatement 149 = .ok (.iconst 0, 1) := by decide +kernel
theorem dX12_readStatement_150 : decode cX12_readStatement 150 = .ok (.iconst 0, 1) := by decide +kernel
theorem dX12_readStatement_151 : decode cX12_readStatement 151 = .ok (.invokestatic 319, 3) := by decide +kernel
theorem dX12_readStatement_154 : decode cX12_readStatement 154 = .ok (.invokevirtual 323, 3) := by decide +kernel
theorem dX12_readStatement_157 : decode cX12_readStatement 157 = .ok (.ifCond .eq 8, 3) := by decide +kernel
theorem dX12_readStatement_165 : decode cX12_readStatement 165 = .ok (.aload_n 0, 1) := by decide +kernel
theorem dX12_readStatement_166 : decode cX12_readStatement 166 = .ok (.bipush 108, 2) := by decide +kernel
theorem dX12_readStatement_168 : decode cX12_readStatement 168 = .ok (.bipush 97, 2) := by decide +kernel
theorem dX12_readStatement_170 : decode cX12_readStatement 170 = .ok (.bipush 121, 2) := by decide +kernel
theorem dX12_readStatement_172 : decode cX12_readStatement 172 = .ok (.bipush 101, 2) := by decide +kernel
theorem dX12_readStatement_174 : decode cX12_readStatement 174 = .ok (.bipush 114, 2) := by decide +kernel
theorem dX12_readStatement_176 : decode cX12_readStatement 176 = .ok (.iconst 0, 1) := by decide +kernel
theorem dX12_readStatement_177 : decode cX12_readStatement 177 = .ok (.invokestatic 319, 3) := by decide +kernel
theorem dX12_readStatement_180 : decode cX12_readStatement 180 = .ok (.invokevirtual 323, 3) := by decide +kernel
theorem dX12_readStatement_183 : decode cX12_readStatement 183 = .ok (.ifCond .eq 8, 3) := by decide +kernel
theorem dX12_readStatement_191 : decode cX12_readStatement 191 = .ok (.aload_n 0, 1) := by decide +kernel
theorem dX12_readStatement_192 : decode cX12_readStatement 192 = .ok (.bipush 116, 2) := by decide +kernel
theorem dX12_readStatement_194 : decode cX12_readStatement 194 = .ok (.bipush 105, 2) := by decide +kernel
theorem dX12_readStatement_196 : decode cX12_readStatement 196 = .ok (.bipush 109, 2) := by decide +kernel
theorem dX12_readStatement_198 : decode cX12_readStatement 198 = .ok (.bipush 101, 2) := by decide +kernel
theorem dX12_readStatement_200 : decode cX12_readStatement 200 = .ok (.bipush 111, 2) := by decide +kernel
theorem dX12_readStatement_202 : decode cX12_readStatement 202 = .ok (.bipush 117, 2) := by decide +kernel
theorem dX12_readStatement_204 : decode cX12_readStatement 204 = .ok (.invokestatic 319, 3) := by decide +kernel
theorem dX12_readStatement_207 : decode cX12_readStatement 207 = .ok (.bipush 7, 2) := by decide +kernel
theorem dX12_readStatement_209 : decode cX12_readStatement 209 = .ok (.lshl, 1) := by decide +kernel
theorem dX12_readStatement_210 : decode cX12_readStatement 210 = .ok (.ldc2_w 344, 3) := by decide +kernel
theorem dX12_readStatement_213 : decode cX12_readStatement 213 = .ok (.lor, 1) := by decide +kernel
theorem dX12_readStatement_214 : decode cX12_readStatement 214 = .ok (.invokevirtual 323, 3) := by decide +kernel
theorem dX12_readStatement_217 : decode cX12_readStatement 217 = .ok (.ifCond .eq 10, 3) := by decide +kernel
theorem dX12_readStatement_227 : decode cX12_readStatement 227 = .ok (.aload_n 0, 1) := by decide +kernel
theorem dX12_readStatement_228 : decode cX12_readStatement 228 = .ok (.iconst 1, 1) := by decide +kernel
theorem dX12_readStatement_229 : decode cX12_readStatement 229 = .ok (.invokevirtual 291, 3) := by decide +kernel
theorem dX12_readStatement_232 : decode cX12_readStatement 232 = .ok (.ireturn, 1) := by decide +kernel
theorem dX12_readStatement_220 : decode cX12_readStatement 220 = .ok (.aload_n 0, 1) := by decide +kernel
theorem dX12_readStatement_221 : decode cX12_readStatement 221 = .ok (.invokevirtual 346, 3) := by decide +kernel
theorem dX12_areTargetsThere_0 : decode cX12_areTargetsThere 0 = .ok (.iconst 0, 1) := by decide +kernel
theorem dX12_areTargetsThere_1 : decode cX12_areTargetsThere 1 = .ok (.istore_n 1, 1) := by decide +kernel
theorem dX12_areTargetsThere_2 : decode cX12_areTargetsThere 2 = .ok (.iload_n 1, 1) := by decide +kernel
theorem dX12_areTargetsThere_3 : decode cX12_areTargetsThere 3 = .ok (.aload_n 0, 1) := by decide +kernel
theorem dX12_areTargetsThere_4 : decode cX12_areTargetsThere 4 = .ok (.getfield 9, 3) := by decide +kernel
theorem dX12_areTargetsThere_7 : decode cX12_areTargetsThere 7 = .ok (.sipush 2719, 3) := by decide +kernel
theorem dX12_areTargetsThere_10 : decode cX12_areTargetsThere 10 = .ok (.iaload, 1) := by decide +kernel
theorem dX12_areTargetsThere_11 : decode cX12_areTargetsThere 11 = .ok (.if_icmp .ge 40, 3) := by decide +kernel
theorem dX12_areTargetsThere_51 : decode cX12_areTargetsThere 51 = .ok (.iconst 1, 1) := by decide +kernel
theorem dX12_areTargetsThere_52 : decode cX12_areTargetsThere 52 = .ok (.ireturn, 1) := by decide +kernel
theorem dX12_areTargetsThere_14 : decode cX12_areTargetsThere 14 = .ok (.aload_n 0, 1) := by decide +kernel
theorem dX12_areTargetsThere_15 : decode cX12_areTargetsThere 15 = .ok (.getfield 9, 3) := by decide +kernel
theorem dX12_areTargetsThere_18 : decode cX12_areTargetsThere 18 = .ok (.sipush 2752, 3) := by decide +kernel
theorem dX12_areTargetsThere_21 : decode cX12_areTargetsThere 21 = .ok (.iconst 3, 1) := by decide +kernel
theorem dX12_areTargetsThere_22 : decode cX12_areTargetsThere 22 = .ok (.iload_n 1, 1) := by decide +kernel
theorem dX12_areTargetsThere_23 : decode cX12_areTargetsThere 23 = .ok (.imul, 1) := by decide +kernel
theorem dX12_areTargetsThere_24 : decode cX12_areTargetsThere 24 = .ok (.iadd, 1) := by decide +kernel
theorem dX12_areTargetsThere_25 : decode cX12_areTargetsThere 25 = .ok (.iconst 1, 1) := by decide +kernel
theorem dX12_areTargetsThere_26 : decode cX12_areTargetsThere 26 = .ok (.iadd, 1) := by decide +kernel
theorem dX12_areTargetsThere_27 : decode cX12_areTargetsThere 27 = .ok (.iaload, 1) := by decide +kernel
theorem rl26 : ∀ z0, z0 < 40 → bd (2753 + 3 * z0) = ((-1), 5) := by decide +kernel
theorem dX12_areTargetsThere_28 : decode cX12_areTargetsThere 28 = .ok (.aload_n 0, 1) := by decide +kernel
theorem dX12_areTargetsThere_29 : decode cX12_areTargetsThere 29 = .ok (.getfield 9, 3) := by decide +kernel
theorem dX12_areTargetsThere_32 : decode cX12_areTargetsThere 32 = .ok (.sipush 2718, 3) := by decide +kernel
theorem dX12_areTargetsThere_35 : decode cX12_areTargetsThere 35 = .ok (.iaload, 1) := by decide +kernel
theorem dX12_areTargetsThere_36 : decode cX12_areTargetsThere 36 = .ok (.if_icmp .lt 9, 3) := by decide +kernel
theorem dX12_areTargetsThere_45 : decode cX12_areTargetsThere 45 = .ok (.iinc 1 1, 3) := by decide +kernel
theorem dX12_areTargetsThere_48 : decode cX12_areTargetsThere 48 = .ok (.goto (-46), 3) := by decide +kernel
theorem dX12_areTargetsThere_39 : decode cX12_areTargetsThere 39 = .ok (.aload_n 0, 1) := by decide +kernel
theorem dX12_areTargetsThere_40 : decode cX12_areTargetsThere 40 = .ok (.iconst 5, 1) := by decide +kernel
theorem dX12_areTargetsThere_41 : decode cX12_areTargetsThere 41 = .ok (.invokevirtual 291, 3) := by decide +kernel
theorem dX12_areTargetsThere_44 : decode cX12_areTargetsThere 44 = .ok (.ireturn, 1) := by decide +kernel
set_option maxRecDepth 100000 in
set_option maxHeartbeats 4000000 in
theorem rX12_areTargetsThere (l : Launch) (D : va_G) (Y : Nat → ClassId) (h0 : Nat) (h1 : Nat) (h2 : Nat) (h3 : Nat) (h4 : Nat) (h5 : Nat) (h6 : Nat) (p2 : Int32) (k5 : Nat) (k6 : Nat) (p7 : Int32) (p8 : Int32) (p9 : Int32) (k10 : Nat) (p11 : Int32) (q12 : Int64) (k15 : Nat) (k16 : Nat) (f0 : Nat → Int32) (f1 : Nat → Int32) (f3 : Nat → Int32) (f4 : Nat → Int32) (f13 : Nat → Int32) (f14 : Nat → Int32) (HI : INV f0) (HL : k5 ≤ 1600) (HP : PLV f13)   (sz : Nat) : Met l yX12_areTargetsThere (WSm yX12_areTargetsThere cX12_areTargetsThere 2 (some .boolean)) (mkR 1 0 0 21) (PreC D Y [.ref h0] [(h0, oC 13 [.ref h1, .ref h2, .int p2, .ref h3, .ref h4, .int (nI k5), .int (nI k6), .int p7, .int p8, .int p9, .int (nI k10), .int p11, .long q12, .ref h5, .ref h6, .int (nI k15), .int (nI k16)]), (h1, aI Y 3640 f0), (h2, aZ Y 2 f1), (h3, aZ Y 80 f3), (h4, aB Y 1600 f4), (h5, aI Y 200 f13), (h6, aI Y 800 f14)] sz) (QI D (fun (r : Int32) (u : WU) => (r = 0 ∨ r = 1)) (fun (u : WU) => [(h0, oC 13 [.ref h1, .ref h2, .int p2, .ref h3, .ref h4, .int (nI k5), .int (nI k6), .int (u.2.1 0), .int (u.2.1 1), .int p9, .int (nI k10), .int p11, .long q12, .ref h5, .ref h6, .int (nI k15), .int (nI k16)]), (h1, aI Y 3640 f0), (h2, aZ Y 2 f1), (h3, aZ Y 80 f3), (h4, aB Y 1600 f4), (h5, aI Y 200 f13), (h6, aI Y 800 f14)]) (va_A [(h0, oC 13 [.ref h1, .ref h2, .int p2, .ref h3, .ref h4, .int (nI k5), .int (nI k6), .int p7, .int p8, .int p9, .int (nI k10), .int p11, .long q12, .ref h5, .ref h6, .int (nI k15), .int (nI k16)]), (h1, aI Y 3640 f0), (h2, aZ Y 2 f1), (h3, aZ Y 80 f3), (h4, aB Y 1600 f4), (h5, aI Y 200 f13), (h6, aI Y 800 f14)] sz)) 0 0 (va_A [(h0, oC 13 [.ref h1, .ref h2, .int p2, .ref h3, .ref h4, .int (nI k5), .int (nI k6), .int p7, .int p8, .int p9, .int (nI k10), .int p11, .long q12, .ref h5, .ref h6, .int (nI k15), .int (nI k16)]), (h1, aI Y 3640 f0), (h2, aZ Y 2 f1), (h3, aZ Y 80 f3), (h4, aB Y 1600 f4), (h5, aI Y 200 f13), (h6, aI Y 800 f14)] sz) :=
  met_of (by decide +kernel) (Nat.le_of_ble_eq_true rfl) (fun p e s m args below meth c B hin hsz => by
    have B : VB p s m args meth c D Y (va_A [(h0, oC 13 [.ref h1, .ref h2, .int p2, .ref h3, .ref h4, .int (nI k5), .int (nI k6), .int p7, .int p8, .int p9, .int (nI k10), .int p11, .long q12, .ref h5, .ref h6, .int (nI k15), .int (nI k16)]), (h1, aI Y 3640 f0), (h2, aZ Y 2 f1), (h3, aZ Y 80 f3), (h4, aB Y 1600 f4), (h5, aI Y 200 f13), (h6, aI Y 800 f14)] sz) cX12_areTargetsThere 2 RX12 (some .boolean) := B
    refine V_iconst 0 B (v := 0) dX12_areTargetsThere_0 (by decide +kernel) ?_
    refine V_istore_n 1 B (lv2 := [(1, .int 0), (0, .ref h0)]) dX12_areTargetsThere_1 (by decide) rfl ?_
    refine V_wloop (α := WU) (fun a => 100000 - (a.1 0)) (fun a => (a.1 0) ≤ 4000) (fun a => [(1, .int (nI (a.1 0))), (0, .ref h0)]) (fun a => [(h0, oC 13 [.ref h1, .ref h2, .int p2, .ref h3, .ref h4, .int (nI k5), .int (nI k6), .int (a.2.1 0), .int (a.2.1 1), .int p9, .int (nI k10), .int p11, .long q12, .ref h5, .ref h6, .int (nI k15), .int (nI k16)]), (h1, aI Y 3640 f0), (h2, aZ Y 2 f1), (h3, aZ Y 80 f3), (h4, aB Y 1600 f4), (h5, aI Y 200 f13), (h6, aI Y 800 f14)]) (mkW [0] [p7, p8] [] [] [] []) (show 0 ≤ 4000 by omega) rfl rfl (fun a0 hI2 IH1 => ?_)
    refine V_lv [(1, .int (nI (a0.1 0))), (0, .ref h0)] [0, 1] rfl ?_
    refine V_ws [(h0, oC 13 [.ref h1, .ref h2, .int p2, .ref h3, .ref h4, .int (nI k5), .int (nI k6), .int (a0.2.1 0), .int (a0.2.1 1), .int p9, .int (nI k10), .int p11, .long q12, .ref h5, .ref h6, .int (nI k15), .int (nI k16)]), (h1, aI Y 3640 f0), (h2, aZ Y 2 f1), (h3, aZ Y 80 f3), (h4, aB Y 1600 f4), (h5, aI Y 200 f13), (h6, aI Y 800 f14)] rfl ?_
    have x3 := hI2
    refine V_iload_n 2 B dX12_areTargetsThere_2 0 rfl ?_
    refine V_aload_n 3 B dX12_areTargetsThere_3 1 rfl ?_
    refine V_get 4 B gf_RX12_9 0 rfl rfl dX12_areTargetsThere_4 ?_
    refine V_sipush 7 B (v := 2719) dX12_areTargetsThere_7 (by decide +kernel) ?_
    have x4 : (gN f0 2719) ≤ 40 := gN_le HI (by omega) (show bd 2719 = (0, ((40 : Nat) : Int)) by decide +kernel)
    refine V_iald 10 B (v := (nI (gN f0 2719))) 1 rfl (vpin _ _ (by decide +kernel)) dX12_areTargetsThere_10 (by show f0 2719 = _; exact gN_eq HI (by omega) (show bd 2719 = (0, ((40 : Nat) : Int)) by decide +kernel)) ?_
    refine V_icmp_ge 11 B 51 dX12_areTargetsThere_11 (by decide) (fun kk5 => ?_) (fun kk5 => ?_)
    ·
      have x6 := n_le (a := (gN f0 2719)) (b := (a0.1 0)) kk5 (by omega) (by omega)
      refine V_iconst 51 B (v := 1) dX12_areTargetsThere_51 (by decide +kernel) ?_
      exact V_zret 52 B rfl dX12_areTargetsThere_52 (mkW [] [(a0.2.1 0), (a0.2.1 1)] [] [] [] []) (Or.inr rfl) rfl
    ·
      have x7 := n_nle (a := (gN f0 2719)) (b := (a0.1 0)) kk5 (by omega) (by omega)
      refine V_aload_n 14 B dX12_areTargetsThere_14 1 rfl ?_
      refine V_get 15 B gf_RX12_9 0 rfl rfl dX12_areTargetsThere_15 ?_
      refine V_sipush 18 B (v := 2752) dX12_areTargetsThere_18 (by decide +kernel) ?_
      refine V_iconst 21 B (v := 3) dX12_areTargetsThere_21 (by decide +kernel) ?_
      refine V_iload_n 22 B dX12_areTargetsThere_22 0 rfl ?_
      refine V_imul 23 B (v := (nI (3 * (a0.1 0)))) dX12_areTargetsThere_23 (nI_mulE (a := 3) (b := (a0.1 0)) (by omega)) ?_
      refine V_iadd 24 B (v := (nI (2752 + 3 * (a0.1 0)))) dX12_areTargetsThere_24 (nI_addE (a := 2752) (b := 3 * (a0.1 0)) (by omega)) ?_
      refine V_iconst 25 B (v := 1) dX12_areTargetsThere_25 (by decide +kernel) ?_
      refine V_iadd 26 B (v := (nI (2753 + 3 * (a0.1 0)))) dX12_areTargetsThere_26 (nI_addE (a := 2752 + 3 * (a0.1 0)) (b := 1) (by omega)) ?_
      refine V_iald 27 B (v := f0 (2753 + 3 * (a0.1 0))) 1 rfl (vp_in_nI (n := 2753 + 3 * (a0.1 0)) (by omega) (by decide)) dX12_areTargetsThere_27 (by rw [nI_clamp (show 2753 + 3 * (a0.1 0) < 2 ^ 31 by omega)]) ?_
      refine V_nmi (fun j8 e9 => ?_)
      have x10 : (-1) ≤ j8.toInt ∧ j8.toInt ≤ 5 := by rw [e9]; exact ⟨INV_lo HI (by omega) (rl26 (a0.1 0) (by omega)), INV_hi HI (by omega) (rl26 (a0.1 0) (by omega))⟩
      refine V_aload_n 28 B dX12_areTargetsThere_28 1 rfl ?_
      refine V_get 29 B gf_RX12_9 0 rfl rfl dX12_areTargetsThere_29 ?_
      refine V_sipush 32 B (v := 2718) dX12_areTargetsThere_32 (by decide +kernel) ?_
      have x11 : (gN f0 2718) ≤ 6 := gN_le HI (by omega) (show bd 2718 = (0, ((6 : Nat) : Int)) by decide +kernel)
      refine V_iald 35 B (v := (nI (gN f0 2718))) 1 rfl (vpin _ _ (by decide +kernel)) dX12_areTargetsThere_35 (by show f0 2718 = _; exact gN_eq HI (by omega) (show bd 2718 = (0, ((6 : Nat) : Int)) by decide +kernel)) ?_
      refine V_icmp_lt 36 B 45 dX12_areTargetsThere_36 (by decide) (fun kk12 => ?_) (fun kk12 => ?_)
      ·
        have x13 := x_lt kk12
        rw [nI_toInt (show (gN f0 2718) < 2 ^ 31 by omega)] at x13
        refine V_iinc 45 B (v := (nI (1 + (a0.1 0)))) (lv2 := [(1, .int (nI (1 + (a0.1 0)))), (0, .ref h0)]) dX12_areTargetsThere_45 0 rfl (nI_addE (a := (a0.1 0)) (b := 1) (by omega)) (by decide) rfl ?_
        refine V_goto 48 B 2 dX12_areTargetsThere_48 (by decide) ?_
        refine V_lv [(1, .int (nI (1 + (a0.1 0)))), (0, .ref h0)] [0, 1] rfl ?_
        exact IH1 (mkW [1 + (a0.1 0)] [(a0.2.1 0), (a0.2.1 1)] [] [] [] []) (show 1 + (a0.1 0) ≤ 4000 by omega) (by show 100000 - (1 + (a0.1 0)) < 100000 - (a0.1 0); omega)
      ·
        have x14 := x_nlt kk12
        rw [nI_toInt (show (gN f0 2718) < 2 ^ 31 by omega)] at x14
        refine V_aload_n 39 B dX12_areTargetsThere_39 1 rfl ?_
        refine V_iconst 40 B (v := 5) dX12_areTargetsThere_40 (by decide +kernel) ?_
        refine V_cvi 41 B (st := []) (As := [.int 5]) (fun sz => rX12_fail l D Y h0 h1 h2 h3 h4 h5 h6 p2 k5 k6 (a0.2.1 0) (a0.2.1 1) p9 k10 p11 q12 k15 k16 f0 f1 f3 f4 f13 f14 HI (by omega) HP 5 sz) glV_RX12_291 ⟨rfl, rfl⟩ ⟨(Nat.le_of_ble_eq_true rfl), (Nat.le_of_ble_eq_true rfl)⟩ ⟨(Nat.le_of_ble_eq_true rfl), (Nat.le_of_ble_eq_true rfl)⟩ [0, 0, 0, 0, 0, 0, 0] rfl 13 0 rfl rfl rfl rfl (Nat.le_of_ble_eq_true rfl) rfl (fun _ _ _ => rfl) dX12_areTargetsThere_41 (fun j15 u16 w17 => ?_)
        refine V_ws [(h0, oC 13 [.ref h1, .ref h2, .int p2, .ref h3, .ref h4, .int (nI k5), .int (nI k6), .int (u16.2.1 0), .int (u16.2.1 1), .int p9, .int (nI k10), .int p11, .long q12, .ref h5, .ref h6, .int (nI k15), .int (nI k16)]), (h1, aI Y 3640 f0), (h2, aZ Y 2 f1), (h3, aZ Y 80 f3), (h4, aB Y 1600 f4), (h5, aI Y 200 f13), (h6, aI Y 800 f14)] rfl ?_
        have x18 := w17
        rcases x18 with rfl | rfl
        ·
          exact V_zret 44 B rfl dX12_areTargetsThere_44 (mkW [] [(u16.2.1 0), (u16.2.1 1)] [] [] [] []) (Or.inl rfl) rfl
        ·
          exact V_zret 44 B rfl dX12_areTargetsThere_44 (mkW [] [(u16.2.1 0), (u16.2.1 1)] [] [] [] []) (Or.inr rfl) rfl)
theorem dX12_load_0 : decode cX12_load 0 = .ok (.aload_n 0, 1) := by decide +kernel
theorem dX12_load_1 : decode cX12_load 1 = .ok (.iconst 0, 1) := by decide +kernel
theorem dX12_load_2 : decode cX12_load 2 = .ok (.putfield 38, 3) := by decide +kernel
theorem dX12_load_5 : decode cX12_load 5 = .ok (.aload_n 0, 1) := by decide +kernel
theorem dX12_load_6 : decode cX12_load 6 = .ok (.iconst 3, 1) := by decide +kernel
theorem dX12_load_7 : decode cX12_load 7 = .ok (.invokevirtual 34, 3) := by decide +kernel
theorem dX12_clearBlock_0 : decode cX12_clearBlock 0 = .ok (.iconst 0, 1) := by decide +kernel
theorem dX12_clearBlock_1 : decode cX12_clearBlock 1 = .ok (.istore_n 2, 1) := by decide +kernel
theorem dX12_clearBlock_2 : decode cX12_clearBlock 2 = .ok (.iload_n 2, 1) := by decide +kernel
theorem dX12_clearBlock_3 : decode cX12_clearBlock 3 = .ok (.sipush 906, 3) := by decide +kernel
theorem dX12_clearBlock_6 : decode cX12_clearBlock 6 = .ok (.if_icmp .ge 22, 3) := by decide +kernel
theorem dX12_clearBlock_28 : decode cX12_clearBlock 28 = .ok (.aload_n 0, 1) := by decide +kernel
theorem dX12_clearBlock_29 : decode cX12_clearBlock 29 = .ok (.getfield 9, 3) := by decide +kernel
theorem dX12_clearBlock_32 : decode cX12_clearBlock 32 = .ok (.sipush 906, 3) := by decide +kernel
theorem dX12_clearBlock_35 : decode cX12_clearBlock 35 = .ok (.iload_n 1, 1) := by decide +kernel
theorem dX12_clearBlock_36 : decode cX12_clearBlock 36 = .ok (.imul, 1) := by decide +kernel
theorem dX12_clearBlock_37 : decode cX12_clearBlock 37 = .ok (.iconst 0, 1) := by decide +kernel
theorem dX12_clearBlock_38 : decode cX12_clearBlock 38 = .ok (.iadd, 1) := by decide +kernel
theorem dX12_clearBlock_39 : decode cX12_clearBlock 39 = .ok (.iconst 1, 1) := by decide +kernel
theorem dX12_clearBlock_40 : decode cX12_clearBlock 40 = .ok (.iastore, 1) := by decide +kernel
theorem dX12_commandHere_0 : decode cX12_commandHere 0 = .ok (.aload_n 0, 1) := by decide +kernel
theorem dX12_commandHere_1 : decode cX12_commandHere 1 = .ok (.bipush 112, 2) := by decide +kernel
theorem dX12_commandHere_3 : decode cX12_commandHere 3 = .ok (.bipush 114, 2) := by decide +kernel
theorem dX12_commandHere_5 : decode cX12_commandHere 5 = .ok (.bipush 101, 2) := by decide +kernel
theorem dX12_commandHere_7 : decode cX12_commandHere 7 = .ok (.bipush 115, 2) := by decide +kernel
theorem dX12_commandHere_9 : decode cX12_commandHere 9 = .ok (.bipush 115, 2) := by decide +kernel
theorem dX12_commandHere_11 : decode cX12_commandHere 11 = .ok (.iconst 0, 1) := by decide +kernel
theorem dX12_commandHere_12 : decode cX12_commandHere 12 = .ok (.invokestatic 319, 3) := by decide +kernel
theorem dX12_commandHere_15 : decode cX12_commandHere 15 = .ok (.invokevirtual 323, 3) := by decide +kernel
theorem dX12_commandHere_18 : decode cX12_commandHere 18 = .ok (.ifCond .eq 5, 3) := by decide +kernel
theorem dX12_commandHere_23 : decode cX12_commandHere 23 = .ok (.aload_n 0, 1) := by decide +kernel
theorem dX12_commandHere_24 : decode cX12_commandHere 24 = .ok (.bipush 114, 2) := by decide +kernel
theorem dX12_commandHere_26 : decode cX12_commandHere 26 = .ok (.bipush 101, 2) := by decide +kernel
theorem dX12_commandHere_28 : decode cX12_commandHere 28 = .ok (.bipush 108, 2) := by decide +kernel
theorem dX12_commandHere_30 : decode cX12_commandHere 30 = .ok (.bipush 101, 2) := by decide +kernel
theorem dX12_commandHere_32 : decode cX12_commandHere 32 = .ok (.bipush 97, 2) := by decide +kernel
theorem dX12_commandHere_34 : decode cX12_commandHere 34 = .ok (.bipush 115, 2) := by decide +kernel
theorem dX12_commandHere_36 : decode cX12_commandHere 36 = .ok (.invokestatic 319, 3) := by decide +kernel
theorem dX12_commandHere_39 : decode cX12_commandHere 39 = .ok (.bipush 7, 2) := by decide +kernel
theorem dX12_commandHere_41 : decode cX12_commandHere 41 = .ok (.lshl, 1) := by decide +kernel
theorem dX12_commandHere_42 : decode cX12_commandHere 42 = .ok (.ldc2_w 333, 3) := by decide +kernel
theorem dX12_commandHere_45 : decode cX12_commandHere 45 = .ok (.lor, 1) := by decide +kernel
theorem dX12_commandHere_46 : decode cX12_commandHere 46 = .ok (.invokevirtual 323, 3) := by decide +kernel
theorem dX12_commandHere_49 : decode cX12_commandHere 49 = .ok (.ifCond .eq 5, 3) := by decide +kernel
theorem dX12_commandHere_54 : decode cX12_commandHere 54 = .ok (.aload_n 0, 1) := by decide +kernel
theorem dX12_commandHere_55 : decode cX12_commandHere 55 = .ok (.bipush 104, 2) := by decide +kernel
theorem dX12_commandHere_57 : decode cX12_commandHere 57 = .ok (.bipush 111, 2) := by decide +kernel
theorem dX12_commandHere_59 : decode cX12_commandHere 59 = .ok (.bipush 108, 2) := by decide +kernel
theorem dX12_commandHere_61 : decode cX12_commandHere 61 = .ok (.bipush 100, 2) := by decide +kernel
theorem dX12_commandHere_63 : decode cX12_commandHere 63 = .ok (.iconst 0, 1) := by decide +kernel
theorem dX12_commandHere_64 : decode cX12_commandHere 64 = .ok (.iconst 0, 1) := by decide +kernel
theorem dX12_commandHere_65 : decode cX12_commandHere 65 = .ok (.invokestatic 319, 3) := by decide +kernel
theorem dX12_commandHere_68 : decode cX12_commandHere 68 = .ok (.invokevirtual 323, 3) := by decide +kernel
theorem dX12_commandHere_71 : decode cX12_commandHere 71 = .ok (.ifCond .eq 5, 3) := by decide +kernel
theorem dX12_commandHere_76 : decode cX12_commandHere 76 = .ok (.aload_n 0, 1) := by decide +kernel
theorem dX12_commandHere_77 : decode cX12_commandHere 77 = .ok (.bipush 116, 2) := by decide +kernel
theorem dX12_commandHere_79 : decode cX12_commandHere 79 = .ok (.bipush 105, 2) := by decide +kernel
theorem dX12_commandHere_81 : decode cX12_commandHere 81 = .ok (.bipush 99, 2) := by decide +kernel
theorem dX12_commandHere_83 : decode cX12_commandHere 83 = .ok (.bipush 107, 2) := by decide +kernel
theorem dX12_commandHere_85 : decode cX12_commandHere 85 = .ok (.iconst 0, 1) := by decide +kernel
theorem dX12_commandHere_86 : decode cX12_commandHere 86 = .ok (.iconst 0, 1) := by decide +kernel
theorem dX12_commandHere_87 : decode cX12_commandHere 87 = .ok (.invokestatic 319, 3) := by decide +kernel
theorem dX12_commandHere_90 : decode cX12_commandHere 90 = .ok (.invokevirtual 323, 3) := by decide +kernel
theorem dX12_commandHere_93 : decode cX12_commandHere 93 = .ok (.ifCond .eq 5, 3) := by decide +kernel
theorem dX12_commandHere_98 : decode cX12_commandHere 98 = .ok (.aload_n 0, 1) := by decide +kernel
theorem dX12_commandHere_99 : decode cX12_commandHere 99 = .ok (.bipush 117, 2) := by decide +kernel
theorem dX12_commandHere_101 : decode cX12_commandHere 101 = .ok (.bipush 110, 2) := by decide +kernel
theorem dX12_commandHere_103 : decode cX12_commandHere 103 = .ok (.bipush 98, 2) := by decide +kernel
theorem dX12_commandHere_105 : decode cX12_commandHere 105 = .ok (.bipush 105, 2) := by decide +kernel
theorem dX12_commandHere_107 : decode cX12_commandHere 107 = .ok (.bipush 110, 2) := by decide +kernel
theorem dX12_commandHere_109 : decode cX12_commandHere 109 = .ok (.bipush 100, 2) := by decide +kernel
theorem dX12_commandHere_111 : decode cX12_commandHere 111 = .ok (.invokestatic 319, 3) := by decide +kernel
theorem dX12_commandHere_114 : decode cX12_commandHere 114 = .ok (.invokevirtual 323, 3) := by decide +kernel
theorem dX12_commandHere_117 : decode cX12_commandHere 117 = .ok (.ifCond .eq 5, 3) := by decide +kernel
theorem dX12_commandHere_122 : decode cX12_commandHere 122 = .ok (.aload_n 0, 1) := by decide +kernel
theorem dX12_commandHere_123 : decode cX12_commandHere 123 = .ok (.bipush 116, 2) := by decide +kernel
theorem dX12_commandHere_125 : decode cX12_commandHere 125 = .ok (.bipush 121, 2) := by decide +kernel
theorem dX12_commandHere_127 : decode cX12_commandHere 127 = .ok (.bipush 112, 2) := by decide +kernel
theorem dX12_commandHere_129 : decode cX12_commandHere 129 = .ok (.bipush 101, 2) := by decide +kernel
theorem dX12_commandHere_131 : decode cX12_commandHere 131 = .ok (.iconst 0, 1) := by decide +kernel
theorem dX12_commandHere_132 : decode cX12_commandHere 132 = .ok (.iconst 0, 1) := by decide +kernel
theorem dX12_commandHere_133 : decode cX12_commandHere 133 = .ok (.invokestatic 319, 3) := by decide +kernel
theorem dX12_commandHere_136 : decode cX12_commandHere 136 = .ok (.invokevirtual 323, 3) := by decide +kernel
theorem dX12_commandHere_139 : decode cX12_commandHere 139 = .ok (.ifCond .eq 5, 3) := by decide +kernel
theorem dX12_commandHere_144 : decode cX12_commandHere 144 = .ok (.aload_n 0, 1) := by decide +kernel
theorem dX12_commandHere_145 : decode cX12_commandHere 145 = .ok (.bipush 98, 2) := by decide +kernel
theorem dX12_commandHere_147 : decode cX12_commandHere 147 = .ok (.bipush 105, 2) := by decide +kernel
theorem dX12_commandHere_149 : decode cX12_commandHere 149 = .ok (.bipush 110, 2) := by decide +kernel
theorem dX12_commandHere_151 : decode cX12_commandHere 151 = .ok (.bipush 100, 2) := by decide +kernel
theorem dX12_commandHere_153 : decode cX12_commandHere 153 = .ok (.iconst 0, 1) := by decide +kernel
theorem dX12_commandHere_154 : decode cX12_commandHere 154 = .ok (.iconst 0, 1) := by decide +kernel
theorem dX12_commandHere_155 : decode cX12_commandHere 155 = .ok (.invokestatic 319, 3) := by decide +kernel
theorem dX12_commandHere_158 : decode cX12_commandHere 158 = .ok (.invokevirtual 323, 3) := by decide +kernel
theorem dX12_commandHere_161 : decode cX12_commandHere 161 = .ok (.ifCond .eq 6, 3) := by decide +kernel
theorem dX12_commandHere_167 : decode cX12_commandHere 167 = .ok (.aload_n 0, 1) := by decide +kernel
theorem dX12_commandHere_168 : decode cX12_commandHere 168 = .ok (.bipush 102, 2) := by decide +kernel
theorem dX12_commandHere_170 : decode cX12_commandHere 170 = .ok (.bipush 111, 2) := by decide +kernel
theorem dX12_commandHere_172 : decode cX12_commandHere 172 = .ok (.bipush 114, 2) := by decide +kernel
theorem dX12_commandHere_174 : decode cX12_commandHere 174 = .ok (.bipush 99, 2) := by decide +kernel
theorem dX12_commandHere_176 : decode cX12_commandHere 176 = .ok (.bipush 101, 2) := by decide +kernel
theorem dX12_commandHere_178 : decode cX12_commandHere 178 = .ok (.iconst 0, 1) := by decide +kernel
theorem dX12_commandHere_179 : decode cX12_commandHere 179 = .ok (.invokestatic 319, 3) := by decide +kernel
theorem dX12_commandHere_182 : decode cX12_commandHere 182 = .ok (.invokevirtual 323, 3) := by decide +kernel
theorem dX12_commandHere_185 : decode cX12_commandHere 185 = .ok (.ifCond .eq 8, 3) := by decide +kernel
theorem dX12_commandHere_193 : decode cX12_commandHere 193 = .ok (.iconst (-1), 1) := by decide +kernel
theorem dX12_commandHere_194 : decode cX12_commandHere 194 = .ok (.ireturn, 1) := by decide +kernel
theorem dX12_commandHere_188 : decode cX12_commandHere 188 = .ok (.bipush 7, 2) := by decide +kernel
theorem dX12_commandHere_190 : decode cX12_commandHere 190 = .ok (.goto 4, 3) := by decide +kernel
theorem dX12_commandHere_164 : decode cX12_commandHere 164 = .ok (.bipush 6, 2) := by decide +kernel
theorem dX12_commandHere_166 : decode cX12_commandHere 166 = .ok (.ireturn, 1) := by decide +kernel
theorem dX12_commandHere_142 : decode cX12_commandHere 142 = .ok (.iconst 5, 1) := by decide +kernel
theorem dX12_commandHere_143 : decode cX12_commandHere 143 = .ok (.ireturn, 1) := by decide +kernel
theorem dX12_commandHere_120 : decode cX12_commandHere 120 = .ok (.iconst 4, 1) := by decide +kernel
theorem dX12_commandHere_121 : decode cX12_commandHere 121 = .ok (.ireturn, 1) := by decide +kernel
theorem dX12_commandHere_96 : decode cX12_commandHere 96 = .ok (.iconst 3, 1) := by decide +kernel
theorem dX12_commandHere_97 : decode cX12_commandHere 97 = .ok (.ireturn, 1) := by decide +kernel
theorem dX12_commandHere_74 : decode cX12_commandHere 74 = .ok (.iconst 2, 1) := by decide +kernel
theorem dX12_commandHere_75 : decode cX12_commandHere 75 = .ok (.ireturn, 1) := by decide +kernel
theorem dX12_commandHere_52 : decode cX12_commandHere 52 = .ok (.iconst 1, 1) := by decide +kernel
theorem dX12_commandHere_53 : decode cX12_commandHere 53 = .ok (.ireturn, 1) := by decide +kernel
theorem dX12_commandHere_21 : decode cX12_commandHere 21 = .ok (.iconst 0, 1) := by decide +kernel
theorem dX12_commandHere_22 : decode cX12_commandHere 22 = .ok (.ireturn, 1) := by decide +kernel
set_option maxRecDepth 100000 in
set_option maxHeartbeats 4000000 in
theorem rX12_commandHere (l : Launch) (D : va_G) (Y : Nat → ClassId) (h0 : Nat) (h1 : Nat) (h2 : Nat) (h3 : Nat) (h4 : Nat) (h5 : Nat) (h6 : Nat) (p2 : Int32) (k5 : Nat) (k6 : Nat) (p7 : Int32) (p8 : Int32) (p9 : Int32) (k10 : Nat) (p11 : Int32) (q12 : Int64) (k15 : Nat) (k16 : Nat) (f0 : Nat → Int32) (f1 : Nat → Int32) (f3 : Nat → Int32) (f4 : Nat → Int32) (f13 : Nat → Int32) (f14 : Nat → Int32) (HI : INV f0) (HL : k5 ≤ 1600) (HP : PLV f13)   (sz : Nat) : Met l yX12_commandHere (WSm yX12_commandHere cX12_commandHere 1 (some .int)) (mkR 1 0 0 27) (PreC D Y [.ref h0] [(h0, oC 13 [.ref h1, .ref h2, .int p2, .ref h3, .ref h4, .int (nI k5), .int (nI k6), .int p7, .int p8, .int p9, .int (nI k10), .int p11, .long q12, .ref h5, .ref h6, .int (nI k15), .int (nI k16)]), (h1, aI Y 3640 f0), (h2, aZ Y 2 f1), (h3, aZ Y 80 f3), (h4, aB Y 1600 f4), (h5, aI Y 200 f13), (h6, aI Y 800 f14)] sz) (QI D (fun (r : Int32) (u : WU) => True) (fun (u : WU) => [(h0, oC 13 [.ref h1, .ref h2, .int p2, .ref h3, .ref h4, .int (nI k5), .int (nI k6), .int p7, .int p8, .int p9, .int (nI k10), .int p11, .long q12, .ref h5, .ref h6, .int (nI k15), .int (nI k16)]), (h1, aI Y 3640 f0), (h2, aZ Y 2 f1), (h3, aZ Y 80 f3), (h4, aB Y 1600 f4), (h5, aI Y 200 f13), (h6, aI Y 800 f14)]) (va_A [(h0, oC 13 [.ref h1, .ref h2, .int p2, .ref h3, .ref h4, .int (nI k5), .int (nI k6), .int p7, .int p8, .int p9, .int (nI k10), .int p11, .long q12, .ref h5, .ref h6, .int (nI k15), .int (nI k16)]), (h1, aI Y 3640 f0), (h2, aZ Y 2 f1), (h3, aZ Y 80 f3), (h4, aB Y 1600 f4), (h5, aI Y 200 f13), (h6, aI Y 800 f14)] sz)) 0 0 (va_A [(h0, oC 13 [.ref h1, .ref h2, .int p2, .ref h3, .ref h4, .int (nI k5), .int (nI k6), .int p7, .int p8, .int p9, .int (nI k10), .int p11, .long q12, .ref h5, .ref h6, .int (nI k15), .int (nI k16)]), (h1, aI Y 3640 f0), (h2, aZ Y 2 f1), (h3, aZ Y 80 f3), (h4, aB Y 1600 f4), (h5, aI Y 200 f13), (h6, aI Y 800 f14)] sz) :=
  met_of (by decide +kernel) (Nat.le_of_ble_eq_true rfl) (fun p e s m args below meth c B hin hsz => by
    have B : VB p s m args meth c D Y (va_A [(h0, oC 13 [.ref h1, .ref h2, .int p2, .ref h3, .ref h4, .int (nI k5), .int (nI k6), .int p7, .int p8, .int p9, .int (nI k10), .int p11, .long q12, .ref h5, .ref h6, .int (nI k15), .int (nI k16)]), (h1, aI Y 3640 f0), (h2, aZ Y 2 f1), (h3, aZ Y 80 f3), (h4, aB Y 1600 f4), (h5, aI Y 200 f13), (h6, aI Y 800 f14)] sz) cX12_commandHere 1 RX12 (some .int) := B
    refine V_aload_n 0 B dX12_commandHere_0 0 rfl ?_
    refine V_bipush 1 B (v := 112) dX12_commandHere_1 (by decide +kernel) ?_
    refine V_bipush 3 B (v := 114) dX12_commandHere_3 (by decide +kernel) ?_
    refine V_bipush 5 B (v := 101) dX12_commandHere_5 (by decide +kernel) ?_
    refine V_bipush 7 B (v := 115) dX12_commandHere_7 (by decide +kernel) ?_
    refine V_bipush 9 B (v := 115) dX12_commandHere_9 (by decide +kernel) ?_
    refine V_iconst 11 B (v := 0) dX12_commandHere_11 (by decide +kernel) ?_
    refine V_csl 12 B (st := [.ref h0]) (As := [.int 112, .int 114, .int 101, .int 115, .int 115, .int 0]) (fun sz => rX12_pack l D Y 112 114 101 115 115 0 sz) glS_RX12_319 ⟨rfl, rfl⟩ ⟨(Nat.le_of_ble_eq_true rfl), (Nat.le_of_ble_eq_true rfl)⟩ ⟨(Nat.le_of_ble_eq_true rfl), (Nat.le_of_ble_eq_true rfl)⟩ [] rfl rfl (Nat.le_of_ble_eq_true rfl) rfl (fun _ _ _ => rfl) dX12_commandHere_12 (fun o0 u1 w2 => ?_)
    refine V_ws [(h0, oC 13 [.ref h1, .ref h2, .int p2, .ref h3, .ref h4, .int (nI k5), .int (nI k6), .int p7, .int p8, .int p9, .int (nI k10), .int p11, .long q12, .ref h5, .ref h6, .int (nI k15), .int (nI k16)]), (h1, aI Y 3640 f0), (h2, aZ Y 2 f1), (h3, aZ Y 80 f3), (h4, aB Y 1600 f4), (h5, aI Y 200 f13), (h6, aI Y 800 f14)] rfl ?_
    refine V_cvi 15 B (st := []) (As := [.long o0]) (fun sz => rX12_isWord l D Y h0 h1 h2 h3 h4 h5 h6 p2 k5 k6 p7 p8 p9 k10 p11 q12 k15 k16 f0 f1 f3 f4 f13 f14 HI (by omega) HP o0 sz) glV_RX12_323 ⟨rfl, rfl⟩ ⟨(Nat.le_of_ble_eq_true rfl), (Nat.le_of_ble_eq_true rfl)⟩ ⟨(Nat.le_of_ble_eq_true rfl), (Nat.le_of_ble_eq_true rfl)⟩ [0, 0, 0, 0, 0, 0, 0] rfl 13 0 rfl rfl rfl rfl (Nat.le_of_ble_eq_true rfl) rfl (fun _ _ _ => rfl) dX12_commandHere_15 (fun j3 u4 w5 => ?_)
    refine V_ws [(h0, oC 13 [.ref h1, .ref h2, .int p2, .ref h3, .ref h4, .int (nI k5), .int (nI k6), .int p7, .int p8, .int p9, .int (nI k10), .int p11, .long q12, .ref h5, .ref h6, .int (nI k15), .int (nI k16)]), (h1, aI Y 3640 f0), (h2, aZ Y 2 f1), (h3, aZ Y 80 f3), (h4, aB Y 1600 f4), (h5, aI Y 200 f13), (h6, aI Y 800 f14)] rfl ?_
    have x6 := w5
    rcases x6 with rfl | rfl
    ·
      refine V_if_eq_t 18 B 23 dX12_commandHere_18 (by decide) (by decide +kernel) ?_
      refine V_aload_n 23 B dX12_commandHere_23 0 rfl ?_
      refine V_bipush 24 B (v := 114) dX12_commandHere_24 (by decide +kernel) ?_
      refine V_bipush 26 B (v := 101) dX12_commandHere_26 (by decide +kernel) ?_
      refine V_bipush 28 B (v := 108) dX12_commandHere_28 (by decide +kernel) ?_
      refine V_bipush 30 B (v := 101) dX12_commandHere_30 (by decide +kernel) ?_
      refine V_bipush 32 B (v := 97) dX12_commandHere_32 (by decide +kernel) ?_
      refine V_bipush 34 B (v := 115) dX12_commandHere_34 (by decide +kernel) ?_
      refine V_csl 36 B (st := [.ref h0]) (As := [.int 114, .int 101, .int 108, .int 101, .int 97, .int 115]) (fun sz => rX12_pack l D Y 114 101 108 101 97 115 sz) glS_RX12_319 ⟨rfl, rfl⟩ ⟨(Nat.le_of_ble_eq_true rfl), (Nat.le_of_ble_eq_true rfl)⟩ ⟨(Nat.le_of_ble_eq_true rfl), (Nat.le_of_ble_eq_true rfl)⟩ [] rfl rfl (Nat.le_of_ble_eq_true rfl) rfl (fun _ _ _ => rfl) dX12_commandHere_36 (fun o7 u8 w9 => ?_)
      refine V_ws [(h0, oC 13 [.ref h1, .ref h2, .int p2, .ref h3, .ref h4, .int (nI k5), .int (nI k6), .int p7, .int p8, .int p9, .int (nI k10), .int p11, .long q12, .ref h5, .ref h6, .int (nI k15), .int (nI k16)]), (h1, aI Y 3640 f0), (h2, aZ Y 2 f1), (h3, aZ Y 80 f3), (h4, aB Y 1600 f4), (h5, aI Y 200 f13), (h6, aI Y 800 f14)] rfl ?_
      refine V_bipush 39 B (v := 7) dX12_commandHere_39 (by decide +kernel) ?_
      refine V_lshl 41 B dX12_commandHere_41 rfl ?_
      refine V_nml (fun o10 _ => ?_)
      refine V_ldc2 42 B (v := 101) dX12_commandHere_42 (mT10 12 rfl rfl) ?_
      refine V_lor 45 B dX12_commandHere_45 rfl ?_
      refine V_nml (fun o11 e12 => ?_)
      refine V_cvi 46 B (st := []) (As := [.long o11]) (fun sz => rX12_isWord l D Y h0 h1 h2 h3 h4 h5 h6 p2 k5 k6 p7 p8 p9 k10 p11 q12 k15 k16 f0 f1 f3 f4 f13 f14 HI (by omega) HP o11 sz) glV_RX12_323 ⟨rfl, rfl⟩ ⟨(Nat.le_of_ble_eq_true rfl), (Nat.le_of_ble_eq_true rfl)⟩ ⟨(Nat.le_of_ble_eq_true rfl), (Nat.le_of_ble_eq_true rfl)⟩ [0, 0, 0, 0, 0, 0, 0] rfl 13 0 rfl rfl rfl rfl (Nat.le_of_ble_eq_true rfl) rfl (fun _ _ _ => rfl) dX12_commandHere_46 (fun j13 u14 w15 => ?_)
      refine V_ws [(h0, oC 13 [.ref h1, .ref h2, .int p2, .ref h3, .ref h4, .int (nI k5), .int (nI k6), .int p7, .int p8, .int p9, .int (nI k10), .int p11, .long q12, .ref h5, .ref h6, .int (nI k15), .int (nI k16)]), (h1, aI Y 3640 f0), (h2, aZ Y 2 f1), (h3, aZ Y 80 f3), (h4, aB Y 1600 f4), (h5, aI Y 200 f13), (h6, aI Y 800 f14)] rfl ?_
      have x16 := w15
      rcases x16 with rfl | rfl
      ·
        refine V_if_eq_t 49 B 54 dX12_commandHere_49 (by decide) (by decide +kernel) ?_
        refine V_aload_n 54 B dX12_commandHere_54 0 rfl ?_
        refine V_bipush 55 B (v := 104) dX12_commandHere_55 (by decide +kernel) ?_
        refine V_bipush 57 B (v := 111) dX12_commandHere_57 (by decide +kernel) ?_
        refine V_bipush 59 B (v := 108) dX12_commandHere_59 (by decide +kernel) ?_
        refine V_bipush 61 B (v := 100) dX12_commandHere_61 (by decide +kernel) ?_
        refine V_iconst 63 B (v := 0) dX12_commandHere_63 (by decide +kernel) ?_
        refine V_iconst 64 B (v := 0) dX12_commandHere_64 (by decide +kernel) ?_
        refine V_csl 65 B (st := [.ref h0]) (As := [.int 104, .int 111, .int 108, .int 100, .int 0, .int 0]) (fun sz => rX12_pack l D Y 104 111 108 100 0 0 sz) glS_RX12_319 ⟨rfl, rfl⟩ ⟨(Nat.le_of_ble_eq_true rfl), (Nat.le_of_ble_eq_true rfl)⟩ ⟨(Nat.le_of_ble_eq_true rfl), (Nat.le_of_ble_eq_true rfl)⟩ [] rfl rfl (Nat.le_of_ble_eq_true rfl) rfl (fun _ _ _ => rfl) dX12_commandHere_65 (fun o17 u18 w19 => ?_)
        refine V_ws [(h0, oC 13 [.ref h1, .ref h2, .int p2, .ref h3, .ref h4, .int (nI k5), .int (nI k6), .int p7, .int p8, .int p9, .int (nI k10), .int p11, .long q12, .ref h5, .ref h6, .int (nI k15), .int (nI k16)]), (h1, aI Y 3640 f0), (h2, aZ Y 2 f1), (h3, aZ Y 80 f3), (h4, aB Y 1600 f4), (h5, aI Y 200 f13), (h6, aI Y 800 f14)] rfl ?_
        refine V_cvi 68 B (st := []) (As := [.long o17]) (fun sz => rX12_isWord l D Y h0 h1 h2 h3 h4 h5 h6 p2 k5 k6 p7 p8 p9 k10 p11 q12 k15 k16 f0 f1 f3 f4 f13 f14 HI (by omega) HP o17 sz) glV_RX12_323 ⟨rfl, rfl⟩ ⟨(Nat.le_of_ble_eq_true rfl), (Nat.le_of_ble_eq_true rfl)⟩ ⟨(Nat.le_of_ble_eq_true rfl), (Nat.le_of_ble_eq_true rfl)⟩ [0, 0, 0, 0, 0, 0, 0] rfl 13 0 rfl rfl rfl rfl (Nat.le_of_ble_eq_true rfl) rfl (fun _ _ _ => rfl) dX12_commandHere_68 (fun j20 u21 w22 => ?_)
        refine V_ws [(h0, oC 13 [.ref h1, .ref h2, .int p2, .ref h3, .ref h4, .int (nI k5), .int (nI k6), .int p7, .int p8, .int p9, .int (nI k10), .int p11, .long q12, .ref h5, .ref h6, .int (nI k15), .int (nI k16)]), (h1, aI Y 3640 f0), (h2, aZ Y 2 f1), (h3, aZ Y 80 f3), (h4, aB Y 1600 f4), (h5, aI Y 200 f13), (h6, aI Y 800 f14)] rfl ?_
        have x23 := w22
        rcases x23 with rfl | rfl
        ·
          refine V_if_eq_t 71 B 76 dX12_commandHere_71 (by decide) (by decide +kernel) ?_
          refine V_aload_n 76 B dX12_commandHere_76 0 rfl ?_
          refine V_bipush 77 B (v := 116) dX12_commandHere_77 (by decide +kernel) ?_
          refine V_bipush 79 B (v := 105) dX12_commandHere_79 (by decide +kernel) ?_
          refine V_bipush 81 B (v := 99) dX12_commandHere_81 (by decide +kernel) ?_
          refine V_bipush 83 B (v := 107) dX12_commandHere_83 (by decide +kernel) ?_
          refine V_iconst 85 B (v := 0) dX12_commandHere_85 (by decide +kernel) ?_
          refine V_iconst 86 B (v := 0) dX12_commandHere_86 (by decide +kernel) ?_
          refine V_csl 87 B (st := [.ref h0]) (As := [.int 116, .int 105, .int 99, .int 107, .int 0, .int 0]) (fun sz => rX12_pack l D Y 116 105 99 107 0 0 sz) glS_RX12_319 ⟨rfl, rfl⟩ ⟨(Nat.le_of_ble_eq_true rfl), (Nat.le_of_ble_eq_true rfl)⟩ ⟨(Nat.le_of_ble_eq_true rfl), (Nat.le_of_ble_eq_true rfl)⟩ [] rfl rfl (Nat.le_of_ble_eq_true rfl) rfl (fun _ _ _ => rfl) dX12_commandHere_87 (fun o24 u25 w26 => ?_)
          refine V_ws [(h0, oC 13 [.ref h1, .ref h2, .int p2, .ref h3, .ref h4, .int (nI k5), .int (nI k6), .int p7, .int p8, .int p9, .int (nI k10), .int p11, .long q12, .ref h5, .ref h6, .int (nI k15), .int (nI k16)]), (h1, aI Y 3640 f0), (h2, aZ Y 2 f1), (h3, aZ Y 80 f3), (h4, aB Y 1600 f4), (h5, aI Y 200 f13), (h6, aI Y 800 f14)] rfl ?_
          refine V_cvi 90 B (st := []) (As := [.long o24]) (fun sz => rX12_isWord l D Y h0 h1 h2 h3 h4 h5 h6 p2 k5 k6 p7 p8 p9 k10 p11 q12 k15 k16 f0 f1 f3 f4 f13 f14 HI (by omega) HP o24 sz) glV_RX12_323 ⟨rfl, rfl⟩ ⟨(Nat.le_of_ble_eq_true rfl), (Nat.le_of_ble_eq_true rfl)⟩ ⟨(Nat.le_of_ble_eq_true rfl), (Nat.le_of_ble_eq_true rfl)⟩ [0, 0, 0, 0, 0, 0, 0] rfl 13 0 rfl rfl rfl rfl (Nat.le_of_ble_eq_true rfl) rfl (fun _ _ _ => rfl) dX12_commandHere_90 (fun j27 u28 w29 => ?_)
          refine V_ws [(h0, oC 13 [.ref h1, .ref h2, .int p2, .ref h3, .ref h4, .int (nI k5), .int (nI k6), .int p7, .int p8, .int p9, .int (nI k10), .int p11, .long q12, .ref h5, .ref h6, .int (nI k15), .int (nI k16)]), (h1, aI Y 3640 f0), (h2, aZ Y 2 f1), (h3, aZ Y 80 f3), (h4, aB Y 1600 f4), (h5, aI Y 200 f13), (h6, aI Y 800 f14)] rfl ?_
          have x30 := w29
          rcases x30 with rfl | rfl
          ·
            refine V_if_eq_t 93 B 98 dX12_commandHere_93 (by decide) (by decide +kernel) ?_
            refine V_aload_n 98 B dX12_commandHere_98 0 rfl ?_
            refine V_bipush 99 B (v := 117) dX12_commandHere_99 (by decide +kernel) ?_
            refine V_bipush 101 B (v := 110) dX12_commandHere_101 (by decide +kernel) ?_
            refine V_bipush 103 B (v := 98) dX12_commandHere_103 (by decide +kernel) ?_
            refine V_bipush 105 B (v := 105) dX12_commandHere_105 (by decide +kernel) ?_
            refine V_bipush 107 B (v := 110) dX12_commandHere_107 (by decide +kernel) ?_
            refine V_bipush 109 B (v := 100) dX12_commandHere_109 (by decide +kernel) ?_
            refine V_csl 111 B (st := [.ref h0]) (As := [.int 117, .int 110, .int 98, .int 105, .int 110, .int 100]) (fun sz => rX12_pack l D Y 117 110 98 105 110 100 sz) glS_RX12_319 ⟨rfl, rfl⟩ ⟨(Nat.le_of_ble_eq_true rfl), (Nat.le_of_ble_eq_true rfl)⟩ ⟨(Nat.le_of_ble_eq_true rfl), (Nat.le_of_ble_eq_true rfl)⟩ [] rfl rfl (Nat.le_of_ble_eq_true rfl) rfl (fun _ _ _ => rfl) dX12_commandHere_111 (fun o31 u32 w33 => ?_)
            refine V_ws [(h0, oC 13 [.ref h1, .ref h2, .int p2, .ref h3, .ref h4, .int (nI k5), .int (nI k6), .int p7, .int p8, .int p9, .int (nI k10), .int p11, .long q12, .ref h5, .ref h6, .int (nI k15), .int (nI k16)]), (h1, aI Y 3640 f0), (h2, aZ Y 2 f1), (h3, aZ Y 80 f3), (h4, aB Y 1600 f4), (h5, aI Y 200 f13), (h6, aI Y 800 f14)] rfl ?_
            refine V_cvi 114 B (st := []) (As := [.long o31]) (fun sz => rX12_isWord l D Y h0 h1 h2 h3 h4 h5 h6 p2 k5 k6 p7 p8 p9 k10 p11 q12 k15 k16 f0 f1 f3 f4 f13 f14 HI (by omega) HP o31 sz) glV_RX12_323 ⟨rfl, rfl⟩ ⟨(Nat.le_of_ble_eq_true rfl), (Nat.le_of_ble_eq_true rfl)⟩ ⟨(Nat.le_of_ble_eq_true rfl), (Nat.le_of_ble_eq_true rfl)⟩ [0, 0, 0, 0, 0, 0, 0] rfl 13 0 rfl rfl rfl rfl (Nat.le_of_ble_eq_true rfl) rfl (fun _ _ _ => rfl) dX12_commandHere_114 (fun j34 u35 w36 => ?_)
            refine V_ws [(h0, oC 13 [.ref h1, .ref h2, .int p2, .ref h3, .ref h4, .int (nI k5), .int (nI k6), .int p7, .int p8, .int p9, .int (nI k10), .int p11, .long q12, .ref h5, .ref h6, .int (nI k15), .int (nI k16)]), (h1, aI Y 3640 f0), (h2, aZ Y 2 f1), (h3, aZ Y 80 f3), (h4, aB Y 1600 f4), (h5, aI Y 200 f13), (h6, aI Y 800 f14)] rfl ?_
            have x37 := w36
            rcases x37 with rfl | rfl
            ·
              refine V_if_eq_t 117 B 122 dX12_commandHere_117 (by decide) (by decide +kernel) ?_
              refine V_aload_n 122 B dX12_commandHere_122 0 rfl ?_
              refine V_bipush 123 B (v := 116) dX12_commandHere_123 (by decide +kernel) ?_
              refine V_bipush 125 B (v := 121) dX12_commandHere_125 (by decide +kernel) ?_
              refine V_bipush 127 B (v := 112) dX12_commandHere_127 (by decide +kernel) ?_
              refine V_bipush 129 B (v := 101) dX12_commandHere_129 (by decide +kernel) ?_
              refine V_iconst 131 B (v := 0) dX12_commandHere_131 (by decide +kernel) ?_
              refine V_iconst 132 B (v := 0) dX12_commandHere_132 (by decide +kernel) ?_
              refine V_csl 133 B (st := [.ref h0]) (As := [.int 116, .int 121, .int 112, .int 101, .int 0, .int 0]) (fun sz => rX12_pack l D Y 116 121 112 101 0 0 sz) glS_RX12_319 ⟨rfl, rfl⟩ ⟨(Nat.le_of_ble_eq_true rfl), (Nat.le_of_ble_eq_true rfl)⟩ ⟨(Nat.le_of_ble_eq_true rfl), (Nat.le_of_ble_eq_true rfl)⟩ [] rfl rfl (Nat.le_of_ble_eq_true rfl) rfl (fun _ _ _ => rfl) dX12_commandHere_133 (fun o38 u39 w40 => ?_)
              refine V_ws [(h0, oC 13 [.ref h1, .ref h2, .int p2, .ref h3, .ref h4, .int (nI k5), .int (nI k6), .int p7, .int p8, .int p9, .int (nI k10), .int p11, .long q12, .ref h5, .ref h6, .int (nI k15), .int (nI k16)]), (h1, aI Y 3640 f0), (h2, aZ Y 2 f1), (h3, aZ Y 80 f3), (h4, aB Y 1600 f4), (h5, aI Y 200 f13), (h6, aI Y 800 f14)] rfl ?_
              refine V_cvi 136 B (st := []) (As := [.long o38]) (fun sz => rX12_isWord l D Y h0 h1 h2 h3 h4 h5 h6 p2 k5 k6 p7 p8 p9 k10 p11 q12 k15 k16 f0 f1 f3 f4 f13 f14 HI (by omega) HP o38 sz) glV_RX12_323 ⟨rfl, rfl⟩ ⟨(Nat.le_of_ble_eq_true rfl), (Nat.le_of_ble_eq_true rfl)⟩ ⟨(Nat.le_of_ble_eq_true rfl), (Nat.le_of_ble_eq_true rfl)⟩ [0, 0, 0, 0, 0, 0, 0] rfl 13 0 rfl rfl rfl rfl (Nat.le_of_ble_eq_true rfl) rfl (fun _ _ _ => rfl) dX12_commandHere_136 (fun j41 u42 w43 => ?_)
              refine V_ws [(h0, oC 13 [.ref h1, .ref h2, .int p2, .ref h3, .ref h4, .int (nI k5), .int (nI k6), .int p7, .int p8, .int p9, .int (nI k10), .int p11, .long q12, .ref h5, .ref h6, .int (nI k15), .int (nI k16)]), (h1, aI Y 3640 f0), (h2, aZ Y 2 f1), (h3, aZ Y 80 f3), (h4, aB Y 1600 f4), (h5, aI Y 200 f13), (h6, aI Y 800 f14)] rfl ?_
              have x44 := w43
              rcases x44 with rfl | rfl
              ·
                refine V_if_eq_t 139 B 144 dX12_commandHere_139 (by decide) (by decide +kernel) ?_
                refine V_aload_n 144 B dX12_commandHere_144 0 rfl ?_
                refine V_bipush 145 B (v := 98) dX12_commandHere_145 (by decide +kernel) ?_
                refine V_bipush 147 B (v := 105) dX12_commandHere_147 (by decide +kernel) ?_
                refine V_bipush 149 B (v := 110) dX12_commandHere_149 (by decide +kernel) ?_
                refine V_bipush 151 B (v := 100) dX12_commandHere_151 (by decide +kernel) ?_
                refine V_iconst 153 B (v := 0) dX12_commandHere_153 (by decide +kernel) ?_
                refine V_iconst 154 B (v := 0) dX12_commandHere_154 (by decide +kernel) ?_
                refine V_csl 155 B (st := [.ref h0]) (As := [.int 98, .int 105, .int 110, .int 100, .int 0, .int 0]) (fun sz => rX12_pack l D Y 98 105 110 100 0 0 sz) glS_RX12_319 ⟨rfl, rfl⟩ ⟨(Nat.le_of_ble_eq_true rfl), (Nat.le_of_ble_eq_true rfl)⟩ ⟨(Nat.le_of_ble_eq_true rfl), (Nat.le_of_ble_eq_true rfl)⟩ [] rfl rfl (Nat.le_of_ble_eq_true rfl) rfl (fun _ _ _ => rfl) dX12_commandHere_155 (fun o45 u46 w47 => ?_)
                refine V_ws [(h0, oC 13 [.ref h1, .ref h2, .int p2, .ref h3, .ref h4, .int (nI k5), .int (nI k6), .int p7, .int p8, .int p9, .int (nI k10), .int p11, .long q12, .ref h5, .ref h6, .int (nI k15), .int (nI k16)]), (h1, aI Y 3640 f0), (h2, aZ Y 2 f1), (h3, aZ Y 80 f3), (h4, aB Y 1600 f4), (h5, aI Y 200 f13), (h6, aI Y 800 f14)] rfl ?_
                refine V_cvi 158 B (st := []) (As := [.long o45]) (fun sz => rX12_isWord l D Y h0 h1 h2 h3 h4 h5 h6 p2 k5 k6 p7 p8 p9 k10 p11 q12 k15 k16 f0 f1 f3 f4 f13 f14 HI (by omega) HP o45 sz) glV_RX12_323 ⟨rfl, rfl⟩ ⟨(Nat.le_of_ble_eq_true rfl), (Nat.le_of_ble_eq_true rfl)⟩ ⟨(Nat.le_of_ble_eq_true rfl), (Nat.le_of_ble_eq_true rfl)⟩ [0, 0, 0, 0, 0, 0, 0] rfl 13 0 rfl rfl rfl rfl (Nat.le_of_ble_eq_true rfl) rfl (fun _ _ _ => rfl) dX12_commandHere_158 (fun j48 u49 w50 => ?_)
                refine V_ws [(h0, oC 13 [.ref h1, .ref h2, .int p2, .ref h3, .ref h4, .int (nI k5), .int (nI k6), .int p7, .int p8, .int p9, .int (nI k10), .int p11, .long q12, .ref h5, .ref h6, .int (nI k15), .int (nI k16)]), (h1, aI Y 3640 f0), (h2, aZ Y 2 f1), (h3, aZ Y 80 f3), (h4, aB Y 1600 f4), (h5, aI Y 200 f13), (h6, aI Y 800 f14)] rfl ?_
                have x51 := w50
                rcases x51 with rfl | rfl
                ·
                  refine V_if_eq_t 161 B 167 dX12_commandHere_161 (by decide) (by decide +kernel) ?_
                  refine V_aload_n 167 B dX12_commandHere_167 0 rfl ?_
                  refine V_bipush 168 B (v := 102) dX12_commandHere_168 (by decide +kernel) ?_
                  refine V_bipush 170 B (v := 111) dX12_commandHere_170 (by decide +kernel) ?_
                  refine V_bipush 172 B (v := 114) dX12_commandHere_172 (by decide +kernel) ?_
                  refine V_bipush 174 B (v := 99) dX12_commandHere_174 (by decide +kernel) ?_
                  refine V_bipush 176 B (v := 101) dX12_commandHere_176 (by decide +kernel) ?_
                  refine V_iconst 178 B (v := 0) dX12_commandHere_178 (by decide +kernel) ?_
                  refine V_csl 179 B (st := [.ref h0]) (As := [.int 102, .int 111, .int 114, .int 99, .int 101, .int 0]) (fun sz => rX12_pack l D Y 102 111 114 99 101 0 sz) glS_RX12_319 ⟨rfl, rfl⟩ ⟨(Nat.le_of_ble_eq_true rfl), (Nat.le_of_ble_eq_true rfl)⟩ ⟨(Nat.le_of_ble_eq_true rfl), (Nat.le_of_ble_eq_true rfl)⟩ [] rfl rfl (Nat.le_of_ble_eq_true rfl) rfl (fun _ _ _ => rfl) dX12_commandHere_179 (fun o52 u53 w54 => ?_)
                  refine V_ws [(h0, oC 13 [.ref h1, .ref h2, .int p2, .ref h3, .ref h4, .int (nI k5), .int (nI k6), .int p7, .int p8, .int p9, .int (nI k10), .int p11, .long q12, .ref h5, .ref h6, .int (nI k15), .int (nI k16)]), (h1, aI Y 3640 f0), (h2, aZ Y 2 f1), (h3, aZ Y 80 f3), (h4, aB Y 1600 f4), (h5, aI Y 200 f13), (h6, aI Y 800 f14)] rfl ?_
                  refine V_cvi 182 B (st := []) (As := [.long o52]) (fun sz => rX12_isWord l D Y h0 h1 h2 h3 h4 h5 h6 p2 k5 k6 p7 p8 p9 k10 p11 q12 k15 k16 f0 f1 f3 f4 f13 f14 HI (by omega) HP o52 sz) glV_RX12_323 ⟨rfl, rfl⟩ ⟨(Nat.le_of_ble_eq_true rfl), (Nat.le_of_ble_eq_true rfl)⟩ ⟨(Nat.le_of_ble_eq_true rfl), (Nat.le_of_ble_eq_true rfl)⟩ [0, 0, 0, 0, 0, 0, 0] rfl 13 0 rfl rfl rfl rfl (Nat.le_of_ble_eq_true rfl) rfl (fun _ _ _ => rfl) dX12_commandHere_182 (fun j55 u56 w57 => ?_)
                  refine V_ws [(h0, oC 13 [.ref h1, .ref h2, .int p2, .ref h3, .ref h4, .int (nI k5), .int (nI k6), .int p7, .int p8, .int p9, .int (nI k10), .int p11, .long q12, .ref h5, .ref h6, .int (nI k15), .int (nI k16)]), (h1, aI Y 3640 f0), (h2, aZ Y 2 f1), (h3, aZ Y 80 f3), (h4, aB Y 1600 f4), (h5, aI Y 200 f13), (h6, aI Y 800 f14)] rfl ?_
                  have x58 := w57
                  rcases x58 with rfl | rfl
                  ·
                    refine V_if_eq_t 185 B 193 dX12_commandHere_185 (by decide) (by decide +kernel) ?_
                    refine V_iconst 193 B (v := (-1)) dX12_commandHere_193 (by decide +kernel) ?_
                    exact V_iret 194 B dX12_commandHere_194 (mkW [] [] [] [] [] []) trivial rfl
                  ·
                    refine V_if_eq_f 185 B 193 dX12_commandHere_185 (by decide) (by decide +kernel) ?_
                    refine V_bipush 188 B (v := 7) dX12_commandHere_188 (by decide +kernel) ?_
                    refine V_goto 190 B 194 dX12_commandHere_190 (by decide) ?_
                    exact V_iret 194 B dX12_commandHere_194 (mkW [] [] [] [] [] []) trivial rfl
                ·
                  refine V_if_eq_f 161 B 167 dX12_commandHere_161 (by decide) (by decide +kernel) ?_
                  refine V_bipush 164 B (v := 6) dX12_commandHere_164 (by decide +kernel) ?_
                  exact V_iret 166 B dX12_commandHere_166 (mkW [] [] [] [] [] []) trivial rfl
              ·
                refine V_if_eq_f 139 B 144 dX12_commandHere_139 (by decide) (by decide +kernel) ?_
                refine V_iconst 142 B (v := 5) dX12_commandHere_142 (by decide +kernel) ?_
                exact V_iret 143 B dX12_commandHere_143 (mkW [] [] [] [] [] []) trivial rfl
            ·
              refine V_if_eq_f 117 B 122 dX12_commandHere_117 (by decide) (by decide +kernel) ?_
              refine V_iconst 120 B (v := 4) dX12_commandHere_120 (by decide +kernel) ?_
              exact V_iret 121 B dX12_commandHere_121 (mkW [] [] [] [] [] []) trivial rfl
          ·
            refine V_if_eq_f 93 B 98 dX12_commandHere_93 (by decide) (by decide +kernel) ?_
            refine V_iconst 96 B (v := 3) dX12_commandHere_96 (by decide +kernel) ?_
            exact V_iret 97 B dX12_commandHere_97 (mkW [] [] [] [] [] []) trivial rfl
        ·
          refine V_if_eq_f 71 B 76 dX12_commandHere_71 (by decide) (by decide +kernel) ?_
          refine V_iconst 74 B (v := 2) dX12_commandHere_74 (by decide +kernel) ?_
          exact V_iret 75 B dX12_commandHere_75 (mkW [] [] [] [] [] []) trivial rfl
      ·
        refine V_if_eq_f 49 B 54 dX12_commandHere_49 (by decide) (by decide +kernel) ?_
        refine V_iconst 52 B (v := 1) dX12_commandHere_52 (by decide +kernel) ?_
        exact V_iret 53 B dX12_commandHere_53 (mkW [] [] [] [] [] []) trivial rfl
    ·
      refine V_if_eq_f 18 B 23 dX12_commandHere_18 (by decide) (by decide +kernel) ?_
      refine V_iconst 21 B (v := 0) dX12_commandHere_21 (by decide +kernel) ?_
      exact V_iret 22 B dX12_commandHere_22 (mkW [] [] [] [] [] []) trivial rfl)
theorem dX12_readStrokes_0 : decode cX12_readStrokes 0 = .ok (.iconst 0, 1) := by decide +kernel
theorem dX12_readStrokes_1 : decode cX12_readStrokes 1 = .ok (.istore_n 1, 1) := by decide +kernel
theorem dX12_readStrokes_2 : decode cX12_readStrokes 2 = .ok (.iload_n 1, 1) := by decide +kernel
theorem dX12_readStrokes_3 : decode cX12_readStrokes 3 = .ok (.ifCond .eq 11, 3) := by decide +kernel
theorem dX12_readStrokes_14 : decode cX12_readStrokes 14 = .ok (.aload_n 0, 1) := by decide +kernel
theorem dX12_readStrokes_15 : decode cX12_readStrokes 15 = .ok (.invokevirtual 297, 3) := by decide +kernel
theorem dX12_readNumberOf_0 : decode cX12_readNumberOf 0 = .ok (.aload_n 0, 1) := by decide +kernel
theorem dX12_readNumberOf_1 : decode cX12_readNumberOf 1 = .ok (.iconst 0, 1) := by decide +kernel
theorem dX12_readNumberOf_2 : decode cX12_readNumberOf 2 = .ok (.sipush 999, 3) := by decide +kernel
theorem dX12_readNumberOf_5 : decode cX12_readNumberOf 5 = .ok (.invokevirtual 301, 3) := by decide +kernel
theorem dX12_readPlayed_0 : decode cX12_readPlayed 0 = .ok (.aload_n 0, 1) := by decide +kernel
theorem dX12_readPlayed_1 : decode cX12_readPlayed 1 = .ok (.invokevirtual 364, 3) := by decide +kernel
theorem glV_RX12_364 : GLV RX12 364 yX12_commandHere RX12 cX12_commandHere 1 (some .int) 0 := ⟨⟨(mT10 62 rfl rfl), (mT10 64 rfl rfl), (mTs 93 rfl rfl), (mT1 13 rfl rfl), (mT10 65 rfl rfl)⟩, by decide +kernel⟩
theorem dX12_readPlayed_4 : decode cX12_readPlayed 4 = .ok (.istore_n 1, 1) := by decide +kernel
theorem dX12_readPlayed_5 : decode cX12_readPlayed 5 = .ok (.iload_n 1, 1) := by decide +kernel
theorem dX12_readPlayed_6 : decode cX12_readPlayed 6 = .ok (.iconst (-1), 1) := by decide +kernel
theorem dX12_readPlayed_7 : decode cX12_readPlayed 7 = .ok (.if_icmp .ne 9, 3) := by decide +kernel
theorem dX12_readPlayed_16 : decode cX12_readPlayed 16 = .ok (.aload_n 0, 1) := by decide +kernel
theorem dX12_readPlayed_17 : decode cX12_readPlayed 17 = .ok (.getfield 361, 3) := by decide +kernel
theorem gf_RX12_361 : GF RX12 361 13 15 := ⟨RX12, TX12, 17, rfl, inw_X12, Nat.le_of_ble_eq_true rfl, (mT7 152 rfl rfl)⟩
theorem dX12_readPlayed_20 : decode cX12_readPlayed 20 = .ok (.bipush 40, 2) := by decide +kernel
theorem dX12_readPlayed_22 : decode cX12_readPlayed 22 = .ok (.if_icmp .ne 9, 3) := by decide +kernel
theorem dX12_readPlayed_31 : decode cX12_readPlayed 31 = .ok (.aload_n 0, 1) := by decide +kernel
theorem dX12_readPlayed_32 : decode cX12_readPlayed 32 = .ok (.invokevirtual 288, 3) := by decide +kernel
theorem dX12_isBound_0 : decode cX12_isBound 0 = .ok (.aload_n 0, 1) := by decide +kernel
theorem dX12_isBound_1 : decode cX12_isBound 1 = .ok (.getfield 28, 3) := by decide +kernel
theorem gf_RX12_28 : GF RX12 28 13 13 := ⟨RX12, TX12, 17, rfl, inw_X12, Nat.le_of_ble_eq_true rfl, (mT7 150 rfl rfl)⟩
theorem dX12_isBound_4 : decode cX12_isBound 4 = .ok (.iload_n 1, 1) := by decide +kernel
theorem dX12_isBound_5 : decode cX12_isBound 5 = .ok (.iconst 1, 1) := by decide +kernel
theorem dX12_isBound_6 : decode cX12_isBound 6 = .ok (.iadd, 1) := by decide +kernel
theorem dX12_isBound_7 : decode cX12_isBound 7 = .ok (.iaload, 1) := by decide +kernel
theorem dX12_isPlayed_0 : decode cX12_isPlayed 0 = .ok (.aload_n 0, 1) := by decide +kernel
theorem dX12_isPlayed_1 : decode cX12_isPlayed 1 = .ok (.getfield 28, 3) := by decide +kernel
theorem dX12_isPlayed_4 : decode cX12_isPlayed 4 = .ok (.iload_n 1, 1) := by decide +kernel
theorem dX12_isPlayed_5 : decode cX12_isPlayed 5 = .ok (.iconst 1, 1) := by decide +kernel
theorem dX12_isPlayed_6 : decode cX12_isPlayed 6 = .ok (.iadd, 1) := by decide +kernel
theorem dX12_isPlayed_7 : decode cX12_isPlayed 7 = .ok (.iaload, 1) := by decide +kernel
theorem dX12_play_0 : decode cX12_play 0 = .ok (.aload_n 0, 1) := by decide +kernel
theorem dX12_play_1 : decode cX12_play 1 = .ok (.iconst 0, 1) := by decide +kernel
theorem dX12_play_2 : decode cX12_play 2 = .ok (.putfield 38, 3) := by decide +kernel
theorem dX12_play_5 : decode cX12_play 5 = .ok (.aload_n 0, 1) := by decide +kernel
theorem dX12_play_6 : decode cX12_play 6 = .ok (.iconst 0, 1) := by decide +kernel
theorem dX12_play_7 : decode cX12_play 7 = .ok (.putfield 361, 3) := by decide +kernel
theorem gp_RX12_361 : GP RX12 361 13 15 .int false := ⟨RX12, TX12, 17, ⟨rfl, inw_X12, Nat.le_of_ble_eq_true rfl, (mT7 152 rfl rfl)⟩, ⟨tyX12, tyX12_ok⟩, nmX12, rfl, by decide +kernel, fun h => nomatch h⟩
theorem dX12_play_10 : decode cX12_play 10 = .ok (.aload_n 0, 1) := by decide +kernel
theorem dX12_play_11 : decode cX12_play 11 = .ok (.iconst 0, 1) := by decide +kernel
theorem dX12_play_12 : decode cX12_play 12 = .ok (.putfield 358, 3) := by decide +kernel
theorem gp_RX12_358 : GP RX12 358 13 16 .int false := ⟨RX12, TX12, 17, ⟨rfl, inw_X12, Nat.le_of_ble_eq_true rfl, (mT7 153 rfl rfl)⟩, ⟨tyX12, tyX12_ok⟩, nmX12, rfl, by decide +kernel, fun h => nomatch h⟩
theorem dX12_play_15 : decode cX12_play 15 = .ok (.aload_n 0, 1) := by decide +kernel
theorem dX12_play_16 : decode cX12_play 16 = .ok (.invokevirtual 349, 3) := by decide +kernel
