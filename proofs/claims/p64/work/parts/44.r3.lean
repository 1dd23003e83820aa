theorem dX12_readStatement_0 : decode cX12_readStatement 0 = .ok (.aload_n 0, 1) := by decide +kernel
theorem dX12_readStatement_1 : decode cX12_readStatement 1 = .ok (.bipush 109, 2) := by decide +kernel
theorem dX12_readStatement_3 : decode cX12_readStatement 3 = .ok (.bipush 111, 2) := by decide +kernel
theorem dX12_readStatement_5 : decode cX12_readStatement 5 = .ok (.bipush 100, 2) := by decide +kernel
theorem dX12_readStatement_7 : decode cX12_readStatement 7 = .ok (.bipush 101, 2) := by decide +kernel
theorem dX12_readStatement_9 : decode cX12_readStatement 9 = .ok (.iconst 0, 1) := by decide +kernel
theorem dX12_readStatement_10 : decode cX12_readStatement 10 = .ok (.iconst 0, 1) := by decide +kernel
theorem dX12_readStatement_11 : decode cX12_readStatement 11 = .ok (.invokestatic 319, 3) := by decide +kernel
theorem dX12_pack_0 : decode cX12_pack 0 = .ok (.iload_n 0, 1) := by decide +kernel
theorem dX12_pack_1 : decode cX12_pack 1 = .ok (.i2l, 1) := by decide +kernel
theorem dX12_pack_2 : decode cX12_pack 2 = .ok (.bipush 7, 2) := by decide +kernel
theorem dX12_pack_4 : decode cX12_pack 4 = .ok (.lshl, 1) := by decide +kernel
theorem dX12_pack_5 : decode cX12_pack 5 = .ok (.iload_n 1, 1) := by decide +kernel
theorem dX12_pack_6 : decode cX12_pack 6 = .ok (.i2l, 1) := by decide +kernel
theorem dX12_pack_7 : decode cX12_pack 7 = .ok (.lor, 1) := by decide +kernel
theorem dX12_pack_8 : decode cX12_pack 8 = .ok (.bipush 14, 2) := by decide +kernel
theorem dX12_pack_10 : decode cX12_pack 10 = .ok (.lshl, 1) := by decide +kernel
theorem dX12_pack_11 : decode cX12_pack 11 = .ok (.iload_n 2, 1) := by decide +kernel
theorem dX12_pack_12 : decode cX12_pack 12 = .ok (.bipush 7, 2) := by decide +kernel
theorem dX12_pack_14 : decode cX12_pack 14 = .ok (.ishl, 1) := by decide +kernel
theorem dX12_pack_15 : decode cX12_pack 15 = .ok (.i2l, 1) := by decide +kernel
theorem dX12_pack_16 : decode cX12_pack 16 = .ok (.lor, 1) := by decide +kernel
theorem dX12_pack_17 : decode cX12_pack 17 = .ok (.iload_n 3, 1) := by decide +kernel
theorem dX12_pack_18 : decode cX12_pack 18 = .ok (.i2l, 1) := by decide +kernel
theorem dX12_pack_19 : decode cX12_pack 19 = .ok (.lor, 1) := by decide +kernel
theorem dX12_pack_20 : decode cX12_pack 20 = .ok (.lstore 6, 2) := by decide +kernel
theorem dX12_pack_22 : decode cX12_pack 22 = .ok (.iload 4, 2) := by decide +kernel
theorem dX12_pack_24 : decode cX12_pack 24 = .ok (.ifCond .ne 8, 3) := by decide +kernel
theorem dX12_pack_32 : decode cX12_pack 32 = .ok (.lload 6, 2) := by decide +kernel
theorem dX12_pack_34 : decode cX12_pack 34 = .ok (.bipush 7, 2) := by decide +kernel
theorem dX12_pack_36 : decode cX12_pack 36 = .ok (.lshl, 1) := by decide +kernel
theorem dX12_pack_37 : decode cX12_pack 37 = .ok (.iload 4, 2) := by decide +kernel
theorem dX12_pack_39 : decode cX12_pack 39 = .ok (.i2l, 1) := by decide +kernel
theorem dX12_pack_40 : decode cX12_pack 40 = .ok (.lor, 1) := by decide +kernel
theorem dX12_pack_41 : decode cX12_pack 41 = .ok (.lstore 6, 2) := by decide +kernel
theorem dX12_pack_43 : decode cX12_pack 43 = .ok (.iload 5, 2) := by decide +kernel
theorem dX12_pack_45 : decode cX12_pack 45 = .ok (.ifCond .ne 8, 3) := by decide +kernel
theorem dX12_pack_53 : decode cX12_pack 53 = .ok (.lload 6, 2) := by decide +kernel
theorem dX12_pack_55 : decode cX12_pack 55 = .ok (.bipush 7, 2) := by decide +kernel
theorem dX12_pack_57 : decode cX12_pack 57 = .ok (.lshl, 1) := by decide +kernel
theorem dX12_pack_58 : decode cX12_pack 58 = .ok (.iload 5, 2) := by decide +kernel
theorem dX12_pack_60 : decode cX12_pack 60 = .ok (.i2l, 1) := by decide +kernel
theorem dX12_pack_61 : decode cX12_pack 61 = .ok (.lor, 1) := by decide +kernel
theorem dX12_pack_62 : decode cX12_pack 62 = .ok (.lreturn, 1) := by decide +kernel
theorem dX12_pack_48 : decode cX12_pack 48 = .ok (.lload 6, 2) := by decide +kernel
theorem dX12_pack_50 : decode cX12_pack 50 = .ok (.goto 12, 3) := by decide +kernel
theorem dX12_pack_27 : decode cX12_pack 27 = .ok (.lload 6, 2) := by decide +kernel
theorem dX12_pack_29 : decode cX12_pack 29 = .ok (.goto 12, 3) := by decide +kernel
set_option maxRecDepth 100000 in
set_option maxHeartbeats 4000000 in
theorem rX12_pack (l : Launch) (D : va_G) (Y : Nat → ClassId)  (s0 : Int32) (s1 : Int32) (s2 : Int32) (s3 : Int32) (s4 : Int32) (s5 : Int32)  (sz : Nat) : Met l yX12_pack (WSm yX12_pack cX12_pack 8 (some .long)) (mkR 0 0 0 0) (PreC D Y [.int s0, .int s1, .int s2, .int s3, .int s4, .int s5] [] sz) (QJ D (fun (r : Int64) (u : WU) => True) (fun (u : WU) => []) (va_A [] sz)) 0 0 (va_A [] sz) :=
  met_of  (by decide +kernel) (Nat.le_of_ble_eq_true rfl) (fun p e s m args below meth c B hin hsz => by
    have B : VB p s m args meth c D Y (va_A [] sz) cX12_pack 8 RX12 (some .long) := B
    refine V_iload_n 0 B dX12_pack_0 0 rfl ?_
    refine V_i2l 1 B dX12_pack_1 rfl ?_
    refine V_nml (fun o0 e1 => ?_)
    have x2 : o0.toInt = s0.toInt := by rw [e1, Int32.toInt_toInt64]
    refine V_bipush 2 B (v := 7) dX12_pack_2 (by decide +kernel) ?_
    refine V_lshl 4 B dX12_pack_4 rfl ?_
    refine V_nml (fun o3 _ => ?_)
    refine V_iload_n 5 B dX12_pack_5 1 rfl ?_
    refine V_i2l 6 B dX12_pack_6 rfl ?_
    refine V_nml (fun o4 e5 => ?_)
    have x6 : o4.toInt = s1.toInt := by rw [e5, Int32.toInt_toInt64]
    refine V_lor 7 B dX12_pack_7 rfl ?_
    refine V_nml (fun o7 e8 => ?_)
    refine V_bipush 8 B (v := 14) dX12_pack_8 (by decide +kernel) ?_
    refine V_lshl 10 B dX12_pack_10 rfl ?_
    refine V_nml (fun o9 _ => ?_)
    refine V_iload_n 11 B dX12_pack_11 2 rfl ?_
    refine V_bipush 12 B (v := 7) dX12_pack_12 (by decide +kernel) ?_
    refine V_ishl 14 B dX12_pack_14 rfl ?_
    refine V_nmi (fun j10 _ => ?_)
    refine V_i2l 15 B dX12_pack_15 rfl ?_
    refine V_nml (fun o11 e12 => ?_)
    have x13 : o11.toInt = j10.toInt := by rw [e12, Int32.toInt_toInt64]
    refine V_lor 16 B dX12_pack_16 rfl ?_
    refine V_nml (fun o14 e15 => ?_)
    refine V_iload_n 17 B dX12_pack_17 3 rfl ?_
    refine V_i2l 18 B dX12_pack_18 rfl ?_
    refine V_nml (fun o16 e17 => ?_)
    have x18 : o16.toInt = s3.toInt := by rw [e17, Int32.toInt_toInt64]
    refine V_lor 19 B dX12_pack_19 rfl ?_
    refine V_nml (fun o19 e20 => ?_)
    refine V_lstore 20 B (lv2 := [(6, .long o19), (0, .int s0), (1, .int s1), (2, .int s2), (3, .int s3), (4, .int s4), (5, .int s5)]) dX12_pack_20 (by decide) rfl ?_
    refine V_iload 22 B dX12_pack_22 5 rfl ?_
    refine V_if_ne 24 B 32 dX12_pack_24 (by decide) (fun kk21 => ?_) (fun kk21 => ?_)
    ·
      have x22 := x_ne kk21
      rw [show (0 : Int32).toInt = 0 by decide +kernel] at x22
      refine V_lload 32 B dX12_pack_32 0 rfl ?_
      refine V_bipush 34 B (v := 7) dX12_pack_34 (by decide +kernel) ?_
      refine V_lshl 36 B dX12_pack_36 rfl ?_
      refine V_nml (fun o23 _ => ?_)
      refine V_iload 37 B dX12_pack_37 5 rfl ?_
      refine V_i2l 39 B dX12_pack_39 rfl ?_
      refine V_nml (fun o24 e25 => ?_)
      have x26 : o24.toInt = s4.toInt := by rw [e25, Int32.toInt_toInt64]
      refine V_lor 40 B dX12_pack_40 rfl ?_
      refine V_nml (fun o27 e28 => ?_)
      refine V_lstore 41 B (lv2 := [(6, .long o27), (0, .int s0), (1, .int s1), (2, .int s2), (3, .int s3), (4, .int s4), (5, .int s5)]) dX12_pack_41 (by decide) rfl ?_
      refine V_iload 43 B dX12_pack_43 6 rfl ?_
      refine V_if_ne 45 B 53 dX12_pack_45 (by decide) (fun kk29 => ?_) (fun kk29 => ?_)
      ·
        have x30 := x_ne kk29
        rw [show (0 : Int32).toInt = 0 by decide +kernel] at x30
        refine V_lload 53 B dX12_pack_53 0 rfl ?_
        refine V_bipush 55 B (v := 7) dX12_pack_55 (by decide +kernel) ?_
        refine V_lshl 57 B dX12_pack_57 rfl ?_
        refine V_nml (fun o31 _ => ?_)
        refine V_iload 58 B dX12_pack_58 6 rfl ?_
        refine V_i2l 60 B dX12_pack_60 rfl ?_
        refine V_nml (fun o32 e33 => ?_)
        have x34 : o32.toInt = s5.toInt := by rw [e33, Int32.toInt_toInt64]
        refine V_lor 61 B dX12_pack_61 rfl ?_
        refine V_nml (fun o35 e36 => ?_)
        exact V_lret 62 B dX12_pack_62 (mkW [] [] [] [] [] []) trivial rfl
      ·
        obtain rfl : s5 = 0 := kk29
        have e38 : (0 : Int32).toInt = 0 := by decide +kernel
        refine V_lload 48 B dX12_pack_48 0 rfl ?_
        refine V_goto 50 B 62 dX12_pack_50 (by decide) ?_
        exact V_lret 62 B dX12_pack_62 (mkW [] [] [] [] [] []) trivial rfl
    ·
      obtain rfl : s4 = 0 := kk21
      have e40 : (0 : Int32).toInt = 0 := by decide +kernel
      refine V_lload 27 B dX12_pack_27 0 rfl ?_
      refine V_goto 29 B 41 dX12_pack_29 (by decide) ?_
      refine V_lstore 41 B (lv2 := [(6, .long o19), (0, .int s0), (1, .int s1), (2, .int s2), (3, .int s3), (4, .int 0), (5, .int s5)]) dX12_pack_41 (by decide) rfl ?_
      refine V_iload 43 B dX12_pack_43 6 rfl ?_
      refine V_if_ne 45 B 53 dX12_pack_45 (by decide) (fun kk41 => ?_) (fun kk41 => ?_)
      ·
        have x42 := x_ne kk41
        rw [show (0 : Int32).toInt = 0 by decide +kernel] at x42
        refine V_lload 53 B dX12_pack_53 0 rfl ?_
        refine V_bipush 55 B (v := 7) dX12_pack_55 (by decide +kernel) ?_
        refine V_lshl 57 B dX12_pack_57 rfl ?_
        refine V_nml (fun o43 _ => ?_)
        refine V_iload 58 B dX12_pack_58 6 rfl ?_
        refine V_i2l 60 B dX12_pack_60 rfl ?_
        refine V_nml (fun o44 e45 => ?_)
        have x46 : o44.toInt = s5.toInt := by rw [e45, Int32.toInt_toInt64]
        refine V_lor 61 B dX12_pack_61 rfl ?_
        refine V_nml (fun o47 e48 => ?_)
        exact V_lret 62 B dX12_pack_62 (mkW [] [] [] [] [] []) trivial rfl
      ·
        obtain rfl : s5 = 0 := kk41
        have e50 : (0 : Int32).toInt = 0 := by decide +kernel
        refine V_lload 48 B dX12_pack_48 0 rfl ?_
        refine V_goto 50 B 62 dX12_pack_50 (by decide) ?_
        exact V_lret 62 B dX12_pack_62 (mkW [] [] [] [] [] []) trivial rfl)
theorem glS_RX12_319 : GLS RX12 319 yX12_pack cX12_pack 8 (some .long) 6 := ⟨⟨(mT9 225 rfl rfl), (mT9 226 rfl rfl), (mT1 13 rfl rfl), (mT9 227 rfl rfl)⟩, by decide +kernel⟩
theorem dX12_readStatement_14 : decode cX12_readStatement 14 = .ok (.invokevirtual 323, 3) := by decide +kernel
theorem dX12_isWord_0 : decode cX12_isWord 0 = .ok (.aload_n 0, 1) := by decide +kernel
theorem dX12_isWord_1 : decode cX12_isWord 1 = .ok (.getfield 283, 3) := by decide +kernel
theorem dX12_isWord_4 : decode cX12_isWord 4 = .ok (.iconst 1, 1) := by decide +kernel
theorem dX12_isWord_5 : decode cX12_isWord 5 = .ok (.if_icmp .ne 16, 3) := by decide +kernel
theorem dX12_isWord_21 : decode cX12_isWord 21 = .ok (.iconst 0, 1) := by decide +kernel
theorem dX12_isWord_22 : decode cX12_isWord 22 = .ok (.ireturn, 1) := by decide +kernel
theorem dX12_isWord_8 : decode cX12_isWord 8 = .ok (.aload_n 0, 1) := by decide +kernel
theorem dX12_isWord_9 : decode cX12_isWord 9 = .ok (.getfield 273, 3) := by decide +kernel
theorem dX12_isWord_12 : decode cX12_isWord 12 = .ok (.lload_n 1, 1) := by decide +kernel
theorem dX12_isWord_13 : decode cX12_isWord 13 = .ok (.lcmp, 1) := by decide +kernel
theorem dX12_isWord_14 : decode cX12_isWord 14 = .ok (.ifCond .ne 7, 3) := by decide +kernel
theorem dX12_isWord_17 : decode cX12_isWord 17 = .ok (.iconst 1, 1) := by decide +kernel
theorem dX12_isWord_18 : decode cX12_isWord 18 = .ok (.goto 4, 3) := by decide +kernel
set_option maxRecDepth 100000 in
set_option maxHeartbeats 4000000 in
theorem rX12_isWord (l : Launch) (D : va_G) (Y : Nat → ClassId) (h0 : Nat) (h1 : Nat) (h2 : Nat) (h3 : Nat) (h4 : Nat) (h5 : Nat) (h6 : Nat) (p2 : Int32) (k5 : Nat) (k6 : Nat) (p7 : Int32) (p8 : Int32) (p9 : Int32) (k10 : Nat) (p11 : Int32) (q12 : Int64) (k15 : Nat) (k16 : Nat) (f0 : Nat → Int32) (f1 : Nat → Int32) (f3 : Nat → Int32) (f4 : Nat → Int32) (f13 : Nat → Int32) (f14 : Nat → Int32) (HI : INV f0) (HL : k5 ≤ 1600) (HP : PLV f13) (s0 : Int64)  (sz : Nat) : Met l yX12_isWord (WSm yX12_isWord cX12_isWord 3 (some .boolean)) (mkR 0 0 0 0) (PreC D Y [.ref h0, .long s0] [(h0, oC 13 [.ref h1, .ref h2, .int p2, .ref h3, .ref h4, .int (nI k5), .int (nI k6), .int p7, .int p8, .int p9, .int (nI k10), .int p11, .long q12, .ref h5, .ref h6, .int (nI k15), .int (nI k16)]), (h1, aI Y 3640 f0), (h2, aZ Y 2 f1), (h3, aZ Y 80 f3), (h4, aB Y 1600 f4), (h5, aI Y 200 f13), (h6, aI Y 800 f14)] sz) (QI D (fun (r : Int32) (u : WU) => (r = 0 ∨ r = 1)) (fun (u : WU) => [(h0, oC 13 [.ref h1, .ref h2, .int p2, .ref h3, .ref h4, .int (nI k5), .int (nI k6), .int p7, .int p8, .int p9, .int (nI k10), .int p11, .long q12, .ref h5, .ref h6, .int (nI k15), .int (nI k16)]), (h1, aI Y 3640 f0), (h2, aZ Y 2 f1), (h3, aZ Y 80 f3), (h4, aB Y 1600 f4), (h5, aI Y 200 f13), (h6, aI Y 800 f14)]) (va_A [(h0, oC 13 [.ref h1, .ref h2, .int p2, .ref h3, .ref h4, .int (nI k5), .int (nI k6), .int p7, .int p8, .int p9, .int (nI k10), .int p11, .long q12, .ref h5, .ref h6, .int (nI k15), .int (nI k16)]), (h1, aI Y 3640 f0), (h2, aZ Y 2 f1), (h3, aZ Y 80 f3), (h4, aB Y 1600 f4), (h5, aI Y 200 f13), (h6, aI Y 800 f14)] sz)) 0 0 (va_A [(h0, oC 13 [.ref h1, .ref h2, .int p2, .ref h3, .ref h4, .int (nI k5), .int (nI k6), .int p7, .int p8, .int p9, .int (nI k10), .int p11, .long q12, .ref h5, .ref h6, .int (nI k15), .int (nI k16)]), (h1, aI Y 3640 f0), (h2, aZ Y 2 f1), (h3, aZ Y 80 f3), (h4, aB Y 1600 f4), (h5, aI Y 200 f13), (h6, aI Y 800 f14)] sz) :=
  met_of  (by decide +kernel) (Nat.le_of_ble_eq_true rfl) (fun p e s m args below meth c B hin hsz => by
    have B : VB p s m args meth c D Y (va_A [(h0, oC 13 [.ref h1, .ref h2, .int p2, .ref h3, .ref h4, .int (nI k5), .int (nI k6), .int p7, .int p8, .int p9, .int (nI k10), .int p11, .long q12, .ref h5, .ref h6, .int (nI k15), .int (nI k16)]), (h1, aI Y 3640 f0), (h2, aZ Y 2 f1), (h3, aZ Y 80 f3), (h4, aB Y 1600 f4), (h5, aI Y 200 f13), (h6, aI Y 800 f14)] sz) cX12_isWord 3 RX12 (some .boolean) := B
    refine V_aload_n 0 B dX12_isWord_0 0 rfl ?_
    refine V_get 1 B gf_RX12_283 0 rfl rfl dX12_isWord_1 ?_
    refine V_iconst 4 B (v := 1) dX12_isWord_4 (by decide +kernel) ?_
    refine V_icmp_ne 5 B 21 dX12_isWord_5 (by decide) (fun kk0 => ?_) (fun kk0 => ?_)
    ·
      have x1 := x_ne kk0
      rw [show (1 : Int32).toInt = 1 by decide +kernel] at x1
      refine V_iconst 21 B (v := 0) dX12_isWord_21 (by decide +kernel) ?_
      exact V_zret 22 B rfl dX12_isWord_22 (mkW [] [] [] [] [] []) (Or.inl rfl) rfl
    ·
      obtain rfl : p9 = 1 := kk0
      have e3 : (1 : Int32).toInt = 1 := by decide +kernel
      refine V_aload_n 8 B dX12_isWord_8 0 rfl ?_
      refine V_get 9 B gf_RX12_273 0 rfl rfl dX12_isWord_9 ?_
      refine V_lload_n 12 B dX12_isWord_12 1 rfl ?_
      refine V_lcmp 13 B dX12_isWord_13 rfl ?_
      refine V_nmi (fun j4 _ => ?_)
      refine V_if_ne 14 B 21 dX12_isWord_14 (by decide) (fun kk5 => ?_) (fun kk5 => ?_)
      ·
        have x6 := x_ne kk5
        rw [show (0 : Int32).toInt = 0 by decide +kernel] at x6
        refine V_iconst 21 B (v := 0) dX12_isWord_21 (by decide +kernel) ?_
        exact V_zret 22 B rfl dX12_isWord_22 (mkW [] [] [] [] [] []) (Or.inl rfl) rfl
      ·
        obtain rfl : j4 = 0 := kk5
        have e8 : (0 : Int32).toInt = 0 := by decide +kernel
        refine V_iconst 17 B (v := 1) dX12_isWord_17 (by decide +kernel) ?_
        refine V_goto 18 B 22 dX12_isWord_18 (by decide) ?_
        exact V_zret 22 B rfl dX12_isWord_22 (mkW [] [] [] [] [] []) (Or.inr rfl) rfl)
theorem glV_RX12_323 : GLV RX12 323 yX12_isWord RX12 cX12_isWord 3 (some .boolean) 1 := ⟨⟨(mT9 228 rfl rfl), (mT9 230 rfl rfl), (mTs 76 rfl rfl), (mT1 13 rfl rfl), (mT9 231 rfl rfl)⟩, by decide +kernel⟩
theorem dX12_readStatement_17 : decode cX12_readStatement 17 = .ok (.ifCond .eq 8, 3) := by decide +kernel
theorem dX12_readStatement_25 : decode cX12_readStatement 25 = .ok (.aload_n 0, 1) := by decide +kernel
theorem dX12_readStatement_26 : decode cX12_readStatement 26 = .ok (.bipush 112, 2) := by decide +kernel
theorem dX12_readStatement_28 : decode cX12_readStatement 28 = .ok (.bipush 108, 2) := by decide +kernel
theorem dX12_readStatement_30 : decode cX12_readStatement 30 = .ok (.bipush 97, 2) := by decide +kernel
theorem dX12_readStatement_32 : decode cX12_readStatement 32 = .ok (.bipush 105, 2) := by decide +kernel
theorem dX12_readStatement_34 : decode cX12_readStatement 34 = .ok (.bipush 110, 2) := by decide +kernel
theorem dX12_readStatement_36 : decode cX12_readStatement 36 = .ok (.iconst 0, 1) := by decide +kernel
theorem dX12_readStatement_37 : decode cX12_readStatement 37 = .ok (.invokestatic 319, 3) := by decide +kernel
theorem dX12_readStatement_40 : decode cX12_readStatement 40 = .ok (.invokevirtual 323, 3) := by decide +kernel
theorem dX12_readStatement_43 : decode cX12_readStatement 43 = .ok (.ifCond .eq 9, 3) := by decide +kernel
theorem dX12_readStatement_52 : decode cX12_readStatement 52 = .ok (.aload_n 0, 1) := by decide +kernel
theorem dX12_readStatement_53 : decode cX12_readStatement 53 = .ok (.bipush 115, 2) := by decide +kernel
theorem dX12_readStatement_55 : decode cX12_readStatement 55 = .ok (.bipush 119, 2) := by decide +kernel
theorem dX12_readStatement_57 : decode cX12_readStatement 57 = .ok (.bipush 105, 2) := by decide +kernel
theorem dX12_readStatement_59 : decode cX12_readStatement 59 = .ok (.bipush 116, 2) := by decide +kernel
theorem dX12_readStatement_61 : decode cX12_readStatement 61 = .ok (.bipush 99, 2) := by decide +kernel
theorem dX12_readStatement_63 : decode cX12_readStatement 63 = .ok (.bipush 104, 2) := by decide +kernel
theorem dX12_readStatement_65 : decode cX12_readStatement 65 = .ok (.invokestatic 319, 3) := by decide +kernel
theorem dX12_readStatement_68 : decode cX12_readStatement 68 = .ok (.invokevirtual 323, 3) := by decide +kernel
theorem dX12_readStatement_71 : decode cX12_readStatement 71 = .ok (.ifCond .eq 9, 3) := by decide +kernel
theorem dX12_readStatement_80 : decode cX12_readStatement 80 = .ok (.aload_n 0, 1) := by decide +kernel
theorem dX12_readStatement_81 : decode cX12_readStatement 81 = .ok (.bipush 98, 2) := by decide +kernel
theorem dX12_readStatement_83 : decode cX12_readStatement 83 = .ok (.bipush 97, 2) := by decide +kernel
theorem dX12_readStatement_85 : decode cX12_readStatement 85 = .ok (.bipush 99, 2) := by decide +kernel
theorem dX12_readStatement_87 : decode cX12_readStatement 87 = .ok (.bipush 107, 2) := by decide +kernel
theorem dX12_readStatement_89 : decode cX12_readStatement 89 = .ok (.iconst 0, 1) := by decide +kernel
theorem dX12_readStatement_90 : decode cX12_readStatement 90 = .ok (.iconst 0, 1) := by decide +kernel
theorem dX12_readStatement_91 : decode cX12_readStatement 91 = .ok (.invokestatic 319, 3) := by decide +kernel
theorem dX12_readStatement_94 : decode cX12_readStatement 94 = .ok (.invokevirtual 323, 3) := by decide +kernel
theorem dX12_readStatement_97 : decode cX12_readStatement 97 = .ok (.ifCond .eq 9, 3) := by decide +kernel
theorem dX12_readStatement_106 : decode cX12_readStatement 106 = .ok (.aload_n 0, 1) := by decide +kernel
theorem dX12_readStatement_107 : decode cX12_readStatement 107 = .ok (.bipush 114, 2) := by decide +kernel
theorem dX12_readStatement_109 : decode cX12_readStatement 109 = .ok (.bipush 101, 2) := by decide +kernel
theorem dX12_readStatement_111 : decode cX12_readStatement 111 = .ok (.bipush 115, 2) := by decide +kernel
theorem dX12_readStatement_113 : decode cX12_readStatement 113 = .ok (.bipush 101, 2) := by decide +kernel
theorem dX12_readStatement_115 : decode cX12_readStatement 115 = .ok (.bipush 114, 2) := by decide +kernel
theorem dX12_readStatement_117 : decode cX12_readStatement 117 = .ok (.bipush 118, 2) := by decide +kernel
theorem dX12_readStatement_119 : decode cX12_readStatement 119 = .ok (.invokestatic 319, 3) := by decide +kernel
theorem dX12_readStatement_122 : decode cX12_readStatement 122 = .ok (.bipush 7, 2) := by decide +kernel
theorem dX12_readStatement_124 : decode cX12_readStatement 124 = .ok (.lshl, 1) := by decide +kernel
theorem dX12_readStatement_125 : decode cX12_readStatement 125 = .ok (.ldc2_w 333, 3) := by decide +kernel
theorem dX12_readStatement_128 : decode cX12_readStatement 128 = .ok (.lor, 1) := by decide +kernel
theorem dX12_readStatement_129 : decode cX12_readStatement 129 = .ok (.invokevirtual 323, 3) := by decide +kernel
theorem dX12_readStatement_132 : decode cX12_readStatement 132 = .ok (.ifCond .eq 8, 3) := by decide +kernel
theorem dX12_readStatement_140 : decode cX12_readStatement 140 = .ok (.aload_n 0, 1) := by decide +kernel
theorem dX12_readStatement_141 : decode cX12_readStatement 141 = .ok (.bipush 98, 2) := by decide +kernel
theorem dX12_readStatement_143 : decode cX12_readStatement 143 = .ok (.bipush 105, 2) := by decide +kernel
theorem dX12_readStatement_145 : decode cX12_readStatement 145 = .ok (.bipush 110, 2) := by decide +kernel
theorem dX12_readStatement_147 : decode cX12_readStatement 147 = .ok (.bipush 100, 2) := by decide +kernel
theorem dX12_readStatement_149 : decode cX12_readStatement 149 = .ok (.iconst 0, 1) := by decide +kernel
theorem dX12_readStatement_150 : decode cX12_readStatement 150 = .ok (.iconst 0, 1) := by decide +kernel
theorem dX12_readStatement_151 : decode cX12_readStatement 151 = .ok (.invokestatic 319, 3) := by decide +kernel
theorem dX12_readStatement_154 : decode cX12_readStatement 154 = .ok (.invokevirtual 323, 3) := by decide +kernel
theorem dX12_readStatement_157 : decode cX12_readStatement 157 = .ok (.ifCond .eq 8, 3) := by decide +kernel
theorem dX12_readStatement_165 : decode cX12_readStatement 165 = .ok (.aload_n 0, 1) := by decide +kernel
theorem dX12_readStatement_166 : decode cX12_readStatement 166 = .ok (.bipush 108, 2) := by decide +kernel
theorem dX12_readStatement_168 : decode cX12_readStatement 168 = .ok (.bipush 97, 2) := by decide +kernel
theorem dX12_readStatement_170 : decode cX12_readStatement 170 = .ok (.bipush 121, 2) := by decide +kernel
theorem dX12_readStatement_172 : decode cX12_readStatement 172 = .ok (.bipush 101, 2) := by decide +kernel
theorem dX12_readStatement_174 : decode cX12_readStatement 174 = .ok (.bipush 114, 2) := by decide +kernel
theorem dX12_readStatement_176 : decode cX12_readStatement 176 = .ok (.iconst 0, 1) := by decide +kernel
theorem dX12_readStatement_177 : decode cX12_readStatement 177 = .ok (.invokestatic 319, 3) := by decide +kernel
theorem dX12_readStatement_180 : decode cX12_readStatement 180 = .ok (.invokevirtual 323, 3) := by decide +kernel
theorem dX12_readStatement_183 : decode cX12_readStatement 183 = .ok (.ifCond .eq 8, 3) := by decide +kernel
theorem dX12_readStatement_191 : decode cX12_readStatement 191 = .ok (.aload_n 0, 1) := by decide +kernel
theorem dX12_readStatement_192 : decode cX12_readStatement 192 = .ok (.bipush 116, 2) := by decide +kernel
theorem dX12_readStatement_194 : decode cX12_readStatement 194 = .ok (.bipush 105, 2) := by decide +kernel
theorem dX12_readStatement_196 : decode cX12_readStatement 196 = .ok (.bipush 109, 2) := by decide +kernel
theorem dX12_readStatement_198 : decode cX12_readStatement 198 = .ok (.bipush 101, 2) := by decide +kernel
theorem dX12_readStatement_200 : decode cX12_readStatement 200 = .ok (.bipush 111, 2) := by decide +kernel
theorem dX12_readStatement_202 : decode cX12_readStatement 202 = .ok (.bipush 117, 2) := by decide +kernel
theorem dX12_readStatement_204 : decode cX12_readStatement 204 = .ok (.invokestatic 319, 3) := by decide +kernel
theorem dX12_readStatement_207 : decode cX12_readStatement 207 = .ok (.bipush 7, 2) := by decide +kernel
theorem dX12_readStatement_209 : decode cX12_readStatement 209 = .ok (.lshl, 1) := by decide +kernel
theorem dX12_readStatement_210 : decode cX12_readStatement 210 = .ok (.ldc2_w 344, 3) := by decide +kernel
theorem dX12_readStatement_213 : decode cX12_readStatement 213 = .ok (.lor, 1) := by decide +kernel
theorem dX12_readStatement_214 : decode cX12_readStatement 214 = .ok (.invokevirtual 323, 3) := by decide +kernel
theorem dX12_readStatement_217 : decode cX12_readStatement 217 = .ok (.ifCond .eq 10, 3) := by decide +kernel
theorem dX12_readStatement_227 : decode cX12_readStatement 227 = .ok (.aload_n 0, 1) := by decide +kernel
theorem dX12_readStatement_228 : decode cX12_readStatement 228 = .ok (.iconst 1, 1) := by decide +kernel
theorem dX12_readStatement_229 : decode cX12_readStatement 229 = .ok (.invokevirtual 291, 3) := by decide +kernel
theorem dX12_readStatement_232 : decode cX12_readStatement 232 = .ok (.ireturn, 1) := by decide +kernel
theorem dX12_readStatement_220 : decode cX12_readStatement 220 = .ok (.aload_n 0, 1) := by decide +kernel
theorem dX12_readStatement_221 : decode cX12_readStatement 221 = .ok (.invokevirtual 346, 3) := by decide +kernel
theorem glV_RX12_346 : GLV RX12 346 yX12_readTimeout RX12 cX12_readTimeout 1 (some .boolean) 0 := ⟨⟨(mT10 46 rfl rfl), (mT10 48 rfl rfl), (mTs 90 rfl rfl), (mT1 13 rfl rfl), (mT10 49 rfl rfl)⟩, by decide +kernel⟩
theorem dX12_readStatement_224 : decode cX12_readStatement 224 = .ok (.goto 8, 3) := by decide +kernel
theorem dX12_readStatement_186 : decode cX12_readStatement 186 = .ok (.aload_n 0, 1) := by decide +kernel
theorem dX12_readStatement_187 : decode cX12_readStatement 187 = .ok (.invokevirtual 341, 3) := by decide +kernel
