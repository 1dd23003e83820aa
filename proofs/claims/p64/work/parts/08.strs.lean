theorem dJ3_checkIndex_8e157_0 : decode cJ3_checkIndex_8e157 0 = .ok (.iload_n 0, 1) := by decide +kernel
theorem dJ3_checkIndex_8e157_1 : decode cJ3_checkIndex_8e157 1 = .ok (.ifCond .lt 8, 3) := by decide +kernel
theorem dJ3_checkIndex_8e157_4 : decode cJ3_checkIndex_8e157 4 = .ok (.iload_n 0, 1) := by decide +kernel
theorem dJ3_checkIndex_8e157_5 : decode cJ3_checkIndex_8e157 5 = .ok (.iload_n 1, 1) := by decide +kernel
theorem dJ3_checkIndex_8e157_6 : decode cJ3_checkIndex_8e157 6 = .ok (.if_icmp .lt 10, 3) := by decide +kernel
theorem dJ3_checkIndex_8e157_16 : decode cJ3_checkIndex_8e157 16 = .ok (.iload_n 0, 1) := by decide +kernel
theorem dJ3_checkIndex_8e157_17 : decode cJ3_checkIndex_8e157 17 = .ok (.ireturn, 1) := by decide +kernel
theorem glS_RJ0_1059 : GLS RJ0 1059 yJ3_checkIndex_8e157 cJ3_checkIndex_8e157 3 (some .int) 3 := ⟨⟨(mT3 11 rfl rfl), (mT3 12 rfl rfl), (mT1 16 rfl rfl), (mT3 13 rfl rfl)⟩, by decide +kernel⟩
theorem dJ0_checkIndex_df160_0 : decode cJ0_checkIndex_df160 0 = .ok (.iload_n 0, 1) := by decide +kernel
theorem dJ0_checkIndex_df160_1 : decode cJ0_checkIndex_df160 1 = .ok (.iload_n 1, 1) := by decide +kernel
theorem dJ0_checkIndex_df160_2 : decode cJ0_checkIndex_df160 2 = .ok (.getstatic 1053, 3) := by decide +kernel
theorem dJ0_checkIndex_df160_5 : decode cJ0_checkIndex_df160 5 = .ok (.invokestatic 1059, 3) := by decide +kernel
theorem dJ0_checkIndex_df160_8 : decode cJ0_checkIndex_df160 8 = .ok (.pop, 1) := by decide +kernel
theorem dJ0_checkIndex_df160_9 : decode cJ0_checkIndex_df160 9 = .ok (.return_, 1) := by decide +kernel
theorem dJ0_coder_7d493_0 : decode cJ0_coder_7d493 0 = .ok (.getstatic 38, 3) := by decide +kernel
theorem dJ0_coder_7d493_3 : decode cJ0_coder_7d493 3 = .ok (.ifCond .eq 10, 3) := by decide +kernel
theorem dJ0_coder_7d493_6 : decode cJ0_coder_7d493 6 = .ok (.aload_n 0, 1) := by decide +kernel
theorem dJ0_coder_7d493_7 : decode cJ0_coder_7d493 7 = .ok (.getfield 15, 3) := by decide +kernel
theorem dJ0_coder_7d493_10 : decode cJ0_coder_7d493 10 = .ok (.goto 4, 3) := by decide +kernel
theorem dJ0_coder_7d493_14 : decode cJ0_coder_7d493 14 = .ok (.ireturn, 1) := by decide +kernel
theorem glV_RJ0_335 : GLV RJ0 335 yJ0_coder_7d493 RJ0 cJ0_coder_7d493 1 (some .byte) 0 := ⟨⟨(mT2 229 rfl rfl), (mT2 230 rfl rfl), (mT2 231 rfl rfl), (mT1 14 rfl rfl), (mT2 232 rfl rfl)⟩, by decide +kernel⟩
theorem dJ0_length_8abf5_0 : decode cJ0_length_8abf5 0 = .ok (.aload_n 0, 1) := by decide +kernel
theorem dJ0_length_8abf5_1 : decode cJ0_length_8abf5 1 = .ok (.getfield 9, 3) := by decide +kernel
theorem dJ0_length_8abf5_4 : decode cJ0_length_8abf5 4 = .ok (.arraylength, 1) := by decide +kernel
theorem dJ0_length_8abf5_5 : decode cJ0_length_8abf5 5 = .ok (.aload_n 0, 1) := by decide +kernel
theorem dJ0_length_8abf5_6 : decode cJ0_length_8abf5 6 = .ok (.invokevirtual 335, 3) := by decide +kernel
theorem dJ0_length_8abf5_9 : decode cJ0_length_8abf5 9 = .ok (.ishr, 1) := by decide +kernel
theorem dJ0_length_8abf5_10 : decode cJ0_length_8abf5 10 = .ok (.ireturn, 1) := by decide +kernel
theorem dJ0_isLatin1_aae02_0 : decode cJ0_isLatin1_aae02 0 = .ok (.getstatic 38, 3) := by decide +kernel
theorem dJ0_isLatin1_aae02_3 : decode cJ0_isLatin1_aae02 3 = .ok (.ifCond .eq 14, 3) := by decide +kernel
theorem dJ0_isLatin1_aae02_6 : decode cJ0_isLatin1_aae02 6 = .ok (.aload_n 0, 1) := by decide +kernel
theorem dJ0_isLatin1_aae02_7 : decode cJ0_isLatin1_aae02 7 = .ok (.getfield 15, 3) := by decide +kernel
theorem dJ0_isLatin1_aae02_10 : decode cJ0_isLatin1_aae02 10 = .ok (.ifCond .ne 7, 3) := by decide +kernel
theorem dJ0_isLatin1_aae02_13 : decode cJ0_isLatin1_aae02 13 = .ok (.iconst 1, 1) := by decide +kernel
theorem dJ0_isLatin1_aae02_14 : decode cJ0_isLatin1_aae02 14 = .ok (.goto 4, 3) := by decide +kernel
theorem dJ0_isLatin1_aae02_18 : decode cJ0_isLatin1_aae02 18 = .ok (.ireturn, 1) := by decide +kernel
theorem glS_RJ1_9 : GLS RJ1 9 yJ0_checkIndex_df160 cJ0_checkIndex_df160 2 none 2 := ⟨⟨(mT3 6 rfl rfl), (mT3 7 rfl rfl), (mT1 14 rfl rfl), (mT3 8 rfl rfl)⟩, by decide +kernel⟩
theorem dJ1_charAt_3b067_0 : decode cJ1_charAt_3b067 0 = .ok (.iload_n 1, 1) := by decide +kernel
theorem dJ1_charAt_3b067_1 : decode cJ1_charAt_3b067 1 = .ok (.aload_n 0, 1) := by decide +kernel
theorem dJ1_charAt_3b067_2 : decode cJ1_charAt_3b067 2 = .ok (.arraylength, 1) := by decide +kernel
theorem dJ1_charAt_3b067_3 : decode cJ1_charAt_3b067 3 = .ok (.invokestatic 9, 3) := by decide +kernel
theorem dJ1_charAt_3b067_6 : decode cJ1_charAt_3b067 6 = .ok (.aload_n 0, 1) := by decide +kernel
theorem dJ1_charAt_3b067_7 : decode cJ1_charAt_3b067 7 = .ok (.iload_n 1, 1) := by decide +kernel
theorem dJ1_charAt_3b067_8 : decode cJ1_charAt_3b067 8 = .ok (.baload, 1) := by decide +kernel
theorem dJ1_charAt_3b067_9 : decode cJ1_charAt_3b067 9 = .ok (.sipush 255, 3) := by decide +kernel
theorem dJ1_charAt_3b067_12 : decode cJ1_charAt_3b067 12 = .ok (.iand, 1) := by decide +kernel
theorem dJ1_charAt_3b067_13 : decode cJ1_charAt_3b067 13 = .ok (.i2c, 1) := by decide +kernel
theorem dJ1_charAt_3b067_14 : decode cJ1_charAt_3b067 14 = .ok (.ireturn, 1) := by decide +kernel
theorem glV_RJ0_492 : GLV RJ0 492 yJ0_isLatin1_aae02 RJ0 cJ0_isLatin1_aae02 1 (some .boolean) 0 := ⟨⟨(mT2 239 rfl rfl), (mT3 0 rfl rfl), (mT3 1 rfl rfl), (mT1 14 rfl rfl), (mT3 2 rfl rfl)⟩, by decide +kernel⟩
theorem glS_RJ0_495 : GLS RJ0 495 yJ1_charAt_3b067 cJ1_charAt_3b067 2 (some .char) 2 := ⟨⟨(mT3 3 rfl rfl), (mT3 4 rfl rfl), (mT1 15 rfl rfl), (mT3 5 rfl rfl)⟩, by decide +kernel⟩
theorem dJ0_charAt_5068e_0 : decode cJ0_charAt_5068e 0 = .ok (.aload_n 0, 1) := by decide +kernel
theorem dJ0_charAt_5068e_1 : decode cJ0_charAt_5068e 1 = .ok (.invokevirtual 492, 3) := by decide +kernel
theorem dJ0_charAt_5068e_4 : decode cJ0_charAt_5068e 4 = .ok (.ifCond .eq 12, 3) := by decide +kernel
theorem dJ0_charAt_5068e_7 : decode cJ0_charAt_5068e 7 = .ok (.aload_n 0, 1) := by decide +kernel
theorem dJ0_charAt_5068e_8 : decode cJ0_charAt_5068e 8 = .ok (.getfield 9, 3) := by decide +kernel
theorem dJ0_charAt_5068e_11 : decode cJ0_charAt_5068e 11 = .ok (.iload_n 1, 1) := by decide +kernel
theorem dJ0_charAt_5068e_12 : decode cJ0_charAt_5068e 12 = .ok (.invokestatic 495, 3) := by decide +kernel
theorem dJ0_charAt_5068e_15 : decode cJ0_charAt_5068e 15 = .ok (.ireturn, 1) := by decide +kernel
set_option maxRecDepth 100000 in
set_option maxHeartbeats 4000000 in
theorem sPre_checkIndex_n (l : Launch) (D : va_G) (Y : Nat → ClassId) (i n : Int32) (h0 : ¬ i < 0) (h1 : i < n) (sz : Nat) : Met l yJ3_checkIndex_8e157 (WSm yJ3_checkIndex_8e157 cJ3_checkIndex_8e157 3 (some .int)) (mkR 0 0 0 0) (PreG EX D Y [.int i, .int n, .null] [] sz) (QI D (fun (r : Int32) (_ : Unit) => r = i) (fun (_ : Unit) => []) (va_A [] sz)) 0 0 (va_A [] sz) :=
  gmet_of (by decide +kernel) (Nat.le_of_ble_eq_true rfl) (fun p e s m args below meth c B EB hsz => by
    have B : VB p s m args meth c D Y (va_A [] sz) cJ3_checkIndex_8e157 3 RJ3 (some .int) := B
    refine V_iload_n 0 B dJ3_checkIndex_8e157_0 0 rfl ?_
    refine V_if_lt_f 1 B 9 dJ3_checkIndex_8e157_1 (by decide) h0 ?_
    refine V_iload_n 4 B dJ3_checkIndex_8e157_4 0 rfl ?_
    refine V_iload_n 5 B dJ3_checkIndex_8e157_5 1 rfl ?_
    refine V_icmp_lt_t 6 B 16 dJ3_checkIndex_8e157_6 (by decide) h1 ?_
    refine V_iload_n 16 B dJ3_checkIndex_8e157_16 0 rfl ?_
    exact V_iret 17 B dJ3_checkIndex_8e157_17 () rfl rfl)
set_option maxRecDepth 100000 in
set_option maxHeartbeats 4000000 in
theorem sPre_checkIndex_r (l : Launch) (D : va_G) (Y : Nat → ClassId) (t : Nat) (i n : Int32) (h0 : ¬ i < 0) (h1 : i < n) (sz : Nat) : Met l yJ3_checkIndex_8e157 (WSm yJ3_checkIndex_8e157 cJ3_checkIndex_8e157 3 (some .int)) (mkR 0 0 0 0) (PreG EX D Y [.int i, .int n, (.ref t)] [] sz) (QI D (fun (r : Int32) (_ : Unit) => r = i) (fun (_ : Unit) => []) (va_A [] sz)) 0 0 (va_A [] sz) :=
  gmet_of (by decide +kernel) (Nat.le_of_ble_eq_true rfl) (fun p e s m args below meth c B EB hsz => by
    have B : VB p s m args meth c D Y (va_A [] sz) cJ3_checkIndex_8e157 3 RJ3 (some .int) := B
    refine V_iload_n 0 B dJ3_checkIndex_8e157_0 0 rfl ?_
    refine V_if_lt_f 1 B 9 dJ3_checkIndex_8e157_1 (by decide) h0 ?_
    refine V_iload_n 4 B dJ3_checkIndex_8e157_4 0 rfl ?_
    refine V_iload_n 5 B dJ3_checkIndex_8e157_5 1 rfl ?_
    refine V_icmp_lt_t 6 B 16 dJ3_checkIndex_8e157_6 (by decide) h1 ?_
    refine V_iload_n 16 B dJ3_checkIndex_8e157_16 0 rfl ?_
    exact V_iret 17 B dJ3_checkIndex_8e157_17 () rfl rfl)
set_option maxRecDepth 100000 in
set_option maxHeartbeats 4000000 in
theorem sStr_checkIndex (l : Launch) (D : va_G) (Y : Nat → ClassId) (i n : Int32) (h0 : ¬ i < 0) (h1 : i < n) (sz : Nat) : Met l yJ0_checkIndex_df160 (WSm yJ0_checkIndex_df160 cJ0_checkIndex_df160 2 none) (mkR 1 0 0 22) (PreG EX D Y [.int i, .int n] [] sz) (QV D (fun (_ : Unit) => True) (fun (_ : Unit) => []) (va_A [] sz)) 0 0 (va_A [] sz) :=
  gmet_of (by decide +kernel) (Nat.le_of_ble_eq_true rfl) (fun p e s m args below meth c B EB hsz => by
    have B : VB p s m args meth c D Y (va_A [] sz) cJ0_checkIndex_df160 2 RJ0 none := B
    refine V_iload_n 0 B dJ0_checkIndex_df160_0 0 rfl ?_
    refine V_iload_n 1 B dJ0_checkIndex_df160_1 1 rfl ?_
    refine V_qget 2 B EB (mT3 9 rfl rfl) dJ0_checkIndex_df160_2 ?_ (fun t9 => ?_)
    ·
      refine V_gsi 5 B envX EB (st := []) (As := [.int i, .int n, .null]) (fun sz => sPre_checkIndex_n l D Y i n h0 h1 sz) glS_RJ0_1059 ⟨rfl, rfl⟩ ⟨(Nat.le_of_ble_eq_true rfl), (Nat.le_of_ble_eq_true rfl)⟩ ⟨(Nat.le_of_ble_eq_true rfl), (Nat.le_of_ble_eq_true rfl)⟩ [] rfl rfl (Nat.le_of_ble_eq_true rfl) rfl (fun _ _ _ => rfl) dJ0_checkIndex_df160_5 (fun r u w => ?_)
      refine V_ws [] rfl ?_
      refine V_pop 8 B dJ0_checkIndex_df160_8 rfl ?_
      exact V_vret 9 B dJ0_checkIndex_df160_9 () trivial rfl
    ·
      refine V_gsi 5 B envX EB (st := []) (As := [.int i, .int n, .ref t9]) (fun sz => sPre_checkIndex_r l D Y t9 i n h0 h1 sz) glS_RJ0_1059 ⟨rfl, rfl⟩ ⟨(Nat.le_of_ble_eq_true rfl), (Nat.le_of_ble_eq_true rfl)⟩ ⟨(Nat.le_of_ble_eq_true rfl), (Nat.le_of_ble_eq_true rfl)⟩ [] rfl rfl (Nat.le_of_ble_eq_true rfl) rfl (fun _ _ _ => rfl) dJ0_checkIndex_df160_5 (fun r u w => ?_)
      refine V_ws [] rfl ?_
      refine V_pop 8 B dJ0_checkIndex_df160_8 rfl ?_
      exact V_vret 9 B dJ0_checkIndex_df160_9 () trivial rfl)
set_option maxRecDepth 100000 in
set_option maxHeartbeats 4000000 in
theorem sStr_coder (l : Launch) (D : va_G) (Y : Nat → ClassId) (t b n : Nat) (f : Nat → Int32) (sz : Nat) : Met l yJ0_coder_7d493 (WSm yJ0_coder_7d493 cJ0_coder_7d493 1 (some .byte)) (mkR 0 0 0 0) (PreG (EXS t b n f) D Y [.ref t] [] sz) (QI D (fun (r : Int32) (_ : Unit) => r = 0) (fun (_ : Unit) => []) (va_A [] sz)) 0 0 (va_A [] sz) :=
  gmet_of (by decide +kernel) (Nat.le_of_ble_eq_true rfl) (fun p e s m args below meth c B EB hsz => by
    have B : VB p s m args meth c D Y (va_A [] sz) cJ0_coder_7d493 1 RJ0 (some .byte) := B
    refine V_cget 0 B EB.1 (mT2 233 rfl rfl) dJ0_coder_7d493_0 ?_
    refine V_if_eq_f 3 B 13 dJ0_coder_7d493_3 (by decide) (by decide +kernel) ?_
    refine V_aload_n 6 B dJ0_coder_7d493_6 0 rfl ?_
    refine V_sget 7 B EB.2.2.2.1 (mT10 90 rfl rfl) dJ0_coder_7d493_7 ?_
    refine V_goto 10 B 14 dJ0_coder_7d493_10 (by decide) ?_
    exact V_nret 14 B rfl dJ0_coder_7d493_14 () rfl rfl)
set_option maxRecDepth 100000 in
set_option maxHeartbeats 4000000 in
theorem sStr_length (l : Launch) (D : va_G) (Y : Nat → ClassId) (t b n : Nat) (f : Nat → Int32) (sz : Nat) : Met l yJ0_length_8abf5 (WSm yJ0_length_8abf5 cJ0_length_8abf5 1 (some .int)) (mkR 1 0 0 20) (PreG (EXS t b n f) D Y [.ref t] [] sz) (QI D (fun (r : Int32) (_ : Unit) => r = nI n) (fun (_ : Unit) => []) (va_A [] sz)) 0 0 (va_A [] sz) :=
  gmet_of (by decide +kernel) (Nat.le_of_ble_eq_true rfl) (fun p e s m args below meth c B EB hsz => by
    have B : VB p s m args meth c D Y (va_A [] sz) cJ0_length_8abf5 1 RJ0 (some .int) := B
    refine V_aload_n 0 B dJ0_length_8abf5_0 0 rfl ?_
    refine V_sget 1 B EB.2.2.2.2.1 (mT10 89 rfl rfl) dJ0_length_8abf5_1 ?_
    refine V_tlen 4 B EB.2.2.2.2.2 (v := nI n) rfl dJ0_length_8abf5_4 ?_
    refine V_aload_n 5 B dJ0_length_8abf5_5 0 rfl ?_
    refine V_gri 6 B (envS t b n f) EB (st := [.int (nI n)]) (As := []) (fun sz => sStr_coder l D Y t b n f sz) glV_RJ0_335 ⟨rfl, rfl⟩ ⟨(Nat.le_of_ble_eq_true rfl), (Nat.le_of_ble_eq_true rfl)⟩ ⟨(Nat.le_of_ble_eq_true rfl), (Nat.le_of_ble_eq_true rfl)⟩ [] rfl EB.2.2.1 rfl (Nat.le_of_ble_eq_true rfl) rfl (fun _ _ _ => rfl) dJ0_length_8abf5_6 (fun r u w => ?_)
    obtain rfl : r = 0 := w
    refine V_ws [] rfl ?_
    refine V_ishr 9 B (v := nI n) dJ0_length_8abf5_9 (sc_shr0 EB.2.1) ?_
    exact V_iret 10 B dJ0_length_8abf5_10 () rfl rfl)
set_option maxRecDepth 100000 in
set_option maxHeartbeats 4000000 in
theorem sStr_isLatin1 (l : Launch) (D : va_G) (Y : Nat → ClassId) (t b n : Nat) (f : Nat → Int32) (sz : Nat) : Met l yJ0_isLatin1_aae02 (WSm yJ0_isLatin1_aae02 cJ0_isLatin1_aae02 1 (some .boolean)) (mkR 0 0 0 0) (PreG (EXS t b n f) D Y [.ref t] [] sz) (QI D (fun (r : Int32) (_ : Unit) => r = 1) (fun (_ : Unit) => []) (va_A [] sz)) 0 0 (va_A [] sz) :=
  gmet_of (by decide +kernel) (Nat.le_of_ble_eq_true rfl) (fun p e s m args below meth c B EB hsz => by
    have B : VB p s m args meth c D Y (va_A [] sz) cJ0_isLatin1_aae02 1 RJ0 (some .boolean) := B
    refine V_cget 0 B EB.1 (mT2 233 rfl rfl) dJ0_isLatin1_aae02_0 ?_
    refine V_if_eq_f 3 B 17 dJ0_isLatin1_aae02_3 (by decide) (by decide +kernel) ?_
    refine V_aload_n 6 B dJ0_isLatin1_aae02_6 0 rfl ?_
    refine V_sget 7 B EB.2.2.2.1 (mT10 90 rfl rfl) dJ0_isLatin1_aae02_7 ?_
    refine V_if_ne_f 10 B 17 dJ0_isLatin1_aae02_10 (by decide) (by decide +kernel) ?_
    refine V_iconst 13 B (v := 1) dJ0_isLatin1_aae02_13 (by decide +kernel) ?_
    refine V_goto 14 B 18 dJ0_isLatin1_aae02_14 (by decide) ?_
    exact V_zret 18 B rfl dJ0_isLatin1_aae02_18 () rfl rfl)
theorem vpin_n {i : Int32} {n : Nat} (hn : n < 2 ^ 31) (h0 : ¬ i < 0) (h1 : i < nI n) : vp_in i n := by
  unfold vp_in
  have h2 := Int32.lt_iff_toInt_lt.mp h1
  rw [nI_toInt hn] at h2
  have h3 := Int32.le_iff_toInt_le.mp (Int32.not_lt.mp h0)
  have e0 : (0 : Int32).toInt = 0 := by decide
  have e1 : i.toNatClampNeg = i.toInt.toNat := rfl
  intro q
  rcases q with q | q
  · exact h0 q
  · omega
set_option maxRecDepth 100000 in
set_option maxHeartbeats 4000000 in
theorem sLat_charAt (l : Launch) (D : va_G) (Y : Nat → ClassId) (t b n : Nat) (f : Nat → Int32) (i : Int32) (h0 : ¬ i < 0) (h1 : i < nI n) (sz : Nat) : Met l yJ1_charAt_3b067 (WSm yJ1_charAt_3b067 cJ1_charAt_3b067 2 (some .char)) (mkR 2 0 0 43) (PreG (EXS t b n f) D Y [.ref b, .int i] [] sz) (QI D (fun (r : Int32) (_ : Unit) => ∃ x : Int32, r = x &&& 255) (fun (_ : Unit) => []) (va_A [] sz)) 0 0 (va_A [] sz) :=
  gmet_of (by decide +kernel) (Nat.le_of_ble_eq_true rfl) (fun p e s m args below meth c B EB hsz => by
    have B : VB p s m args meth c D Y (va_A [] sz) cJ1_charAt_3b067 2 RJ1 (some .char) := B
    refine V_iload_n 0 B dJ1_charAt_3b067_0 1 rfl ?_
    refine V_aload_n 1 B dJ1_charAt_3b067_1 0 rfl ?_
    refine V_tlen 2 B EB.2.2.2.2.2 (v := nI n) rfl dJ1_charAt_3b067_2 ?_
    refine V_gsv 3 B envX EB.1 (st := []) (As := [.int i, .int (nI n)]) (fun sz => sStr_checkIndex l D Y i (nI n) h0 h1 sz) glS_RJ1_9 ⟨rfl, rfl⟩ ⟨(Nat.le_of_ble_eq_true rfl), (Nat.le_of_ble_eq_true rfl)⟩ ⟨(Nat.le_of_ble_eq_true rfl), (Nat.le_of_ble_eq_true rfl)⟩ [] rfl rfl (Nat.le_of_ble_eq_true rfl) rfl (fun _ _ => rfl) dJ1_charAt_3b067_3 (fun u w => ?_)
    refine V_ws [] rfl ?_
    refine V_aload_n 6 B dJ1_charAt_3b067_6 0 rfl ?_
    refine V_iload_n 7 B dJ1_charAt_3b067_7 1 rfl ?_
    refine V_tbld 8 B EB.2.2.2.2.2 (vpin_n EB.2.1 h0 h1) rfl dJ1_charAt_3b067_8 ?_
    refine V_sipush 9 B (v := 255) dJ1_charAt_3b067_9 (by decide +kernel) ?_
    refine V_iand 12 B dJ1_charAt_3b067_12 rfl ?_
    refine V_i2c 13 B dJ1_charAt_3b067_13 (sc_c2 _) ?_
    exact V_nret 14 B (sc_nar _) dJ1_charAt_3b067_14 () ⟨_, rfl⟩ rfl)
set_option maxRecDepth 100000 in
set_option maxHeartbeats 4000000 in
theorem sStr_charAt (l : Launch) (D : va_G) (Y : Nat → ClassId) (t b n : Nat) (f : Nat → Int32) (i : Int32) (h0 : ¬ i < 0) (h1 : i < nI n) (sz : Nat) : Met l yJ0_charAt_5068e (WSm yJ0_charAt_5068e cJ0_charAt_5068e 2 (some .char)) (mkR 3 0 0 64) (PreG (EXS t b n f) D Y [.ref t, .int i] [] sz) (QI D (fun (r : Int32) (_ : Unit) => True) (fun (_ : Unit) => []) (va_A [] sz)) 0 0 (va_A [] sz) :=
  gmet_of (by decide +kernel) (Nat.le_of_ble_eq_true rfl) (fun p e s m args below meth c B EB hsz => by
    have B : VB p s m args meth c D Y (va_A [] sz) cJ0_charAt_5068e 2 RJ0 (some .char) := B
    refine V_aload_n 0 B dJ0_charAt_5068e_0 0 rfl ?_
    refine V_gri 1 B (envS t b n f) EB (st := []) (As := []) (fun sz => sStr_isLatin1 l D Y t b n f sz) glV_RJ0_492 ⟨rfl, rfl⟩ ⟨(Nat.le_of_ble_eq_true rfl), (Nat.le_of_ble_eq_true rfl)⟩ ⟨(Nat.le_of_ble_eq_true rfl), (Nat.le_of_ble_eq_true rfl)⟩ [] rfl EB.2.2.1 rfl (Nat.le_of_ble_eq_true rfl) rfl (fun _ _ _ => rfl) dJ0_charAt_5068e_1 (fun r u w => ?_)
    obtain rfl : r = 1 := w
    refine V_ws [] rfl ?_
    refine V_if_eq_f 4 B 16 dJ0_charAt_5068e_4 (by decide) (by decide +kernel) ?_
    refine V_aload_n 7 B dJ0_charAt_5068e_7 0 rfl ?_
    refine V_sget 8 B EB.2.2.2.2.1 (mT10 89 rfl rfl) dJ0_charAt_5068e_8 ?_
    refine V_iload_n 11 B dJ0_charAt_5068e_11 1 rfl ?_
    refine V_gsi 12 B (envS t b n f) EB (st := []) (As := [.ref b, .int i]) (fun sz => sLat_charAt l D Y t b n f i h0 h1 sz) glS_RJ0_495 ⟨rfl, rfl⟩ ⟨(Nat.le_of_ble_eq_true rfl), (Nat.le_of_ble_eq_true rfl)⟩ ⟨(Nat.le_of_ble_eq_true rfl), (Nat.le_of_ble_eq_true rfl)⟩ [] rfl rfl (Nat.le_of_ble_eq_true rfl) rfl (fun _ _ _ => rfl) dJ0_charAt_5068e_12 (fun r u w => ?_)
    obtain ⟨x, rfl⟩ := w
    refine V_ws [] rfl ?_
    exact V_nret 15 B (sc_nar _) dJ0_charAt_5068e_15 () trivial rfl)
/-! FLOATS -/
section VF
variable {p : Program} {l : Launch} {e : Env} {R : Room} {s : State} {m : MethodId} {args : Array Value} {below : List Frame} {meth : Method} {c : Code} {cells slots : Nat} {Q : State → Prop} {D : va_G} {Y : Nat → ClassId} {A : Nat → Prop} {cc : ByteArray} {nL : Nat} {own : String} {ret : Option FieldType} {lv : List (Nat × Value)} {st : List Value} {ws : va_W}
theorem va_ldcwF {locs : List Loc} {T : State} (X : Stand p l e R s m args below meth c T locs cells slots) (hexec : p.tables.exec = Jvm.exec) {index : Nat} {v : UInt32} (hown : s.vm.findClass own = some m.cls) (hconst : (Cond.constantFloat own index v).before args s = true) {g : JFrame} (hg : g.method = m) (hdg : decode c.code g.pc = .ok (.ldc_w index, 3)) :
    ∀ target, Steps p.tables e below (T.setTop { g with pc := g.pc + 3, stack := .float v :: g.stack }) target → Steps p.tables e below (T.setTop g) target := by
  obtain ⟨k, cf, hk, hcf, hcp⟩ := Cond.constantFloat_spec hown hconst
  obtain ⟨k', hk', he⟩ := X.warmed.alike.2.2 _ _ hk
  intro target hrest
  subst hg
  jvm_step X.here [hexec, hdg, ldc_w.wp_float (s := T) (f := g) X.here.top hk' (by rw [he]; exact hcf) hcp]
  exact hrest
theorem lv_ldcfw {H : Heap} {locs : List Loc} {pc : Nat} {ls : Array Slot} (hexec : p.tables.exec = Jvm.exec) (hb : c.code = cc) {index : Nat} {v : UInt32} (hown : s.vm.findClass own = some m.cls) (hconst : (Cond.constantFloat own index v).before args s = true) (hdg : decode cc pc = .ok (.ldc_w index, 3)) (k : W p l e R s m args below meth c H locs cells slots Q (F0 m (pc + 3) ls (.float v :: st))) : W p l e R s m args below meth c H locs cells slots Q (F0 m pc ls st) := by
  intro T hT X
  obtain ⟨t, a, b⟩ := k T hT X
  exact ⟨t, va_ldcwF X hexec hown hconst (g := F0 m pc ls st) rfl (by rw [hb]; exact hdg) t a, b⟩
theorem V_i2f (pc : Nat) (B : VB p s m args meth c D Y A cc nL own ret) {x : Int32} {v : UInt32} (d : decode cc pc = .ok (.i2f, 1)) (hv : FP.i2f x = v) (kk : V p l e R s m args below meth c D A nL cells slots Q (pc + 1) lv (.float v :: st) ws) : V p l e R s m args below meth c D A nL cells slots Q pc lv (.int x :: st) ws := by
  subst hv
  exact fun H locs ls hl hP hD hS => lv_i2f B.1.1 B.1.2.1 d (kk H locs ls hl hP hD hS)
theorem V_f2i (pc : Nat) (B : VB p s m args meth c D Y A cc nL own ret) {x : UInt32} {v : Int32} (d : decode cc pc = .ok (.f2i, 1)) (hv : FP.f2i x = v) (kk : V p l e R s m args below meth c D A nL cells slots Q (pc + 1) lv (.int v :: st) ws) : V p l e R s m args below meth c D A nL cells slots Q pc lv (.float x :: st) ws := by
  subst hv
  exact fun H locs ls hl hP hD hS => lv_f2i B.1.1 B.1.2.1 d (kk H locs ls hl hP hD hS)
theorem V_fdiv (pc : Nat) (B : VB p s m args meth c D Y A cc nL own ret) {x y v : UInt32} (d : decode cc pc = .ok (.fdiv, 1)) (hn : vf_n32 (FP.fdiv x y)) (hv : FP.fdiv x y = v) (kk : V p l e R s m args below meth c D A nL cells slots Q (pc + 1) lv (.float v :: st) ws) : V p l e R s m args below meth c D A nL cells slots Q pc lv (.float y :: .float x :: st) ws := by
  subst hv
  exact fun H locs ls hl hP hD hS => lv_fdiv B.1.1 B.1.2.1 d hn (kk H locs ls hl hP hD hS)
theorem V_fsub (pc : Nat) (B : VB p s m args meth c D Y A cc nL own ret) {x y v : UInt32} (d : decode cc pc = .ok (.fsub, 1)) (hn : vf_n32 (FP.fsub x y)) (hv : FP.fsub x y = v) (kk : V p l e R s m args below meth c D A nL cells slots Q (pc + 1) lv (.float v :: st) ws) : V p l e R s m args below meth c D A nL cells slots Q pc lv (.float y :: .float x :: st) ws := by
  subst hv
  exact fun H locs ls hl hP hD hS => lv_fsub B.1.1 B.1.2.1 d hn (kk H locs ls hl hP hD hS)
theorem V_fmul (pc : Nat) (B : VB p s m args meth c D Y A cc nL own ret) {x y v : UInt32} (d : decode cc pc = .ok (.fmul, 1)) (hn : vf_n32 (FP.fmul x y)) (hv : FP.fmul x y = v) (kk : V p l e R s m args below meth c D A nL cells slots Q (pc + 1) lv (.float v :: st) ws) : V p l e R s m args below meth c D A nL cells slots Q pc lv (.float y :: .float x :: st) ws := by
  subst hv
  exact fun H locs ls hl hP hD hS => lv_fmul B.1.1 B.1.2.1 d hn (kk H locs ls hl hP hD hS)
theorem V_fcmp (pc : Nat) (B : VB p s m args meth c D Y A cc nL own ret) {x y : UInt32} {op : CmpOp} (d : decode cc pc = .ok (.fcmp op, 1)) (kk : ∀ v : Int32, V p l e R s m args below meth c D A nL cells slots Q (pc + 1) lv (.int v :: st) ws) : V p l e R s m args below meth c D A nL cells slots Q pc lv (.float y :: .float x :: st) ws := fun H locs ls hl hP hD hS => lv_fcmp B.1.1 B.1.2.1 d (kk _ H locs ls hl hP hD hS)
theorem V_fconst1 (pc : Nat) (B : VB p s m args meth c D Y A cc nL own ret) (d : decode cc pc = .ok (.fconst 1, 1)) (kk : V p l e R s m args below meth c D A nL cells slots Q (pc + 1) lv (.float FP.fconst1 :: st) ws) : V p l e R s m args below meth c D A nL cells slots Q pc lv st ws := fun H locs ls hl hP hD hS => lv_fconst1 B.1.1 B.1.2.1 d (kk H locs ls hl hP hD hS)
theorem V_fconst2 (pc : Nat) (B : VB p s m args meth c D Y A cc nL own ret) (d : decode cc pc = .ok (.fconst 2, 1)) (kk : V p l e R s m args below meth c D A nL cells slots Q (pc + 1) lv (.float FP.fconst2 :: st) ws) : V p l e R s m args below meth c D A nL cells slots Q pc lv st ws := fun H locs ls hl hP hD hS => lv_fconst2 B.1.1 B.1.2.1 d (kk H locs ls hl hP hD hS)
theorem V_ldcf (pc : Nat) (B : VB p s m args meth c D Y A cc nL own ret) {index : Nat} {v : UInt32} (d : decode cc pc = .ok (.ldc index, 2)) (hw : Cond.constantFloat own index v ∈ lw_good) (kk : V p l e R s m args below meth c D A nL cells slots Q (pc + 2) lv (.float v :: st) ws) : V p l e R s m args below meth c D A nL cells slots Q pc lv st ws := fun H locs ls hl hP hD hS => lv_ldcf B.1.1 B.1.2.1 B.1.2.2.2.1 (B.1.2.2.2.2 _ hw) d (kk H locs ls hl hP hD hS)
theorem V_ldcfw (pc : Nat) (B : VB p s m args meth c D Y A cc nL own ret) {index : Nat} {v : UInt32} (d : decode cc pc = .ok (.ldc_w index, 3)) (hw : Cond.constantFloat own index v ∈ lw_good) (kk : V p l e R s m args below meth c D A nL cells slots Q (pc + 3) lv (.float v :: st) ws) : V p l e R s m args below meth c D A nL cells slots Q pc lv st ws := fun H locs ls hl hP hD hS => lv_ldcfw B.1.1 B.1.2.1 B.1.2.2.2.1 (B.1.2.2.2.2 _ hw) d (kk H locs ls hl hP hD hS)
theorem V_fload_n (pc : Nat) (B : VB p s m args meth c D Y A cc nL own ret) {k : Fin 4} {x : UInt32} (d : decode cc pc = .ok (.fload_n k, 1)) (j : Nat) (hj : lv[j]? = some ((k : Nat), .float x)) (kk : V p l e R s m args below meth c D A nL cells slots Q (pc + 1) lv (.float x :: st) ws) : V p l e R s m args below meth c D A nL cells slots Q pc lv st ws := fun H locs ls hl hP hD hS => lv_fload_n B.1.1 B.1.2.1 d rfl (lv_at hl j hj) (kk H locs ls hl hP hD hS)
theorem V_fstore_n (pc : Nat) (B : VB p s m args meth c D Y A cc nL own ret) {k : Fin 4} {x : UInt32} {lv2 : List (Nat × Value)} (d : decode cc pc = .ok (.fstore_n k, 1)) (hn : (k : Nat) < nL) (hl2 : ((k : Nat), Value.float x) :: lv.filter (fun q => !(q.1 == (k : Nat)) && !(q.1 + 1 == (k : Nat) && q.2.category == 2)) = lv2) (kk : V p l e R s m args below meth c D A nL cells slots Q (pc + 1) lv2 st ws) : V p l e R s m args below meth c D A nL cells slots Q pc lv (.float x :: st) ws := fun H locs ls hl hP hD hS => lv_fstore_n B.1.1 B.1.2.1 d rfl hl hn hl2 (fun ls2 h2 => kk H locs ls2 h2 hP hD hS)
theorem V_f2raw (pc : Nat) (B : VB p s m args meth c D Y A cc nL own ret) {index : Nat} {x : UInt32} (h1 : Cond.methodLink own index ⟨"java/lang/Float", "floatToRawIntBits", "(F)I"⟩ ∈ lw_good) (h2 : Cond.native ⟨"java/lang/Float", "floatToRawIntBits", "(F)I"⟩ ∈ lw_good) (h3 : Cond.static ⟨"java/lang/Float", "floatToRawIntBits", "(F)I"⟩ ∈ lw_good) (h4 : Cond.initialized "java/lang/Float" ∈ lw_good) (hf : 1 ≤ R.frames) (hlo : (st.map fun v => v.category).sum + 15 ≤ R.locals) (d : decode cc pc = .ok (.invokestatic index, 3)) (kk : V p l e R s m args below meth c D A nL cells slots Q (pc + 3) lv (.int x.toInt32 :: st) ws) : V p l e R s m args below meth c D A nL cells slots Q pc lv (.float x :: st) ws := fun H locs ls hl hP hD hS => vn_f2i B.1.1 B.1.2.1 (by rw [B.1.2.2.1]; exact hl.1.symm) B.1.2.2.2.1 (B.1.2.2.2.2 _ h1) (B.1.2.2.2.2 _ h2) (B.1.2.2.2.2 _ h3) (B.1.2.2.2.2 _ h4) hf hlo d (kk H locs ls hl hP hD hS)
end VF
theorem n32_of {r : UInt32} (h : FP.Core.fIsNaN r = false) : vf_n32 r := by
  unfold vf_n32
  have h1 : ¬ 2139095040 < r.toNat % 2 ^ 31 := fun z => by
    rw [(FP.Core.isNaN_bits32 r).mpr z] at h
    cases h
  have h2 : (r &&& 0x7fffffff).toNat = r.toNat % 2 ^ 31 := by
    rw [UInt32.toNat_and]
    exact Nat.and_two_pow_sub_one_eq_mod r.toNat 31
  have h4 : (0x7f800000 : UInt32).toNat = 2139095040 := by decide
  exact UInt32.le_iff_toNat_le.mpr (by omega)
theorem nn_i2f (x : Int32) : FP.Core.fIsNaN (FP.i2f x) = false := (FP.Core.i2f_fin x).notNaN
theorem nz_i2f {x : Int32} (h : ¬ x = 0) : ¬ FP.Core.FZero (FP.i2f x) := fun z => FP.Core.i2f_ne_zero h ((FP.Core.zero_bits232 _).mp z)
theorem nn_divi {x : UInt32} {y : Int32} (hx : FP.Core.fIsNaN x = false) (h : ¬ y = 0) : FP.Core.fIsNaN (FP.fdiv x (FP.i2f y)) = false := FP.Core.fdiv_out hx (FP.Core.i2f_fin y) (nz_i2f h)
theorem nn_div2 {x : UInt32} (hx : FP.Core.fIsNaN x = false) : FP.Core.fIsNaN (FP.fdiv x FP.fconst2) = false := FP.Core.fdiv_out hx ((FP.Core.fin_bits32 _).mpr (by decide)) (fun z => absurd ((FP.Core.zero_bits232 _).mp z) (by decide))
theorem nn_sub1 {x : UInt32} (hx : FP.Core.fIsNaN x = false) : FP.Core.fIsNaN (FP.fsub x FP.fconst1) = false := FP.Core.fsub_out hx ((FP.Core.fin_bits32 _).mpr (by decide))
theorem nn_mulc {x : UInt32} (hx : FP.Core.fIsNaN x = false) : FP.Core.fIsNaN (FP.fmul x 1258291200) = false := FP.Core.fmul_out' hx ((FP.Core.fin_bits32 _).mpr (by decide)) (fun z => absurd ((FP.Core.zero_bits232 _).mp z) (by decide))
