theorem dX12_inRange_0 : decode cX12_inRange 0 = .ok (.lload_n 0, 1) := by decide +kernel
theorem dX12_inRange_1 : decode cX12_inRange 1 = .ok (.lload_n 2, 1) := by decide +kernel
theorem dX12_inRange_2 : decode cX12_inRange 2 = .ok (.lcmp, 1) := by decide +kernel
theorem dX12_inRange_3 : decode cX12_inRange 3 = .ok (.ifCond .lt 14, 3) := by decide +kernel
theorem dX12_inRange_6 : decode cX12_inRange 6 = .ok (.lload_n 0, 1) := by decide +kernel
theorem dX12_inRange_7 : decode cX12_inRange 7 = .ok (.lload 4, 2) := by decide +kernel
theorem dX12_inRange_9 : decode cX12_inRange 9 = .ok (.lcmp, 1) := by decide +kernel
theorem dX12_inRange_10 : decode cX12_inRange 10 = .ok (.ifCond .gt 7, 3) := by decide +kernel
theorem dX12_inRange_13 : decode cX12_inRange 13 = .ok (.iconst 1, 1) := by decide +kernel
theorem dX12_inRange_14 : decode cX12_inRange 14 = .ok (.goto 4, 3) := by decide +kernel
theorem dX12_inRange_17 : decode cX12_inRange 17 = .ok (.iconst 0, 1) := by decide +kernel
theorem dX12_inRange_18 : decode cX12_inRange 18 = .ok (.ireturn, 1) := by decide +kernel
set_option maxHeartbeats 4000000 in
theorem rX12_inRange (l : Launch) (D : va_G) (Y : Nat → ClassId) (v lo hi : Int64) (sz : Nat) : Met l yX12_inRange (WSm yX12_inRange cX12_inRange 6 (some .boolean)) (mkR 0 0 0 0) (PreC D Y [.long v, .long lo, .long hi] [] sz) (QI D (fun (r : Int32) (_ : WU) => r = 0 ∨ (r = 1 ∧ lo.toInt ≤ v.toInt ∧ v.toInt ≤ hi.toInt)) (fun (_ : WU) => []) (va_A [] sz)) 0 0 (va_A [] sz) :=
  met_of (by decide +kernel) (Nat.le_of_ble_eq_true rfl) (fun p e s m args below meth c B hin hsz => by
    have B : VB p s m args meth c D Y (va_A [] sz) cX12_inRange 6 RX12 (some .boolean) := B
    refine V_lload_n 0 B dX12_inRange_0 0 rfl ?_
    refine V_lload_n 1 B dX12_inRange_1 1 rfl ?_
    refine V_lcmp 2 B dX12_inRange_2 rfl ?_
    refine V_if_lt 3 B 17 dX12_inRange_3 (by decide) (fun k1 => ?_) (fun k1 => ?_)
    · refine V_iconst 17 B (v := 0) dX12_inRange_17 (by decide +kernel) ?_
      exact V_zret 18 B rfl dX12_inRange_18 (mkW [] [] [] [] [] []) (Or.inl rfl) rfl
    · refine V_lload_n 6 B dX12_inRange_6 0 rfl ?_
      refine V_lload 7 B dX12_inRange_7 2 rfl ?_
      refine V_lcmp 9 B dX12_inRange_9 rfl ?_
      refine V_if_gt 10 B 17 dX12_inRange_10 (by decide) (fun k2 => ?_) (fun k2 => ?_)
      · refine V_iconst 17 B (v := 0) dX12_inRange_17 (by decide +kernel) ?_
        exact V_zret 18 B rfl dX12_inRange_18 (mkW [] [] [] [] [] []) (Or.inl rfl) rfl
      · refine V_iconst 13 B (v := 1) dX12_inRange_13 (by decide +kernel) ?_
        refine V_goto 14 B 18 dX12_inRange_14 (by decide) ?_
        exact V_zret 18 B rfl dX12_inRange_18 (mkW [] [] [] [] [] []) (Or.inr ⟨rfl, lc_nltL k1, lc_ngtL k2⟩) rfl)
theorem dX12_min_0 : decode cX12_min 0 = .ok (.iload_n 0, 1) := by decide +kernel
theorem dX12_min_1 : decode cX12_min 1 = .ok (.iload_n 1, 1) := by decide +kernel
theorem dX12_min_2 : decode cX12_min 2 = .ok (.if_icmp .ge 7, 3) := by decide +kernel
theorem dX12_min_9 : decode cX12_min 9 = .ok (.iload_n 1, 1) := by decide +kernel
theorem dX12_min_10 : decode cX12_min 10 = .ok (.ireturn, 1) := by decide +kernel
theorem dX12_min_5 : decode cX12_min 5 = .ok (.iload_n 0, 1) := by decide +kernel
theorem dX12_min_6 : decode cX12_min 6 = .ok (.goto 4, 3) := by decide +kernel
set_option maxRecDepth 100000 in
set_option maxHeartbeats 4000000 in
theorem rX12_min (l : Launch) (D : va_G) (Y : Nat → ClassId)  (s0 : Nat) (s1 : Nat) (hn0 : s0 < 5000) (hn1 : s1 < 5000) (sz : Nat) : Met l yX12_min (WSm yX12_min cX12_min 2 (some .int)) (mkR 0 0 0 0) (PreC D Y [.int (nI s0), .int (nI s1)] [] sz) (QI D (fun (r : Int32) (u : WU) => r = nI (min s0 s1)) (fun (u : WU) => []) (va_A [] sz)) 0 0 (va_A [] sz) :=
  met_of (by decide +kernel) (Nat.le_of_ble_eq_true rfl) (fun p e s m args below meth c B hin hsz => by
    have B : VB p s m args meth c D Y (va_A [] sz) cX12_min 2 RX12 (some .int) := B
    refine V_iload_n 0 B dX12_min_0 0 rfl ?_
    refine V_iload_n 1 B dX12_min_1 1 rfl ?_
    refine V_icmp_ge 2 B 9 dX12_min_2 (by decide) (fun kk0 => ?_) (fun kk0 => ?_)
    ·
      have x1 := n_le (a := s1) (b := s0) kk0 (by omega) (by omega)
      refine V_iload_n 9 B dX12_min_9 1 rfl ?_
      exact V_iret 10 B dX12_min_10 (mkW [] [] [] [] [] []) (congrArg nI (by omega)) rfl
    ·
      have x2 := n_nle (a := s1) (b := s0) kk0 (by omega) (by omega)
      refine V_iload_n 5 B dX12_min_5 0 rfl ?_
      refine V_goto 6 B 10 dX12_min_6 (by decide) ?_
      exact V_iret 10 B dX12_min_10 (mkW [] [] [] [] [] []) (congrArg nI (by omega)) rfl)
theorem dX12_saveSnapshot_0 : decode cX12_saveSnapshot 0 = .ok (.aload_n 0, 1) := by decide +kernel
theorem dX12_saveSnapshot_1 : decode cX12_saveSnapshot 1 = .ok (.iconst 0, 1) := by decide +kernel
theorem dX12_saveSnapshot_2 : decode cX12_saveSnapshot 2 = .ok (.putfield 38, 3) := by decide +kernel
theorem inw_X12 : ∀ w ∈ u_ws RX12 TX12 17, w ∈ lw_good := by decide +kernel
theorem gp_RX12_38 : GP RX12 38 13 2 .int false := ⟨RX12, TX12, 17, ⟨rfl, inw_X12, Nat.le_of_ble_eq_true rfl, (mT7 139 rfl rfl)⟩, ⟨tyX12, tyX12_ok⟩, nmX12, rfl, by decide +kernel, fun h => nomatch h⟩
theorem dX12_saveSnapshot_5 : decode cX12_saveSnapshot 5 = .ok (.iload_n 1, 1) := by decide +kernel
theorem dX12_saveSnapshot_6 : decode cX12_saveSnapshot 6 = .ok (.i2l, 1) := by decide +kernel
theorem dX12_saveSnapshot_7 : decode cX12_saveSnapshot 7 = .ok (.lconst 0, 1) := by decide +kernel
theorem dX12_saveSnapshot_8 : decode cX12_saveSnapshot 8 = .ok (.lconst 1, 1) := by decide +kernel
theorem dX12_saveSnapshot_9 : decode cX12_saveSnapshot 9 = .ok (.invokestatic 41, 3) := by decide +kernel
theorem glS_RX12_41 : GLS RX12 41 yX12_inRange cX12_inRange 6 (some .boolean) 3 := ⟨⟨(mT7 194 rfl rfl), (mT7 195 rfl rfl), (mT1 13 rfl rfl), (mT7 196 rfl rfl)⟩, by decide +kernel⟩
theorem dX12_saveSnapshot_12 : decode cX12_saveSnapshot 12 = .ok (.ifCond .ne 5, 3) := by decide +kernel
theorem dX12_saveSnapshot_15 : decode cX12_saveSnapshot 15 = .ok (.iconst 0, 1) := by decide +kernel
theorem dX12_saveSnapshot_16 : decode cX12_saveSnapshot 16 = .ok (.ireturn, 1) := by decide +kernel
theorem dX12_saveSnapshot_17 : decode cX12_saveSnapshot 17 = .ok (.aload_n 0, 1) := by decide +kernel
theorem dX12_saveSnapshot_18 : decode cX12_saveSnapshot 18 = .ok (.iconst 0, 1) := by decide +kernel
theorem dX12_saveSnapshot_19 : decode cX12_saveSnapshot 19 = .ok (.iconst 1, 1) := by decide +kernel
theorem dX12_saveSnapshot_20 : decode cX12_saveSnapshot 20 = .ok (.iload_n 1, 1) := by decide +kernel
theorem dX12_saveSnapshot_21 : decode cX12_saveSnapshot 21 = .ok (.iadd, 1) := by decide +kernel
theorem dX12_saveSnapshot_22 : decode cX12_saveSnapshot 22 = .ok (.invokevirtual 45, 3) := by decide +kernel
theorem dX12_copyBlock_0 : decode cX12_copyBlock 0 = .ok (.iconst 0, 1) := by decide +kernel
theorem dX12_copyBlock_1 : decode cX12_copyBlock 1 = .ok (.istore_n 3, 1) := by decide +kernel
theorem dX12_copyBlock_2 : decode cX12_copyBlock 2 = .ok (.iload_n 3, 1) := by decide +kernel
theorem dX12_copyBlock_3 : decode cX12_copyBlock 3 = .ok (.sipush 906, 3) := by decide +kernel
theorem dX12_copyBlock_6 : decode cX12_copyBlock 6 = .ok (.if_icmp .ge 33, 3) := by decide +kernel
theorem dX12_copyBlock_39 : decode cX12_copyBlock 39 = .ok (.return_, 1) := by decide +kernel
theorem dX12_copyBlock_9 : decode cX12_copyBlock 9 = .ok (.aload_n 0, 1) := by decide +kernel
theorem dX12_copyBlock_10 : decode cX12_copyBlock 10 = .ok (.getfield 9, 3) := by decide +kernel
theorem gf_RX12_9 : GF RX12 9 13 0 := ⟨RX12, TX12, 17, rfl, inw_X12, Nat.le_of_ble_eq_true rfl, (mT7 137 rfl rfl)⟩
theorem dX12_copyBlock_13 : decode cX12_copyBlock 13 = .ok (.sipush 906, 3) := by decide +kernel
theorem dX12_copyBlock_16 : decode cX12_copyBlock 16 = .ok (.iload_n 2, 1) := by decide +kernel
theorem dX12_copyBlock_17 : decode cX12_copyBlock 17 = .ok (.imul, 1) := by decide +kernel
theorem dX12_copyBlock_18 : decode cX12_copyBlock 18 = .ok (.iload_n 3, 1) := by decide +kernel
theorem dX12_copyBlock_19 : decode cX12_copyBlock 19 = .ok (.iadd, 1) := by decide +kernel
theorem dX12_copyBlock_20 : decode cX12_copyBlock 20 = .ok (.aload_n 0, 1) := by decide +kernel
theorem dX12_copyBlock_21 : decode cX12_copyBlock 21 = .ok (.getfield 9, 3) := by decide +kernel
theorem dX12_copyBlock_24 : decode cX12_copyBlock 24 = .ok (.sipush 906, 3) := by decide +kernel
theorem dX12_copyBlock_27 : decode cX12_copyBlock 27 = .ok (.iload_n 1, 1) := by decide +kernel
theorem dX12_copyBlock_28 : decode cX12_copyBlock 28 = .ok (.imul, 1) := by decide +kernel
theorem dX12_copyBlock_29 : decode cX12_copyBlock 29 = .ok (.iload_n 3, 1) := by decide +kernel
theorem dX12_copyBlock_30 : decode cX12_copyBlock 30 = .ok (.iadd, 1) := by decide +kernel
theorem dX12_copyBlock_31 : decode cX12_copyBlock 31 = .ok (.iaload, 1) := by decide +kernel
theorem dX12_restoreSnapshot_0 : decode cX12_restoreSnapshot 0 = .ok (.aload_n 0, 1) := by decide +kernel
theorem dX12_restoreSnapshot_1 : decode cX12_restoreSnapshot 1 = .ok (.iconst 0, 1) := by decide +kernel
theorem dX12_restoreSnapshot_2 : decode cX12_restoreSnapshot 2 = .ok (.putfield 38, 3) := by decide +kernel
theorem dX12_restoreSnapshot_5 : decode cX12_restoreSnapshot 5 = .ok (.iload_n 1, 1) := by decide +kernel
theorem dX12_restoreSnapshot_6 : decode cX12_restoreSnapshot 6 = .ok (.i2l, 1) := by decide +kernel
theorem dX12_restoreSnapshot_7 : decode cX12_restoreSnapshot 7 = .ok (.lconst 0, 1) := by decide +kernel
theorem dX12_restoreSnapshot_8 : decode cX12_restoreSnapshot 8 = .ok (.lconst 1, 1) := by decide +kernel
theorem dX12_restoreSnapshot_9 : decode cX12_restoreSnapshot 9 = .ok (.invokestatic 41, 3) := by decide +kernel
theorem dX12_restoreSnapshot_12 : decode cX12_restoreSnapshot 12 = .ok (.ifCond .eq 12, 3) := by decide +kernel
theorem dX12_restoreSnapshot_24 : decode cX12_restoreSnapshot 24 = .ok (.iconst 0, 1) := by decide +kernel
theorem dX12_restoreSnapshot_25 : decode cX12_restoreSnapshot 25 = .ok (.ireturn, 1) := by decide +kernel
theorem dX12_restoreSnapshot_15 : decode cX12_restoreSnapshot 15 = .ok (.aload_n 0, 1) := by decide +kernel
theorem dX12_restoreSnapshot_16 : decode cX12_restoreSnapshot 16 = .ok (.getfield 13, 3) := by decide +kernel
theorem gf_RX12_13 : GF RX12 13 13 1 := ⟨RX12, TX12, 17, rfl, inw_X12, Nat.le_of_ble_eq_true rfl, (mT7 138 rfl rfl)⟩
theorem dX12_restoreSnapshot_19 : decode cX12_restoreSnapshot 19 = .ok (.iload_n 1, 1) := by decide +kernel
theorem dX12_restoreSnapshot_20 : decode cX12_restoreSnapshot 20 = .ok (.baload, 1) := by decide +kernel
theorem dX12_restoreSnapshot_21 : decode cX12_restoreSnapshot 21 = .ok (.ifCond .ne 5, 3) := by decide +kernel
theorem dX12_restoreSnapshot_26 : decode cX12_restoreSnapshot 26 = .ok (.aload_n 0, 1) := by decide +kernel
theorem dX12_restoreSnapshot_27 : decode cX12_restoreSnapshot 27 = .ok (.iconst 1, 1) := by decide +kernel
theorem dX12_restoreSnapshot_28 : decode cX12_restoreSnapshot 28 = .ok (.iload_n 1, 1) := by decide +kernel
theorem dX12_restoreSnapshot_29 : decode cX12_restoreSnapshot 29 = .ok (.iadd, 1) := by decide +kernel
theorem dX12_restoreSnapshot_30 : decode cX12_restoreSnapshot 30 = .ok (.iconst 0, 1) := by decide +kernel
theorem dX12_restoreSnapshot_31 : decode cX12_restoreSnapshot 31 = .ok (.invokevirtual 45, 3) := by decide +kernel
theorem dX12_isStroke_0 : decode cX12_isStroke 0 = .ok (.iload_n 0, 1) := by decide +kernel
theorem dX12_isStroke_1 : decode cX12_isStroke 1 = .ok (.i2l, 1) := by decide +kernel
theorem dX12_isStroke_2 : decode cX12_isStroke 2 = .ok (.lconst 0, 1) := by decide +kernel
theorem dX12_isStroke_3 : decode cX12_isStroke 3 = .ok (.ldc2_w 49, 3) := by decide +kernel
theorem dX12_isStroke_6 : decode cX12_isStroke 6 = .ok (.invokestatic 41, 3) := by decide +kernel
theorem dX12_isStroke_9 : decode cX12_isStroke 9 = .ok (.ifCond .eq 16, 3) := by decide +kernel
theorem dX12_isStroke_25 : decode cX12_isStroke 25 = .ok (.iconst 0, 1) := by decide +kernel
theorem dX12_isStroke_26 : decode cX12_isStroke 26 = .ok (.ireturn, 1) := by decide +kernel
theorem dX12_isStroke_12 : decode cX12_isStroke 12 = .ok (.iload_n 0, 1) := by decide +kernel
theorem dX12_isStroke_13 : decode cX12_isStroke 13 = .ok (.bipush 32, 2) := by decide +kernel
theorem dX12_isStroke_15 : decode cX12_isStroke 15 = .ok (.irem, 1) := by decide +kernel
theorem dX12_isStroke_16 : decode cX12_isStroke 16 = .ok (.bipush 26, 2) := by decide +kernel
theorem dX12_isStroke_18 : decode cX12_isStroke 18 = .ok (.if_icmp .ge 7, 3) := by decide +kernel
theorem dX12_isStroke_21 : decode cX12_isStroke 21 = .ok (.iconst 1, 1) := by decide +kernel
theorem dX12_isStroke_22 : decode cX12_isStroke 22 = .ok (.goto 4, 3) := by decide +kernel
set_option maxRecDepth 100000 in
set_option maxHeartbeats 4000000 in
theorem rX12_isStroke (l : Launch) (D : va_G) (Y : Nat → ClassId)  (s0 : Int32)  (sz : Nat) : Met l yX12_isStroke (WSm yX12_isStroke cX12_isStroke 1 (some .boolean)) (mkR 1 0 0 25) (PreC D Y [.int s0] [] sz) (QI D (fun (r : Int32) (u : WU) => (r = 0 ∨ r = 1)) (fun (u : WU) => []) (va_A [] sz)) 0 0 (va_A [] sz) :=
  met_of (by decide +kernel) (Nat.le_of_ble_eq_true rfl) (fun p e s m args below meth c B hin hsz => by
    have B : VB p s m args meth c D Y (va_A [] sz) cX12_isStroke 1 RX12 (some .boolean) := B
    refine V_iload_n 0 B dX12_isStroke_0 0 rfl ?_
    refine V_i2l 1 B dX12_isStroke_1 rfl ?_
    refine V_nml (fun o0 e1 => ?_)
    have x2 : o0.toInt = s0.toInt := by rw [e1, Int32.toInt_toInt64]
    refine V_lconst 2 B (v := 0) dX12_isStroke_2 (by decide +kernel) ?_
    refine V_ldc2 3 B (v := 511) dX12_isStroke_3 (mT7 212 rfl rfl) ?_
    refine V_csi 6 B (st := []) (As := [.long o0, .long 0, .long 511]) (fun sz => rX12_inRange l D Y o0 0 511 sz) glS_RX12_41 ⟨rfl, rfl⟩ ⟨(Nat.le_of_ble_eq_true rfl), (Nat.le_of_ble_eq_true rfl)⟩ ⟨(Nat.le_of_ble_eq_true rfl), (Nat.le_of_ble_eq_true rfl)⟩ [] rfl rfl (Nat.le_of_ble_eq_true rfl) rfl (fun _ _ _ => rfl) dX12_isStroke_6 (fun j3 u4 w5 => ?_)
    rcases w5 with rfl | ⟨rfl, x6, x7⟩
    ·
      refine V_if_eq_t 9 B 25 dX12_isStroke_9 (by decide) (by decide +kernel) ?_
      refine V_iconst 25 B (v := 0) dX12_isStroke_25 (by decide +kernel) ?_
      exact V_zret 26 B rfl dX12_isStroke_26 (mkW [] [] [] [] [] []) (Or.inl rfl) rfl
    ·
      rw [show (0 : Int64).toInt = 0 by decide +kernel] at x6
      rw [show (511 : Int64).toInt = 511 by decide +kernel] at x7
      refine V_if_eq_f 9 B 25 dX12_isStroke_9 (by decide) (by decide +kernel) ?_
      refine V_iload_n 12 B dX12_isStroke_12 0 rfl ?_
      refine V_bipush 13 B (v := 32) dX12_isStroke_13 (by decide +kernel) ?_
      refine V_irem 15 B dX12_isStroke_15 (by decide +kernel) rfl ?_
      refine V_nmi (fun j8 e9 => ?_)
      refine V_bipush 16 B (v := 26) dX12_isStroke_16 (by decide +kernel) ?_
      refine V_icmp_ge 18 B 25 dX12_isStroke_18 (by decide) (fun kk10 => ?_) (fun kk10 => ?_)
      ·
        have x11 := x_le kk10
        rw [show (26 : Int32).toInt = 26 by decide +kernel] at x11
        refine V_iconst 25 B (v := 0) dX12_isStroke_25 (by decide +kernel) ?_
        exact V_zret 26 B rfl dX12_isStroke_26 (mkW [] [] [] [] [] []) (Or.inl rfl) rfl
      ·
        have x12 := x_nle kk10
        rw [show (26 : Int32).toInt = 26 by decide +kernel] at x12
        refine V_iconst 21 B (v := 1) dX12_isStroke_21 (by decide +kernel) ?_
        refine V_goto 22 B 26 dX12_isStroke_22 (by decide) ?_
        exact V_zret 26 B rfl dX12_isStroke_26 (mkW [] [] [] [] [] []) (Or.inr rfl) rfl)
theorem dX12_keyCost_0 : decode cX12_keyCost 0 = .ok (.bipush 97, 2) := by decide +kernel
theorem dX12_keyCost_2 : decode cX12_keyCost 2 = .ok (.iload_n 0, 1) := by decide +kernel
theorem dX12_keyCost_3 : decode cX12_keyCost 3 = .ok (.iadd, 1) := by decide +kernel
theorem dX12_keyCost_4 : decode cX12_keyCost 4 = .ok (.tableswitch 120 97 121 #[116, 120, 120, 116, 118, 116, 116, 116, 118, 116, 116, 116, 120, 120, 118, 118, 118, 118, 116, 118, 118, 120, 118, 120, 118], 116) := by decide +kernel
theorem dX12_keyCost_120 : decode cX12_keyCost 120 = .ok (.iconst 1, 1) := by decide +kernel
theorem dX12_keyCost_121 : decode cX12_keyCost 121 = .ok (.ireturn, 1) := by decide +kernel
theorem dX12_keyCost_124 : decode cX12_keyCost 124 = .ok (.iconst 3, 1) := by decide +kernel
theorem dX12_keyCost_125 : decode cX12_keyCost 125 = .ok (.ireturn, 1) := by decide +kernel
theorem dX12_keyCost_122 : decode cX12_keyCost 122 = .ok (.iconst 2, 1) := by decide +kernel
theorem dX12_keyCost_123 : decode cX12_keyCost 123 = .ok (.ireturn, 1) := by decide +kernel
theorem sw_out_97_121 {x : Int32} (h97 : ¬ x = 97) (h98 : ¬ x = 98) (h99 : ¬ x = 99) (h100 : ¬ x = 100) (h101 : ¬ x = 101) (h102 : ¬ x = 102) (h103 : ¬ x = 103) (h104 : ¬ x = 104) (h105 : ¬ x = 105) (h106 : ¬ x = 106) (h107 : ¬ x = 107) (h108 : ¬ x = 108) (h109 : ¬ x = 109) (h110 : ¬ x = 110) (h111 : ¬ x = 111) (h112 : ¬ x = 112) (h113 : ¬ x = 113) (h114 : ¬ x = 114) (h115 : ¬ x = 115) (h116 : ¬ x = 116) (h117 : ¬ x = 117) (h118 : ¬ x = 118) (h119 : ¬ x = 119) (h120 : ¬ x = 120) (h121 : ¬ x = 121) : x.toInt < 97 ∨ 121 < x.toInt := by
  have e97 := neT (n := 97) h97 (by decide +kernel)
  have e98 := neT (n := 98) h98 (by decide +kernel)
  have e99 := neT (n := 99) h99 (by decide +kernel)
  have e100 := neT (n := 100) h100 (by decide +kernel)
  have e101 := neT (n := 101) h101 (by decide +kernel)
  have e102 := neT (n := 102) h102 (by decide +kernel)
  have e103 := neT (n := 103) h103 (by decide +kernel)
  have e104 := neT (n := 104) h104 (by decide +kernel)
  have e105 := neT (n := 105) h105 (by decide +kernel)
  have e106 := neT (n := 106) h106 (by decide +kernel)
  have e107 := neT (n := 107) h107 (by decide +kernel)
  have e108 := neT (n := 108) h108 (by decide +kernel)
  have e109 := neT (n := 109) h109 (by decide +kernel)
  have e110 := neT (n := 110) h110 (by decide +kernel)
  have e111 := neT (n := 111) h111 (by decide +kernel)
  have e112 := neT (n := 112) h112 (by decide +kernel)
  have e113 := neT (n := 113) h113 (by decide +kernel)
  have e114 := neT (n := 114) h114 (by decide +kernel)
  have e115 := neT (n := 115) h115 (by decide +kernel)
  have e116 := neT (n := 116) h116 (by decide +kernel)
  have e117 := neT (n := 117) h117 (by decide +kernel)
  have e118 := neT (n := 118) h118 (by decide +kernel)
  have e119 := neT (n := 119) h119 (by decide +kernel)
  have e120 := neT (n := 120) h120 (by decide +kernel)
  have e121 := neT (n := 121) h121 (by decide +kernel)
  omega
set_option maxRecDepth 100000 in
set_option maxHeartbeats 4000000 in
theorem rX12_keyCost (l : Launch) (D : va_G) (Y : Nat → ClassId)  (s0 : Int32)  (sz : Nat) : Met l yX12_keyCost (WSm yX12_keyCost cX12_keyCost 1 (some .int)) (mkR 0 0 0 0) (PreC D Y [.int s0] [] sz) (QI D (fun (r : Int32) (u : WU) => True) (fun (u : WU) => []) (va_A [] sz)) 0 0 (va_A [] sz) :=
  met_of (by decide +kernel) (Nat.le_of_ble_eq_true rfl) (fun p e s m args below meth c B hin hsz => by
    have B : VB p s m args meth c D Y (va_A [] sz) cX12_keyCost 1 RX12 (some .int) := B
    refine V_bipush 0 B (v := 97) dX12_keyCost_0 (by decide +kernel) ?_
    refine V_iload_n 2 B dX12_keyCost_2 0 rfl ?_
    refine V_iadd 3 B dX12_keyCost_3 rfl ?_
    refine V_nmi (fun j0 e1 => ?_)
    by_cases kk2 : j0 = 97
    ·
      refine V_eqi _ 97 kk2 ?_
      refine V_tableIn 4 B 120 dX12_keyCost_4 (by decide +kernel) (by decide +kernel) (off := 116) (by decide +kernel) (by decide) ?_
      refine V_iconst 120 B (v := 1) dX12_keyCost_120 (by decide +kernel) ?_
      exact V_iret 121 B dX12_keyCost_121 (mkW [] [] [] [] [] []) trivial rfl
    ·
      by_cases kk3 : j0 = 98
      ·
        refine V_eqi _ 98 kk3 ?_
        refine V_tableIn 4 B 124 dX12_keyCost_4 (by decide +kernel) (by decide +kernel) (off := 120) (by decide +kernel) (by decide) ?_
        refine V_iconst 124 B (v := 3) dX12_keyCost_124 (by decide +kernel) ?_
        exact V_iret 125 B dX12_keyCost_125 (mkW [] [] [] [] [] []) trivial rfl
      ·
        by_cases kk4 : j0 = 99
        ·
          refine V_eqi _ 99 kk4 ?_
          refine V_tableIn 4 B 124 dX12_keyCost_4 (by decide +kernel) (by decide +kernel) (off := 120) (by decide +kernel) (by decide) ?_
          refine V_iconst 124 B (v := 3) dX12_keyCost_124 (by decide +kernel) ?_
          exact V_iret 125 B dX12_keyCost_125 (mkW [] [] [] [] [] []) trivial rfl
        ·
          by_cases kk5 : j0 = 100
          ·
            refine V_eqi _ 100 kk5 ?_
            refine V_tableIn 4 B 120 dX12_keyCost_4 (by decide +kernel) (by decide +kernel) (off := 116) (by decide +kernel) (by decide) ?_
            refine V_iconst 120 B (v := 1) dX12_keyCost_120 (by decide +kernel) ?_
            exact V_iret 121 B dX12_keyCost_121 (mkW [] [] [] [] [] []) trivial rfl
          ·
            by_cases kk6 : j0 = 101
            ·
              refine V_eqi _ 101 kk6 ?_
              refine V_tableIn 4 B 122 dX12_keyCost_4 (by decide +kernel) (by decide +kernel) (off := 118) (by decide +kernel) (by decide) ?_
              refine V_iconst 122 B (v := 2) dX12_keyCost_122 (by decide +kernel) ?_
              exact V_iret 123 B dX12_keyCost_123 (mkW [] [] [] [] [] []) trivial rfl
            ·
              by_cases kk7 : j0 = 102
              ·
                refine V_eqi _ 102 kk7 ?_
                refine V_tableIn 4 B 120 dX12_keyCost_4 (by decide +kernel) (by decide +kernel) (off := 116) (by decide +kernel) (by decide) ?_
                refine V_iconst 120 B (v := 1) dX12_keyCost_120 (by decide +kernel) ?_
                exact V_iret 121 B dX12_keyCost_121 (mkW [] [] [] [] [] []) trivial rfl
              ·
                by_cases kk8 : j0 = 103
                ·
                  refine V_eqi _ 103 kk8 ?_
                  refine V_tableIn 4 B 120 dX12_keyCost_4 (by decide +kernel) (by decide +kernel) (off := 116) (by decide +kernel) (by decide) ?_
                  refine V_iconst 120 B (v := 1) dX12_keyCost_120 (by decide +kernel) ?_
                  exact V_iret 121 B dX12_keyCost_121 (mkW [] [] [] [] [] []) trivial rfl
                ·
                  by_cases kk9 : j0 = 104
                  ·
                    refine V_eqi _ 104 kk9 ?_
                    refine V_tableIn 4 B 120 dX12_keyCost_4 (by decide +kernel) (by decide +kernel) (off := 116) (by decide +kernel) (by decide) ?_
                    refine V_iconst 120 B (v := 1) dX12_keyCost_120 (by decide +kernel) ?_
                    exact V_iret 121 B dX12_keyCost_121 (mkW [] [] [] [] [] []) trivial rfl
                  ·
                    by_cases kk10 : j0 = 105
                    ·
                      refine V_eqi _ 105 kk10 ?_
                      refine V_tableIn 4 B 122 dX12_keyCost_4 (by decide +kernel) (by decide +kernel) (off := 118) (by decide +kernel) (by decide) ?_
                      refine V_iconst 122 B (v := 2) dX12_keyCost_122 (by decide +kernel) ?_
                      exact V_iret 123 B dX12_keyCost_123 (mkW [] [] [] [] [] []) trivial rfl
                    ·
                      by_cases kk11 : j0 = 106
                      ·
                        refine V_eqi _ 106 kk11 ?_
                        refine V_tableIn 4 B 120 dX12_keyCost_4 (by decide +kernel) (by decide +kernel) (off := 116) (by decide +kernel) (by decide) ?_
                        refine V_iconst 120 B (v := 1) dX12_keyCost_120 (by decide +kernel) ?_
                        exact V_iret 121 B dX12_keyCost_121 (mkW [] [] [] [] [] []) trivial rfl
                      ·
                        by_cases kk12 : j0 = 107
                        ·
                          refine V_eqi _ 107 kk12 ?_
                          refine V_tableIn 4 B 120 dX12_keyCost_4 (by decide +kernel) (by decide +kernel) (off := 116) (by decide +kernel) (by decide) ?_
                          refine V_iconst 120 B (v := 1) dX12_keyCost_120 (by decide +kernel) ?_
                          exact V_iret 121 B dX12_keyCost_121 (mkW [] [] [] [] [] []) trivial rfl
                        ·
                          by_cases kk13 : j0 = 108
                          ·
                            refine V_eqi _ 108 kk13 ?_
                            refine V_tableIn 4 B 120 dX12_keyCost_4 (by decide +kernel) (by decide +kernel) (off := 116) (by decide +kernel) (by decide) ?_
                            refine V_iconst 120 B (v := 1) dX12_keyCost_120 (by decide +kernel) ?_
                            exact V_iret 121 B dX12_keyCost_121 (mkW [] [] [] [] [] []) trivial rfl
                          ·
                            by_cases kk14 : j0 = 109
                            ·
                              refine V_eqi _ 109 kk14 ?_
                              refine V_tableIn 4 B 124 dX12_keyCost_4 (by decide +kernel) (by decide +kernel) (off := 120) (by decide +kernel) (by decide) ?_
                              refine V_iconst 124 B (v := 3) dX12_keyCost_124 (by decide +kernel) ?_
                              exact V_iret 125 B dX12_keyCost_125 (mkW [] [] [] [] [] []) trivial rfl
                            ·
                              by_cases kk15 : j0 = 110
                              ·
                                refine V_eqi _ 110 kk15 ?_
                                refine V_tableIn 4 B 124 dX12_keyCost_4 (by decide +kernel) (by decide +kernel) (off := 120) (by decide +kernel) (by decide) ?_
                                refine V_iconst 124 B (v := 3) dX12_keyCost_124 (by decide +kernel) ?_
                                exact V_iret 125 B dX12_keyCost_125 (mkW [] [] [] [] [] []) trivial rfl
                              ·
                                by_cases kk16 : j0 = 111
                                ·
                                  refine V_eqi _ 111 kk16 ?_
                                  refine V_tableIn 4 B 122 dX12_keyCost_4 (by decide +kernel) (by decide +kernel) (off := 118) (by decide +kernel) (by decide) ?_
                                  refine V_iconst 122 B (v := 2) dX12_keyCost_122 (by decide +kernel) ?_
                                  exact V_iret 123 B dX12_keyCost_123 (mkW [] [] [] [] [] []) trivial rfl
                                ·
                                  by_cases kk17 : j0 = 112
                                  ·
                                    refine V_eqi _ 112 kk17 ?_
                                    refine V_tableIn 4 B 122 dX12_keyCost_4 (by decide +kernel) (by decide +kernel) (off := 118) (by decide +kernel) (by decide) ?_
                                    refine V_iconst 122 B (v := 2) dX12_keyCost_122 (by decide +kernel) ?_
                                    exact V_iret 123 B dX12_keyCost_123 (mkW [] [] [] [] [] []) trivial rfl
                                  ·
                                    by_cases kk18 : j0 = 113
                                    ·
                                      refine V_eqi _ 113 kk18 ?_
                                      refine V_tableIn 4 B 122 dX12_keyCost_4 (by decide +kernel) (by decide +kernel) (off := 118) (by decide +kernel) (by decide) ?_
                                      refine V_iconst 122 B (v := 2) dX12_keyCost_122 (by decide +kernel) ?_
                                      exact V_iret 123 B dX12_keyCost_123 (mkW [] [] [] [] [] []) trivial rfl
                                    ·
                                      by_cases kk19 : j0 = 114
                                      ·
                                        refine V_eqi _ 114 kk19 ?_
                                        refine V_tableIn 4 B 122 dX12_keyCost_4 (by decide +kernel) (by decide +kernel) (off := 118) (by decide +kernel) (by decide) ?_
                                        refine V_iconst 122 B (v := 2) dX12_keyCost_122 (by decide +kernel) ?_
                                        exact V_iret 123 B dX12_keyCost_123 (mkW [] [] [] [] [] []) trivial rfl
                                      ·
                                        by_cases kk20 : j0 = 115
                                        ·
                                          refine V_eqi _ 115 kk20 ?_
                                          refine V_tableIn 4 B 120 dX12_keyCost_4 (by decide +kernel) (by decide +kernel) (off := 116) (by decide +kernel) (by decide) ?_
                                          refine V_iconst 120 B (v := 1) dX12_keyCost_120 (by decide +kernel) ?_
                                          exact V_iret 121 B dX12_keyCost_121 (mkW [] [] [] [] [] []) trivial rfl
                                        ·
                                          by_cases kk21 : j0 = 116
                                          ·
                                            refine V_eqi _ 116 kk21 ?_
                                            refine V_tableIn 4 B 122 dX12_keyCost_4 (by decide +kernel) (by decide +kernel) (off := 118) (by decide +kernel) (by decide) ?_
                                            refine V_iconst 122 B (v := 2) dX12_keyCost_122 (by decide +kernel) ?_
                                            exact V_iret 123 B dX12_keyCost_123 (mkW [] [] [] [] [] []) trivial rfl
                                          ·
                                            by_cases kk22 : j0 = 117
                                            ·
                                              refine V_eqi _ 117 kk22 ?_
                                              refine V_tableIn 4 B 122 dX12_keyCost_4 (by decide +kernel) (by decide +kernel) (off := 118) (by decide +kernel) (by decide) ?_
                                              refine V_iconst 122 B (v := 2) dX12_keyCost_122 (by decide +kernel) ?_
                                              exact V_iret 123 B dX12_keyCost_123 (mkW [] [] [] [] [] []) trivial rfl
                                            ·
                                              by_cases kk23 : j0 = 118
                                              ·
                                                refine V_eqi _ 118 kk23 ?_
                                                refine V_tableIn 4 B 124 dX12_keyCost_4 (by decide +kernel) (by decide +kernel) (off := 120) (by decide +kernel) (by decide) ?_
                                                refine V_iconst 124 B (v := 3) dX12_keyCost_124 (by decide +kernel) ?_
                                                exact V_iret 125 B dX12_keyCost_125 (mkW [] [] [] [] [] []) trivial rfl
                                              ·
                                                by_cases kk24 : j0 = 119
                                                ·
                                                  refine V_eqi _ 119 kk24 ?_
                                                  refine V_tableIn 4 B 122 dX12_keyCost_4 (by decide +kernel) (by decide +kernel) (off := 118) (by decide +kernel) (by decide) ?_
                                                  refine V_iconst 122 B (v := 2) dX12_keyCost_122 (by decide +kernel) ?_
                                                  exact V_iret 123 B dX12_keyCost_123 (mkW [] [] [] [] [] []) trivial rfl
                                                ·
                                                  by_cases kk25 : j0 = 120
                                                  ·
                                                    refine V_eqi _ 120 kk25 ?_
                                                    refine V_tableIn 4 B 124 dX12_keyCost_4 (by decide +kernel) (by decide +kernel) (off := 120) (by decide +kernel) (by decide) ?_
                                                    refine V_iconst 124 B (v := 3) dX12_keyCost_124 (by decide +kernel) ?_
                                                    exact V_iret 125 B dX12_keyCost_125 (mkW [] [] [] [] [] []) trivial rfl
                                                  ·
                                                    by_cases kk26 : j0 = 121
                                                    ·
                                                      refine V_eqi _ 121 kk26 ?_
                                                      refine V_tableIn 4 B 122 dX12_keyCost_4 (by decide +kernel) (by decide +kernel) (off := 118) (by decide +kernel) (by decide) ?_
                                                      refine V_iconst 122 B (v := 2) dX12_keyCost_122 (by decide +kernel) ?_
                                                      exact V_iret 123 B dX12_keyCost_123 (mkW [] [] [] [] [] []) trivial rfl
                                                    ·
                                                      refine V_tableOut 4 B 124 dX12_keyCost_4 (sw_out_97_121 kk2 kk3 kk4 kk5 kk6 kk7 kk8 kk9 kk10 kk11 kk12 kk13 kk14 kk15 kk16 kk17 kk18 kk19 kk20 kk21 kk22 kk23 kk24 kk25 kk26) (by decide) ?_
                                                      refine V_iconst 124 B (v := 3) dX12_keyCost_124 (by decide +kernel) ?_
                                                      exact V_iret 125 B dX12_keyCost_125 (mkW [] [] [] [] [] []) trivial rfl)
theorem dX12_strokeCost_0 : decode cX12_strokeCost 0 = .ok (.iload_n 0, 1) := by decide +kernel
theorem dX12_strokeCost_1 : decode cX12_strokeCost 1 = .ok (.bipush 32, 2) := by decide +kernel
theorem dX12_strokeCost_3 : decode cX12_strokeCost 3 = .ok (.irem, 1) := by decide +kernel
theorem dX12_strokeCost_4 : decode cX12_strokeCost 4 = .ok (.invokestatic 51, 3) := by decide +kernel
theorem glS_RX12_51 : GLS RX12 51 yX12_keyCost cX12_keyCost 1 (some .int) 1 := ⟨⟨(mT8 0 rfl rfl), (mT8 1 rfl rfl), (mT1 13 rfl rfl), (mT8 2 rfl rfl)⟩, by decide +kernel⟩
theorem dX12_strokeCost_7 : decode cX12_strokeCost 7 = .ok (.istore_n 1, 1) := by decide +kernel
theorem dX12_strokeCost_8 : decode cX12_strokeCost 8 = .ok (.iload_n 0, 1) := by decide +kernel
theorem dX12_strokeCost_9 : decode cX12_strokeCost 9 = .ok (.bipush 32, 2) := by decide +kernel
theorem dX12_strokeCost_11 : decode cX12_strokeCost 11 = .ok (.idiv, 1) := by decide +kernel
theorem dX12_strokeCost_12 : decode cX12_strokeCost 12 = .ok (.istore_n 2, 1) := by decide +kernel
theorem dX12_strokeCost_13 : decode cX12_strokeCost 13 = .ok (.iload_n 2, 1) := by decide +kernel
theorem dX12_strokeCost_14 : decode cX12_strokeCost 14 = .ok (.ifCond .le 18, 3) := by decide +kernel
theorem dX12_strokeCost_32 : decode cX12_strokeCost 32 = .ok (.iload_n 1, 1) := by decide +kernel
theorem dX12_strokeCost_33 : decode cX12_strokeCost 33 = .ok (.ireturn, 1) := by decide +kernel
theorem dX12_strokeCost_17 : decode cX12_strokeCost 17 = .ok (.iload_n 1, 1) := by decide +kernel
theorem dX12_strokeCost_18 : decode cX12_strokeCost 18 = .ok (.iconst 2, 1) := by decide +kernel
theorem dX12_strokeCost_19 : decode cX12_strokeCost 19 = .ok (.iload_n 2, 1) := by decide +kernel
theorem dX12_strokeCost_20 : decode cX12_strokeCost 20 = .ok (.iconst 2, 1) := by decide +kernel
theorem dX12_strokeCost_21 : decode cX12_strokeCost 21 = .ok (.irem, 1) := by decide +kernel
theorem dX12_strokeCost_22 : decode cX12_strokeCost 22 = .ok (.imul, 1) := by decide +kernel
theorem dX12_strokeCost_23 : decode cX12_strokeCost 23 = .ok (.iadd, 1) := by decide +kernel
theorem dX12_strokeCost_24 : decode cX12_strokeCost 24 = .ok (.istore_n 1, 1) := by decide +kernel
theorem dX12_strokeCost_25 : decode cX12_strokeCost 25 = .ok (.iload_n 2, 1) := by decide +kernel
theorem dX12_strokeCost_26 : decode cX12_strokeCost 26 = .ok (.iconst 2, 1) := by decide +kernel
theorem dX12_strokeCost_27 : decode cX12_strokeCost 27 = .ok (.idiv, 1) := by decide +kernel
theorem dX12_strokeCost_28 : decode cX12_strokeCost 28 = .ok (.istore_n 2, 1) := by decide +kernel
theorem dX12_strokeCost_29 : decode cX12_strokeCost 29 = .ok (.goto (-16), 3) := by decide +kernel
set_option maxRecDepth 100000 in
set_option maxHeartbeats 4000000 in
theorem rX12_strokeCost (l : Launch) (D : va_G) (Y : Nat → ClassId)  (s0 : Int32)  (sz : Nat) : Met l yX12_strokeCost (WSm yX12_strokeCost cX12_strokeCost 3 (some .int)) (mkR 1 0 0 20) (PreC D Y [.int s0] [] sz) (QI D (fun (r : Int32) (u : WU) => True) (fun (u : WU) => []) (va_A [] sz)) 0 0 (va_A [] sz) :=
  met_of (by decide +kernel) (Nat.le_of_ble_eq_true rfl) (fun p e s m args below meth c B hin hsz => by
    have B : VB p s m args meth c D Y (va_A [] sz) cX12_strokeCost 3 RX12 (some .int) := B
    refine V_iload_n 0 B dX12_strokeCost_0 0 rfl ?_
    refine V_bipush 1 B (v := 32) dX12_strokeCost_1 (by decide +kernel) ?_
    refine V_irem 3 B dX12_strokeCost_3 (by decide +kernel) rfl ?_
    refine V_nmi (fun j0 e1 => ?_)
    refine V_csi 4 B (st := []) (As := [.int j0]) (fun sz => rX12_keyCost l D Y j0 sz) glS_RX12_51 ⟨rfl, rfl⟩ ⟨(Nat.le_of_ble_eq_true rfl), (Nat.le_of_ble_eq_true rfl)⟩ ⟨(Nat.le_of_ble_eq_true rfl), (Nat.le_of_ble_eq_true rfl)⟩ [] rfl rfl (Nat.le_of_ble_eq_true rfl) rfl (fun _ _ _ => rfl) dX12_strokeCost_4 (fun j2 u3 w4 => ?_)
    refine V_istore_n 7 B (lv2 := [(1, .int j2), (0, .int s0)]) dX12_strokeCost_7 (by decide) rfl ?_
    refine V_iload_n 8 B dX12_strokeCost_8 1 rfl ?_
    refine V_bipush 9 B (v := 32) dX12_strokeCost_9 (by decide +kernel) ?_
    refine V_idiv 11 B dX12_strokeCost_11 (by decide +kernel) rfl ?_
    refine V_nmi (fun j5 e6 => ?_)
    refine V_istore_n 12 B (lv2 := [(2, .int j5), (1, .int j2), (0, .int s0)]) dX12_strokeCost_12 (by decide) rfl ?_
    refine V_wloop (α := WU) (fun a => ((a.2.1 0)).toInt.toNat) (fun a => True) (fun a => [(2, .int (a.2.1 0)), (1, .int (a.2.1 1)), (0, .int s0)]) (fun a => []) (mkW [] [j5, j2] [] [] [] []) trivial rfl rfl (fun a7 hI9 IH8 => ?_)
    refine V_lv [(2, .int (a7.2.1 0)), (1, .int (a7.2.1 1)), (0, .int s0)] [0, 1, 2] rfl ?_
    refine V_iload_n 13 B dX12_strokeCost_13 0 rfl ?_
    refine V_if_le 14 B 32 dX12_strokeCost_14 (by decide) (fun kk10 => ?_) (fun kk10 => ?_)
    ·
      have x11 := x_le kk10
      rw [show (0 : Int32).toInt = 0 by decide +kernel] at x11
      refine V_iload_n 32 B dX12_strokeCost_32 1 rfl ?_
      exact V_iret 33 B dX12_strokeCost_33 (mkW [] [] [] [] [] []) trivial rfl
    ·
      have x12 := x_nle kk10
      rw [show (0 : Int32).toInt = 0 by decide +kernel] at x12
      refine V_iload_n 17 B dX12_strokeCost_17 1 rfl ?_
      refine V_iconst 18 B (v := 2) dX12_strokeCost_18 (by decide +kernel) ?_
      refine V_iload_n 19 B dX12_strokeCost_19 0 rfl ?_
      refine V_iconst 20 B (v := 2) dX12_strokeCost_20 (by decide +kernel) ?_
      refine V_irem 21 B dX12_strokeCost_21 (by decide +kernel) rfl ?_
      refine V_nmi (fun j13 e14 => ?_)
      refine V_imul 22 B dX12_strokeCost_22 rfl ?_
      refine V_nmi (fun j15 e16 => ?_)
      refine V_iadd 23 B dX12_strokeCost_23 rfl ?_
      refine V_nmi (fun j17 e18 => ?_)
      refine V_istore_n 24 B (lv2 := [(1, .int j17), (2, .int (a7.2.1 0)), (0, .int s0)]) dX12_strokeCost_24 (by decide) rfl ?_
      refine V_iload_n 25 B dX12_strokeCost_25 1 rfl ?_
      refine V_iconst 26 B (v := 2) dX12_strokeCost_26 (by decide +kernel) ?_
      refine V_idiv 27 B dX12_strokeCost_27 (by decide +kernel) rfl ?_
      refine V_nmi (fun j19 e20 => ?_)
      have x21 : 0 ≤ j19.toInt ∧ j19.toInt < (a7.2.1 0).toInt := by rw [e20]; exact half_dec (by omega)
      refine V_istore_n 28 B (lv2 := [(2, .int j19), (1, .int j17), (0, .int s0)]) dX12_strokeCost_28 (by decide) rfl ?_
      refine V_goto 29 B 13 dX12_strokeCost_29 (by decide) ?_
      refine V_lv [(2, .int j19), (1, .int j17), (0, .int s0)] [0, 1, 2] rfl ?_
      exact IH8 (mkW [] [j19, j17] [] [] [] []) trivial (by show (j19).toInt.toNat < _; omega))
theorem dX12_costOf_0 : decode cX12_costOf 0 = .ok (.iconst 0, 1) := by decide +kernel
theorem dX12_costOf_1 : decode cX12_costOf 1 = .ok (.istore_n 2, 1) := by decide +kernel
theorem dX12_costOf_2 : decode cX12_costOf 2 = .ok (.iconst 1, 1) := by decide +kernel
theorem dX12_costOf_3 : decode cX12_costOf 3 = .ok (.istore_n 3, 1) := by decide +kernel
theorem dX12_costOf_4 : decode cX12_costOf 4 = .ok (.iload_n 3, 1) := by decide +kernel
theorem dX12_costOf_5 : decode cX12_costOf 5 = .ok (.aload_n 0, 1) := by decide +kernel
theorem dX12_costOf_6 : decode cX12_costOf 6 = .ok (.getfield 9, 3) := by decide +kernel
theorem dX12_costOf_9 : decode cX12_costOf 9 = .ok (.iload_n 1, 1) := by decide +kernel
theorem dX12_costOf_10 : decode cX12_costOf 10 = .ok (.iaload, 1) := by decide +kernel
theorem dX12_costOf_11 : decode cX12_costOf 11 = .ok (.if_icmp .gt 23, 3) := by decide +kernel
theorem dX12_costOf_34 : decode cX12_costOf 34 = .ok (.iload_n 2, 1) := by decide +kernel
theorem dX12_costOf_35 : decode cX12_costOf 35 = .ok (.ireturn, 1) := by decide +kernel
theorem dX12_costOf_14 : decode cX12_costOf 14 = .ok (.iload_n 2, 1) := by decide +kernel
theorem dX12_costOf_15 : decode cX12_costOf 15 = .ok (.aload_n 0, 1) := by decide +kernel
theorem dX12_costOf_16 : decode cX12_costOf 16 = .ok (.getfield 9, 3) := by decide +kernel
theorem dX12_costOf_19 : decode cX12_costOf 19 = .ok (.iload_n 1, 1) := by decide +kernel
theorem dX12_costOf_20 : decode cX12_costOf 20 = .ok (.iload_n 3, 1) := by decide +kernel
theorem dX12_costOf_21 : decode cX12_costOf 21 = .ok (.iadd, 1) := by decide +kernel
theorem dX12_costOf_22 : decode cX12_costOf 22 = .ok (.iaload, 1) := by decide +kernel
theorem dX12_costOf_23 : decode cX12_costOf 23 = .ok (.invokestatic 55, 3) := by decide +kernel
theorem glS_RX12_55 : GLS RX12 55 yX12_strokeCost cX12_strokeCost 3 (some .int) 1 := ⟨⟨(mT7 237 rfl rfl), (mT7 238 rfl rfl), (mT1 13 rfl rfl), (mT7 239 rfl rfl)⟩, by decide +kernel⟩
theorem dX12_costOf_26 : decode cX12_costOf 26 = .ok (.iadd, 1) := by decide +kernel
theorem dX12_costOf_27 : decode cX12_costOf 27 = .ok (.istore_n 2, 1) := by decide +kernel
theorem dX12_costOf_28 : decode cX12_costOf 28 = .ok (.iinc 3 1, 3) := by decide +kernel
theorem dX12_costOf_31 : decode cX12_costOf 31 = .ok (.goto (-27), 3) := by decide +kernel
set_option maxRecDepth 100000 in
set_option maxHeartbeats 4000000 in
theorem rX12_costOf (l : Launch) (D : va_G) (Y : Nat → ClassId) (h0 : Nat) (h1 : Nat) (h2 : Nat) (h3 : Nat) (h4 : Nat) (h5 : Nat) (h6 : Nat) (p2 : Int32) (k5 : Nat) (k6 : Nat) (p7 : Int32) (p8 : Int32) (p9 : Int32) (k10 : Nat) (p11 : Int32) (q12 : Int64) (k15 : Nat) (k16 : Nat) (f0 : Nat → Int32) (f1 : Nat → Int32) (f3 : Nat → Int32) (f4 : Nat → Int32) (f13 : Nat → Int32) (f14 : Nat → Int32) (HI : INV f0) (HL : k5 ≤ 1600) (HP : PLV f13) (s0 : Nat) (hs0 : SQ s0) (sz : Nat) : Met l yX12_costOf (WSm yX12_costOf cX12_costOf 4 (some .int)) (mkR 2 0 0 42) (PreC D Y [.ref h0, .int (nI s0)] [(h0, oC 13 [.ref h1, .ref h2, .int p2, .ref h3, .ref h4, .int (nI k5), .int (nI k6), .int p7, .int p8, .int p9, .int (nI k10), .int p11, .long q12, .ref h5, .ref h6, .int (nI k15), .int (nI k16)]), (h1, aI Y 3640 f0), (h2, aZ Y 2 f1), (h3, aZ Y 80 f3), (h4, aB Y 1600 f4), (h5, aI Y 200 f13), (h6, aI Y 800 f14)] sz) (QI D (fun (r : Int32) (u : WU) => True) (fun (u : WU) => [(h0, oC 13 [.ref h1, .ref h2, .int p2, .ref h3, .ref h4, .int (nI k5), .int (nI k6), .int p7, .int p8, .int p9, .int (nI k10), .int p11, .long q12, .ref h5, .ref h6, .int (nI k15), .int (nI k16)]), (h1, aI Y 3640 f0), (h2, aZ Y 2 f1), (h3, aZ Y 80 f3), (h4, aB Y 1600 f4), (h5, aI Y 200 f13), (h6, aI Y 800 f14)]) (va_A [(h0, oC 13 [.ref h1, .ref h2, .int p2, .ref h3, .ref h4, .int (nI k5), .int (nI k6), .int p7, .int p8, .int p9, .int (nI k10), .int p11, .long q12, .ref h5, .ref h6, .int (nI k15), .int (nI k16)]), (h1, aI Y 3640 f0), (h2, aZ Y 2 f1), (h3, aZ Y 80 f3), (h4, aB Y 1600 f4), (h5, aI Y 200 f13), (h6, aI Y 800 f14)] sz)) 0 0 (va_A [(h0, oC 13 [.ref h1, .ref h2, .int p2, .ref h3, .ref h4, .int (nI k5), .int (nI k6), .int p7, .int p8, .int p9, .int (nI k10), .int p11, .long q12, .ref h5, .ref h6, .int (nI k15), .int (nI k16)]), (h1, aI Y 3640 f0), (h2, aZ Y 2 f1), (h3, aZ Y 80 f3), (h4, aB Y 1600 f4), (h5, aI Y 200 f13), (h6, aI Y 800 f14)] sz) :=
  met_of (by decide +kernel) (Nat.le_of_ble_eq_true rfl) (fun p e s m args below meth c B hin hsz => by
    have B : VB p s m args meth c D Y (va_A [(h0, oC 13 [.ref h1, .ref h2, .int p2, .ref h3, .ref h4, .int (nI k5), .int (nI k6), .int p7, .int p8, .int p9, .int (nI k10), .int p11, .long q12, .ref h5, .ref h6, .int (nI k15), .int (nI k16)]), (h1, aI Y 3640 f0), (h2, aZ Y 2 f1), (h3, aZ Y 80 f3), (h4, aB Y 1600 f4), (h5, aI Y 200 f13), (h6, aI Y 800 f14)] sz) cX12_costOf 4 RX12 (some .int) := B
    have hq_s0 := hs0.1
    refine V_iconst 0 B (v := 0) dX12_costOf_0 (by decide +kernel) ?_
    refine V_istore_n 1 B (lv2 := [(2, .int 0), (0, .ref h0), (1, .int (nI s0))]) dX12_costOf_1 (by decide) rfl ?_
    refine V_iconst 2 B (v := 1) dX12_costOf_2 (by decide +kernel) ?_
    refine V_istore_n 3 B (lv2 := [(3, .int 1), (2, .int 0), (0, .ref h0), (1, .int (nI s0))]) dX12_costOf_3 (by decide) rfl ?_
    refine V_wloop (α := WU) (fun a => 100000 - (a.1 0)) (fun a => (a.1 0) ≤ 4000 ∧ 1 ≤ (a.1 0)) (fun a => [(3, .int (nI (a.1 0))), (2, .int (a.2.1 0)), (0, .ref h0), (1, .int (nI s0))]) (fun a => [(h0, oC 13 [.ref h1, .ref h2, .int p2, .ref h3, .ref h4, .int (nI k5), .int (nI k6), .int p7, .int p8, .int p9, .int (nI k10), .int p11, .long q12, .ref h5, .ref h6, .int (nI k15), .int (nI k16)]), (h1, aI Y 3640 f0), (h2, aZ Y 2 f1), (h3, aZ Y 80 f3), (h4, aB Y 1600 f4), (h5, aI Y 200 f13), (h6, aI Y 800 f14)]) (mkW [1] [0] [] [] [] []) ⟨(show 1 ≤ 4000 by omega), (show 1 ≤ 1 by omega)⟩ rfl rfl (fun a0 hI2 IH1 => ?_)
    refine V_lv [(3, .int (nI (a0.1 0))), (2, .int (a0.2.1 0)), (0, .ref h0), (1, .int (nI s0))] [0, 1, 2, 3] rfl ?_
    refine V_ws [(h0, oC 13 [.ref h1, .ref h2, .int p2, .ref h3, .ref h4, .int (nI k5), .int (nI k6), .int p7, .int p8, .int p9, .int (nI k10), .int p11, .long q12, .ref h5, .ref h6, .int (nI k15), .int (nI k16)]), (h1, aI Y 3640 f0), (h2, aZ Y 2 f1), (h3, aZ Y 80 f3), (h4, aB Y 1600 f4), (h5, aI Y 200 f13), (h6, aI Y 800 f14)] rfl ?_
    obtain ⟨x3, x4⟩ := hI2
    refine V_iload_n 4 B dX12_costOf_4 0 rfl ?_
    refine V_aload_n 5 B dX12_costOf_5 2 rfl ?_
    refine V_get 6 B gf_RX12_9 0 rfl rfl dX12_costOf_6 ?_
    refine V_iload_n 9 B dX12_costOf_9 3 rfl ?_
    have x5 : (gN f0 s0) ≤ 4 := gN_le HI (by omega) hs0.2.1
    refine V_iald 10 B (v := (nI (gN f0 s0))) 1 rfl (vp_in_nI (n := s0) (by omega) (by decide)) dX12_costOf_10 (by rw [nI_clamp (show s0 < 2 ^ 31 by omega)]; exact gN_eq HI (by omega) hs0.2.1) ?_
    refine V_icmp_gt 11 B 34 dX12_costOf_11 (by decide) (fun kk6 => ?_) (fun kk6 => ?_)
    ·
      have x7 := n_lt (a := (gN f0 s0)) (b := (a0.1 0)) kk6 (by omega) (by omega)
      refine V_iload_n 34 B dX12_costOf_34 1 rfl ?_
      exact V_iret 35 B dX12_costOf_35 (mkW [] [] [] [] [] []) trivial rfl
    ·
      have x8 := n_nlt (a := (gN f0 s0)) (b := (a0.1 0)) kk6 (by omega) (by omega)
      refine V_iload_n 14 B dX12_costOf_14 1 rfl ?_
      refine V_aload_n 15 B dX12_costOf_15 2 rfl ?_
      refine V_get 16 B gf_RX12_9 0 rfl rfl dX12_costOf_16 ?_
      refine V_iload_n 19 B dX12_costOf_19 3 rfl ?_
      refine V_iload_n 20 B dX12_costOf_20 0 rfl ?_
      refine V_iadd 21 B (v := (nI ((a0.1 0) + s0))) dX12_costOf_21 (nI_addE (a := s0) (b := (a0.1 0)) (by omega)) ?_
      refine V_iald 22 B (v := f0 ((a0.1 0) + s0)) 1 rfl (vp_in_nI (n := (a0.1 0) + s0) (by omega) (by decide)) dX12_costOf_22 (by rw [nI_clamp (show (a0.1 0) + s0 < 2 ^ 31 by omega)]) ?_
      refine V_nmi (fun j9 e10 => ?_)
      refine V_csi 23 B (st := [.int (a0.2.1 0)]) (As := [.int j9]) (fun sz => rX12_strokeCost l D Y j9 sz) glS_RX12_55 ⟨rfl, rfl⟩ ⟨(Nat.le_of_ble_eq_true rfl), (Nat.le_of_ble_eq_true rfl)⟩ ⟨(Nat.le_of_ble_eq_true rfl), (Nat.le_of_ble_eq_true rfl)⟩ [] rfl rfl (Nat.le_of_ble_eq_true rfl) rfl (fun _ _ _ => rfl) dX12_costOf_23 (fun j11 u12 w13 => ?_)
      refine V_ws [(h0, oC 13 [.ref h1, .ref h2, .int p2, .ref h3, .ref h4, .int (nI k5), .int (nI k6), .int p7, .int p8, .int p9, .int (nI k10), .int p11, .long q12, .ref h5, .ref h6, .int (nI k15), .int (nI k16)]), (h1, aI Y 3640 f0), (h2, aZ Y 2 f1), (h3, aZ Y 80 f3), (h4, aB Y 1600 f4), (h5, aI Y 200 f13), (h6, aI Y 800 f14)] rfl ?_
      refine V_iadd 26 B dX12_costOf_26 rfl ?_
      refine V_nmi (fun j14 e15 => ?_)
      refine V_istore_n 27 B (lv2 := [(2, .int j14), (3, .int (nI (a0.1 0))), (0, .ref h0), (1, .int (nI s0))]) dX12_costOf_27 (by decide) rfl ?_
      refine V_iinc 28 B (v := (nI (1 + (a0.1 0)))) (lv2 := [(3, .int (nI (1 + (a0.1 0)))), (2, .int j14), (0, .ref h0), (1, .int (nI s0))]) dX12_costOf_28 1 rfl (nI_addE (a := (a0.1 0)) (b := 1) (by omega)) (by decide) rfl ?_
      refine V_goto 31 B 4 dX12_costOf_31 (by decide) ?_
      refine V_lv [(3, .int (nI (1 + (a0.1 0)))), (2, .int j14), (0, .ref h0), (1, .int (nI s0))] [0, 1, 2, 3] rfl ?_
      exact IH1 (mkW [1 + (a0.1 0)] [j14] [] [] [] []) ⟨(show 1 + (a0.1 0) ≤ 4000 by omega), (show 1 ≤ 1 + (a0.1 0) by omega)⟩ (by show 100000 - (1 + (a0.1 0)) < 100000 - (a0.1 0); omega))
theorem dX12_copySequence_0 : decode cX12_copySequence 0 = .ok (.iconst 0, 1) := by decide +kernel
theorem dX12_copySequence_1 : decode cX12_copySequence 1 = .ok (.istore_n 3, 1) := by decide +kernel
theorem dX12_copySequence_2 : decode cX12_copySequence 2 = .ok (.iload_n 3, 1) := by decide +kernel
theorem dX12_copySequence_3 : decode cX12_copySequence 3 = .ok (.iconst 5, 1) := by decide +kernel
theorem dX12_copySequence_4 : decode cX12_copySequence 4 = .ok (.if_icmp .ge 39, 3) := by decide +kernel
theorem dX12_copySequence_43 : decode cX12_copySequence 43 = .ok (.return_, 1) := by decide +kernel
theorem dX12_copySequence_7 : decode cX12_copySequence 7 = .ok (.aload_n 0, 1) := by decide +kernel
theorem dX12_copySequence_8 : decode cX12_copySequence 8 = .ok (.getfield 9, 3) := by decide +kernel
theorem dX12_copySequence_11 : decode cX12_copySequence 11 = .ok (.iload_n 2, 1) := by decide +kernel
theorem dX12_copySequence_12 : decode cX12_copySequence 12 = .ok (.iload_n 3, 1) := by decide +kernel
theorem dX12_copySequence_13 : decode cX12_copySequence 13 = .ok (.iadd, 1) := by decide +kernel
theorem dX12_copySequence_14 : decode cX12_copySequence 14 = .ok (.iload_n 3, 1) := by decide +kernel
theorem dX12_copySequence_15 : decode cX12_copySequence 15 = .ok (.aload_n 0, 1) := by decide +kernel
theorem dX12_copySequence_16 : decode cX12_copySequence 16 = .ok (.getfield 9, 3) := by decide +kernel
theorem dX12_copySequence_19 : decode cX12_copySequence 19 = .ok (.iload_n 1, 1) := by decide +kernel
theorem dX12_copySequence_20 : decode cX12_copySequence 20 = .ok (.iaload, 1) := by decide +kernel
theorem dX12_copySequence_21 : decode cX12_copySequence 21 = .ok (.if_icmp .gt 14, 3) := by decide +kernel
theorem dX12_copySequence_35 : decode cX12_copySequence 35 = .ok (.iconst 0, 1) := by decide +kernel
theorem dX12_copySequence_36 : decode cX12_copySequence 36 = .ok (.iastore, 1) := by decide +kernel
theorem dX12_copySequence_37 : decode cX12_copySequence 37 = .ok (.iinc 3 1, 3) := by decide +kernel
theorem dX12_copySequence_40 : decode cX12_copySequence 40 = .ok (.goto (-38), 3) := by decide +kernel
theorem dX12_copySequence_24 : decode cX12_copySequence 24 = .ok (.aload_n 0, 1) := by decide +kernel
theorem dX12_copySequence_25 : decode cX12_copySequence 25 = .ok (.getfield 9, 3) := by decide +kernel
theorem dX12_copySequence_28 : decode cX12_copySequence 28 = .ok (.iload_n 1, 1) := by decide +kernel
theorem dX12_copySequence_29 : decode cX12_copySequence 29 = .ok (.iload_n 3, 1) := by decide +kernel
theorem dX12_copySequence_30 : decode cX12_copySequence 30 = .ok (.iadd, 1) := by decide +kernel
theorem dX12_copySequence_31 : decode cX12_copySequence 31 = .ok (.iaload, 1) := by decide +kernel
theorem dX12_copySequence_32 : decode cX12_copySequence 32 = .ok (.goto 4, 3) := by decide +kernel
set_option maxRecDepth 100000 in
set_option maxHeartbeats 4000000 in
theorem rX12_copySequence (l : Launch) (D : va_G) (Y : Nat → ClassId) (h0 : Nat) (h1 : Nat) (h2 : Nat) (h3 : Nat) (h4 : Nat) (h5 : Nat) (h6 : Nat) (p2 : Int32) (k5 : Nat) (k6 : Nat) (p7 : Int32) (p8 : Int32) (p9 : Int32) (k10 : Nat) (p11 : Int32) (q12 : Int64) (k15 : Nat) (k16 : Nat) (f0 : Nat → Int32) (f1 : Nat → Int32) (f3 : Nat → Int32) (f4 : Nat → Int32) (f13 : Nat → Int32) (f14 : Nat → Int32) (HI : INV f0) (HL : k5 ≤ 1600) (HP : PLV f13) (s0 : Nat) (s1 : Nat) (hs0 : SQ s0) (hs1 : SQ s1) (sz : Nat) : Met l yX12_copySequence (WSm yX12_copySequence cX12_copySequence 4 none) (mkR 0 0 0 0) (PreC D Y [.ref h0, .int (nI s0), .int (nI s1)] [(h0, oC 13 [.ref h1, .ref h2, .int p2, .ref h3, .ref h4, .int (nI k5), .int (nI k6), .int p7, .int p8, .int p9, .int (nI k10), .int p11, .long q12, .ref h5, .ref h6, .int (nI k15), .int (nI k16)]), (h1, aI Y 3640 f0), (h2, aZ Y 2 f1), (h3, aZ Y 80 f3), (h4, aB Y 1600 f4), (h5, aI Y 200 f13), (h6, aI Y 800 f14)] sz) (QV D (fun (u : WU) => INV (u.2.2.2.1 0) ∧ (∀ k, (k < s1 ∨ s1 + 5 ≤ k) → (u.2.2.2.1 0) k = f0 k)) (fun (u : WU) => [(h0, oC 13 [.ref h1, .ref h2, .int p2, .ref h3, .ref h4, .int (nI k5), .int (nI k6), .int p7, .int p8, .int p9, .int (nI k10), .int p11, .long q12, .ref h5, .ref h6, .int (nI k15), .int (nI k16)]), (h1, aI Y 3640 (u.2.2.2.1 0)), (h2, aZ Y 2 f1), (h3, aZ Y 80 f3), (h4, aB Y 1600 f4), (h5, aI Y 200 f13), (h6, aI Y 800 f14)]) (va_A [(h0, oC 13 [.ref h1, .ref h2, .int p2, .ref h3, .ref h4, .int (nI k5), .int (nI k6), .int p7, .int p8, .int p9, .int (nI k10), .int p11, .long q12, .ref h5, .ref h6, .int (nI k15), .int (nI k16)]), (h1, aI Y 3640 f0), (h2, aZ Y 2 f1), (h3, aZ Y 80 f3), (h4, aB Y 1600 f4), (h5, aI Y 200 f13), (h6, aI Y 800 f14)] sz)) 0 0 (va_A [(h0, oC 13 [.ref h1, .ref h2, .int p2, .ref h3, .ref h4, .int (nI k5), .int (nI k6), .int p7, .int p8, .int p9, .int (nI k10), .int p11, .long q12, .ref h5, .ref h6, .int (nI k15), .int (nI k16)]), (h1, aI Y 3640 f0), (h2, aZ Y 2 f1), (h3, aZ Y 80 f3), (h4, aB Y 1600 f4), (h5, aI Y 200 f13), (h6, aI Y 800 f14)] sz) :=
  met_of (by decide +kernel) (Nat.le_of_ble_eq_true rfl) (fun p e s m args below meth c B hin hsz => by
    have B : VB p s m args meth c D Y (va_A [(h0, oC 13 [.ref h1, .ref h2, .int p2, .ref h3, .ref h4, .int (nI k5), .int (nI k6), .int p7, .int p8, .int p9, .int (nI k10), .int p11, .long q12, .ref h5, .ref h6, .int (nI k15), .int (nI k16)]), (h1, aI Y 3640 f0), (h2, aZ Y 2 f1), (h3, aZ Y 80 f3), (h4, aB Y 1600 f4), (h5, aI Y 200 f13), (h6, aI Y 800 f14)] sz) cX12_copySequence 4 RX12 none := B
    have hq_s0 := hs0.1
    have hq_s1 := hs1.1
    refine V_iconst 0 B (v := 0) dX12_copySequence_0 (by decide +kernel) ?_
    refine V_istore_n 1 B (lv2 := [(3, .int 0), (0, .ref h0), (1, .int (nI s0)), (2, .int (nI s1))]) dX12_copySequence_1 (by decide) rfl ?_
    refine V_wloop (α := WU) (fun a => 100000 - (a.1 0)) (fun a => INV (a.2.2.2.1 0) ∧ (a.1 0) ≤ 5 ∧ (∀ k, (k < s1 ∨ s1 + 5 ≤ k) → (a.2.2.2.1 0) k = f0 k)) (fun a => [(3, .int (nI (a.1 0))), (0, .ref h0), (1, .int (nI s0)), (2, .int (nI s1))]) (fun a => [(h0, oC 13 [.ref h1, .ref h2, .int p2, .ref h3, .ref h4, .int (nI k5), .int (nI k6), .int p7, .int p8, .int p9, .int (nI k10), .int p11, .long q12, .ref h5, .ref h6, .int (nI k15), .int (nI k16)]), (h1, aI Y 3640 (a.2.2.2.1 0)), (h2, aZ Y 2 f1), (h3, aZ Y 80 f3), (h4, aB Y 1600 f4), (h5, aI Y 200 f13), (h6, aI Y 800 f14)]) (mkW [0] [] [] [f0] [] []) ⟨HI, (show 0 ≤ 5 by omega), (fun _ _ => rfl)⟩ rfl rfl (fun a0 hI2 IH1 => ?_)
    refine V_lv [(3, .int (nI (a0.1 0))), (0, .ref h0), (1, .int (nI s0)), (2, .int (nI s1))] [0, 1, 2, 3] rfl ?_
    refine V_ws [(h0, oC 13 [.ref h1, .ref h2, .int p2, .ref h3, .ref h4, .int (nI k5), .int (nI k6), .int p7, .int p8, .int p9, .int (nI k10), .int p11, .long q12, .ref h5, .ref h6, .int (nI k15), .int (nI k16)]), (h1, aI Y 3640 (a0.2.2.2.1 0)), (h2, aZ Y 2 f1), (h3, aZ Y 80 f3), (h4, aB Y 1600 f4), (h5, aI Y 200 f13), (h6, aI Y 800 f14)] rfl ?_
    obtain ⟨x3, x4, x5⟩ := hI2
    refine V_iload_n 2 B dX12_copySequence_2 0 rfl ?_
    refine V_iconst 3 B (v := 5) dX12_copySequence_3 (by decide +kernel) ?_
    refine V_icmp_ge 4 B 43 dX12_copySequence_4 (by decide) (fun kk6 => ?_) (fun kk6 => ?_)
    ·
      have x7 := n_le (a := 5) (b := (a0.1 0)) kk6 (by omega) (by omega)
      exact V_vret 43 B dX12_copySequence_43 (mkW [] [] [] [(a0.2.2.2.1 0)] [] []) ⟨x3, x5⟩ rfl
    ·
      have x8 := n_nle (a := 5) (b := (a0.1 0)) kk6 (by omega) (by omega)
      by_cases x9 : (a0.1 0) = 0
      ·
        refine V_lv [(3, .int 0), (0, .ref h0), (1, .int (nI s0)), (2, .int (nI s1))] [0, 1, 2, 3] (by rw [x9]; rfl) ?_
        refine V_aload_n 7 B dX12_copySequence_7 1 rfl ?_
        refine V_get 8 B gf_RX12_9 0 rfl rfl dX12_copySequence_8 ?_
        refine V_iload_n 11 B dX12_copySequence_11 3 rfl ?_
        refine V_iload_n 12 B dX12_copySequence_12 0 rfl ?_
        refine V_iadd 13 B (v := (nI s1)) dX12_copySequence_13 (nI_addE (a := s1) (b := 0) (by omega)) ?_
        refine V_iload_n 14 B dX12_copySequence_14 0 rfl ?_
        refine V_aload_n 15 B dX12_copySequence_15 1 rfl ?_
        refine V_get 16 B gf_RX12_9 0 rfl rfl dX12_copySequence_16 ?_
        refine V_iload_n 19 B dX12_copySequence_19 2 rfl ?_
        have x10 : (gN (a0.2.2.2.1 0) s0) ≤ 4 := gN_le x3 (by omega) hs0.2.1
        refine V_iald 20 B (v := (nI ((gN (a0.2.2.2.1 0) s0)))) 1 rfl (vp_in_nI (n := s0) (by omega) (by decide)) dX12_copySequence_20 (by rw [nI_clamp (show s0 < 2 ^ 31 by omega)]; exact gN_eq x3 (by omega) hs0.2.1) ?_
        refine V_icmp_gt 21 B 35 dX12_copySequence_21 (by decide) (fun kk11 => ?_) (fun kk11 => ?_)
        ·
          have x12 := n_lt (a := (gN (a0.2.2.2.1 0) s0)) (b := 0) kk11 (by omega) (by omega)
          refine V_iconst 35 B (v := 0) dX12_copySequence_35 (by decide +kernel) ?_
          have hv13 : INV (upd (a0.2.2.2.1 0) s1 0) := INV_nat (v := 0) x3 hs1.2.1 (by omega) (by decide)
          refine V_iast 36 B 1 rfl (vp_in_nI (n := s1) (by omega) (by decide)) dX12_copySequence_36 [(h0, oC 13 [.ref h1, .ref h2, .int p2, .ref h3, .ref h4, .int (nI k5), .int (nI k6), .int p7, .int p8, .int p9, .int (nI k10), .int p11, .long q12, .ref h5, .ref h6, .int (nI k15), .int (nI k16)]), (h1, aI Y 3640 (upd (a0.2.2.2.1 0) s1 0)), (h2, aZ Y 2 f1), (h3, aZ Y 80 f3), (h4, aB Y 1600 f4), (h5, aI Y 200 f13), (h6, aI Y 800 f14)] (by rw [nI_clamp (show s1 < 2 ^ 31 by omega)]; rfl) ?_
          refine V_iinc 37 B (v := 1) (lv2 := [(3, .int 1), (0, .ref h0), (1, .int (nI s0)), (2, .int (nI s1))]) dX12_copySequence_37 0 rfl (by decide +kernel) (by decide) rfl ?_
          refine V_goto 40 B 2 dX12_copySequence_40 (by decide) ?_
          refine V_lv [(3, .int 1), (0, .ref h0), (1, .int (nI s0)), (2, .int (nI s1))] [0, 1, 2, 3] rfl ?_
          exact IH1 (mkW [1] [] [] [(upd (a0.2.2.2.1 0) s1 0)] [] []) ⟨hv13, (show 1 ≤ 5 by omega), (fr_upd x5 (by omega) (by omega))⟩ (by show 100000 - (1) < 100000 - (a0.1 0); omega)
        ·
          have x14 := n_nlt (a := (gN (a0.2.2.2.1 0) s0)) (b := 0) kk11 (by omega) (by omega)
          refine V_aload_n 24 B dX12_copySequence_24 1 rfl ?_
          refine V_get 25 B gf_RX12_9 0 rfl rfl dX12_copySequence_25 ?_
          refine V_iload_n 28 B dX12_copySequence_28 2 rfl ?_
          refine V_iload_n 29 B dX12_copySequence_29 0 rfl ?_
          refine V_iadd 30 B (v := (nI s0)) dX12_copySequence_30 (nI_addE (a := s0) (b := 0) (by omega)) ?_
          have x15 : (gN (a0.2.2.2.1 0) s0) ≤ 4 := gN_le x3 (by omega) hs0.2.1
          refine V_iald 31 B (v := (nI ((gN (a0.2.2.2.1 0) s0)))) 1 rfl (vp_in_nI (n := s0) (by omega) (by decide)) dX12_copySequence_31 (by rw [nI_clamp (show s0 < 2 ^ 31 by omega)]; exact gN_eq x3 (by omega) hs0.2.1) ?_
          refine V_goto 32 B 36 dX12_copySequence_32 (by decide) ?_
          have hv16 : INV (upd (a0.2.2.2.1 0) s1 (nI ((gN (a0.2.2.2.1 0) s0)))) := INV_nat (v := (gN (a0.2.2.2.1 0) s0)) x3 hs1.2.1 (by omega) (by decide)
          refine V_iast 36 B 1 rfl (vp_in_nI (n := s1) (by omega) (by decide)) dX12_copySequence_36 [(h0, oC 13 [.ref h1, .ref h2, .int p2, .ref h3, .ref h4, .int (nI k5), .int (nI k6), .int p7, .int p8, .int p9, .int (nI k10), .int p11, .long q12, .ref h5, .ref h6, .int (nI k15), .int (nI k16)]), (h1, aI Y 3640 (upd (a0.2.2.2.1 0) s1 (nI ((gN (a0.2.2.2.1 0) s0))))), (h2, aZ Y 2 f1), (h3, aZ Y 80 f3), (h4, aB Y 1600 f4), (h5, aI Y 200 f13), (h6, aI Y 800 f14)] (by rw [nI_clamp (show s1 < 2 ^ 31 by omega)]; rfl) ?_
          refine V_iinc 37 B (v := 1) (lv2 := [(3, .int 1), (0, .ref h0), (1, .int (nI s0)), (2, .int (nI s1))]) dX12_copySequence_37 0 rfl (by decide +kernel) (by decide) rfl ?_
          refine V_goto 40 B 2 dX12_copySequence_40 (by decide) ?_
          refine V_lv [(3, .int 1), (0, .ref h0), (1, .int (nI s0)), (2, .int (nI s1))] [0, 1, 2, 3] rfl ?_
          exact IH1 (mkW [1] [] [] [(upd (a0.2.2.2.1 0) s1 (nI ((gN (a0.2.2.2.1 0) s0))))] [] []) ⟨hv16, (show 1 ≤ 5 by omega), (fr_upd x5 (by omega) (by omega))⟩ (by show 100000 - (1) < 100000 - (a0.1 0); omega)
      ·
        refine V_aload_n 7 B dX12_copySequence_7 1 rfl ?_
        refine V_get 8 B gf_RX12_9 0 rfl rfl dX12_copySequence_8 ?_
        refine V_iload_n 11 B dX12_copySequence_11 3 rfl ?_
        refine V_iload_n 12 B dX12_copySequence_12 0 rfl ?_
        refine V_iadd 13 B (v := (nI ((a0.1 0) + s1))) dX12_copySequence_13 (nI_addE (a := s1) (b := (a0.1 0)) (by omega)) ?_
        refine V_iload_n 14 B dX12_copySequence_14 0 rfl ?_
        refine V_aload_n 15 B dX12_copySequence_15 1 rfl ?_
        refine V_get 16 B gf_RX12_9 0 rfl rfl dX12_copySequence_16 ?_
        refine V_iload_n 19 B dX12_copySequence_19 2 rfl ?_
        have x17 : (gN (a0.2.2.2.1 0) s0) ≤ 4 := gN_le x3 (by omega) hs0.2.1
        refine V_iald 20 B (v := (nI ((gN (a0.2.2.2.1 0) s0)))) 1 rfl (vp_in_nI (n := s0) (by omega) (by decide)) dX12_copySequence_20 (by rw [nI_clamp (show s0 < 2 ^ 31 by omega)]; exact gN_eq x3 (by omega) hs0.2.1) ?_
        refine V_icmp_gt 21 B 35 dX12_copySequence_21 (by decide) (fun kk18 => ?_) (fun kk18 => ?_)
        ·
          have x19 := n_lt (a := (gN (a0.2.2.2.1 0) s0)) (b := (a0.1 0)) kk18 (by omega) (by omega)
          refine V_iconst 35 B (v := 0) dX12_copySequence_35 (by decide +kernel) ?_
          have hv20 : INV (upd (a0.2.2.2.1 0) ((a0.1 0) + s1) 0) := INV_free x3 (SQ.fr hs1 (j := (a0.1 0) + s1) (by omega) (by omega))
          refine V_iast 36 B 1 rfl (vp_in_nI (n := (a0.1 0) + s1) (by omega) (by decide)) dX12_copySequence_36 [(h0, oC 13 [.ref h1, .ref h2, .int p2, .ref h3, .ref h4, .int (nI k5), .int (nI k6), .int p7, .int p8, .int p9, .int (nI k10), .int p11, .long q12, .ref h5, .ref h6, .int (nI k15), .int (nI k16)]), (h1, aI Y 3640 (upd (a0.2.2.2.1 0) ((a0.1 0) + s1) 0)), (h2, aZ Y 2 f1), (h3, aZ Y 80 f3), (h4, aB Y 1600 f4), (h5, aI Y 200 f13), (h6, aI Y 800 f14)] (by rw [nI_clamp (show (a0.1 0) + s1 < 2 ^ 31 by omega)]; rfl) ?_
          refine V_iinc 37 B (v := (nI (1 + (a0.1 0)))) (lv2 := [(3, .int (nI (1 + (a0.1 0)))), (0, .ref h0), (1, .int (nI s0)), (2, .int (nI s1))]) dX12_copySequence_37 0 rfl (nI_addE (a := (a0.1 0)) (b := 1) (by omega)) (by decide) rfl ?_
          refine V_goto 40 B 2 dX12_copySequence_40 (by decide) ?_
          refine V_lv [(3, .int (nI (1 + (a0.1 0)))), (0, .ref h0), (1, .int (nI s0)), (2, .int (nI s1))] [0, 1, 2, 3] rfl ?_
          exact IH1 (mkW [1 + (a0.1 0)] [] [] [(upd (a0.2.2.2.1 0) ((a0.1 0) + s1) 0)] [] []) ⟨hv20, (show 1 + (a0.1 0) ≤ 5 by omega), (fr_upd x5 (by omega) (by omega))⟩ (by show 100000 - (1 + (a0.1 0)) < 100000 - (a0.1 0); omega)
        ·
          have x21 := n_nlt (a := (gN (a0.2.2.2.1 0) s0)) (b := (a0.1 0)) kk18 (by omega) (by omega)
          refine V_aload_n 24 B dX12_copySequence_24 1 rfl ?_
          refine V_get 25 B gf_RX12_9 0 rfl rfl dX12_copySequence_25 ?_
          refine V_iload_n 28 B dX12_copySequence_28 2 rfl ?_
          refine V_iload_n 29 B dX12_copySequence_29 0 rfl ?_
          refine V_iadd 30 B (v := (nI ((a0.1 0) + s0))) dX12_copySequence_30 (nI_addE (a := s0) (b := (a0.1 0)) (by omega)) ?_
          refine V_iald 31 B (v := (a0.2.2.2.1 0) ((a0.1 0) + s0)) 1 rfl (vp_in_nI (n := (a0.1 0) + s0) (by omega) (by decide)) dX12_copySequence_31 (by rw [nI_clamp (show (a0.1 0) + s0 < 2 ^ 31 by omega)]) ?_
          refine V_nmi (fun j22 e23 => ?_)
          refine V_goto 32 B 36 dX12_copySequence_32 (by decide) ?_
          have hv24 : INV (upd (a0.2.2.2.1 0) ((a0.1 0) + s1) j22) := INV_free x3 (SQ.fr hs1 (j := (a0.1 0) + s1) (by omega) (by omega))
          refine V_iast 36 B 1 rfl (vp_in_nI (n := (a0.1 0) + s1) (by omega) (by decide)) dX12_copySequence_36 [(h0, oC 13 [.ref h1, .ref h2, .int p2, .ref h3, .ref h4, .int (nI k5), .int (nI k6), .int p7, .int p8, .int p9, .int (nI k10), .int p11, .long q12, .ref h5, .ref h6, .int (nI k15), .int (nI k16)]), (h1, aI Y 3640 (upd (a0.2.2.2.1 0) ((a0.1 0) + s1) j22)), (h2, aZ Y 2 f1), (h3, aZ Y 80 f3), (h4, aB Y 1600 f4), (h5, aI Y 200 f13), (h6, aI Y 800 f14)] (by rw [nI_clamp (show (a0.1 0) + s1 < 2 ^ 31 by omega)]; rfl) ?_
          refine V_iinc 37 B (v := (nI (1 + (a0.1 0)))) (lv2 := [(3, .int (nI (1 + (a0.1 0)))), (0, .ref h0), (1, .int (nI s0)), (2, .int (nI s1))]) dX12_copySequence_37 0 rfl (nI_addE (a := (a0.1 0)) (b := 1) (by omega)) (by decide) rfl ?_
          refine V_goto 40 B 2 dX12_copySequence_40 (by decide) ?_
          refine V_lv [(3, .int (nI (1 + (a0.1 0)))), (0, .ref h0), (1, .int (nI s0)), (2, .int (nI s1))] [0, 1, 2, 3] rfl ?_
          exact IH1 (mkW [1 + (a0.1 0)] [] [] [(upd (a0.2.2.2.1 0) ((a0.1 0) + s1) j22)] [] []) ⟨hv24, (show 1 + (a0.1 0) ≤ 5 by omega), (fr_upd x5 (by omega) (by omega))⟩ (by show 100000 - (1 + (a0.1 0)) < 100000 - (a0.1 0); omega))
theorem dX12_commonOf_0 : decode cX12_commonOf 0 = .ok (.iconst 0, 1) := by decide +kernel
theorem dX12_commonOf_1 : decode cX12_commonOf 1 = .ok (.istore_n 3, 1) := by decide +kernel
theorem dX12_commonOf_2 : decode cX12_commonOf 2 = .ok (.iload_n 3, 1) := by decide +kernel
theorem dX12_commonOf_3 : decode cX12_commonOf 3 = .ok (.aload_n 0, 1) := by decide +kernel
theorem dX12_commonOf_4 : decode cX12_commonOf 4 = .ok (.getfield 9, 3) := by decide +kernel
theorem dX12_commonOf_7 : decode cX12_commonOf 7 = .ok (.iload_n 1, 1) := by decide +kernel
theorem dX12_commonOf_8 : decode cX12_commonOf 8 = .ok (.iaload, 1) := by decide +kernel
theorem dX12_commonOf_9 : decode cX12_commonOf 9 = .ok (.aload_n 0, 1) := by decide +kernel
theorem dX12_commonOf_10 : decode cX12_commonOf 10 = .ok (.getfield 9, 3) := by decide +kernel
theorem dX12_commonOf_13 : decode cX12_commonOf 13 = .ok (.iload_n 2, 1) := by decide +kernel
theorem dX12_commonOf_14 : decode cX12_commonOf 14 = .ok (.iaload, 1) := by decide +kernel
theorem dX12_commonOf_15 : decode cX12_commonOf 15 = .ok (.invokestatic 58, 3) := by decide +kernel
theorem glS_RX12_58 : GLS RX12 58 yX12_min cX12_min 2 (some .int) 2 := ⟨⟨(mT8 86 rfl rfl), (mT8 87 rfl rfl), (mT1 13 rfl rfl), (mT8 88 rfl rfl)⟩, by decide +kernel⟩
theorem dX12_commonOf_18 : decode cX12_commonOf 18 = .ok (.if_icmp .ge 32, 3) := by decide +kernel
theorem dX12_commonOf_50 : decode cX12_commonOf 50 = .ok (.iload_n 3, 1) := by decide +kernel
theorem dX12_commonOf_51 : decode cX12_commonOf 51 = .ok (.ireturn, 1) := by decide +kernel
theorem dX12_commonOf_21 : decode cX12_commonOf 21 = .ok (.aload_n 0, 1) := by decide +kernel
theorem dX12_commonOf_22 : decode cX12_commonOf 22 = .ok (.getfield 9, 3) := by decide +kernel
theorem dX12_commonOf_25 : decode cX12_commonOf 25 = .ok (.iload_n 1, 1) := by decide +kernel
theorem dX12_commonOf_26 : decode cX12_commonOf 26 = .ok (.iload_n 3, 1) := by decide +kernel
theorem dX12_commonOf_27 : decode cX12_commonOf 27 = .ok (.iadd, 1) := by decide +kernel
theorem dX12_commonOf_28 : decode cX12_commonOf 28 = .ok (.iconst 1, 1) := by decide +kernel
theorem dX12_commonOf_29 : decode cX12_commonOf 29 = .ok (.iadd, 1) := by decide +kernel
theorem dX12_commonOf_30 : decode cX12_commonOf 30 = .ok (.iaload, 1) := by decide +kernel
theorem dX12_commonOf_31 : decode cX12_commonOf 31 = .ok (.aload_n 0, 1) := by decide +kernel
theorem dX12_commonOf_32 : decode cX12_commonOf 32 = .ok (.getfield 9, 3) := by decide +kernel
theorem dX12_commonOf_35 : decode cX12_commonOf 35 = .ok (.iload_n 2, 1) := by decide +kernel
theorem dX12_commonOf_36 : decode cX12_commonOf 36 = .ok (.iload_n 3, 1) := by decide +kernel
theorem dX12_commonOf_37 : decode cX12_commonOf 37 = .ok (.iadd, 1) := by decide +kernel
theorem dX12_commonOf_38 : decode cX12_commonOf 38 = .ok (.iconst 1, 1) := by decide +kernel
theorem dX12_commonOf_39 : decode cX12_commonOf 39 = .ok (.iadd, 1) := by decide +kernel
theorem dX12_commonOf_40 : decode cX12_commonOf 40 = .ok (.iaload, 1) := by decide +kernel
theorem dX12_commonOf_41 : decode cX12_commonOf 41 = .ok (.if_icmp .ne 9, 3) := by decide +kernel
theorem dX12_commonOf_44 : decode cX12_commonOf 44 = .ok (.iinc 3 1, 3) := by decide +kernel
theorem dX12_commonOf_47 : decode cX12_commonOf 47 = .ok (.goto (-45), 3) := by decide +kernel
set_option maxRecDepth 100000 in
set_option maxHeartbeats 4000000 in
theorem rX12_commonOf (l : Launch) (D : va_G) (Y : Nat → ClassId) (h0 : Nat) (h1 : Nat) (h2 : Nat) (h3 : Nat) (h4 : Nat) (h5 : Nat) (h6 : Nat) (p2 : Int32) (k5 : Nat) (k6 : Nat) (p7 : Int32) (p8 : Int32) (p9 : Int32) (k10 : Nat) (p11 : Int32) (q12 : Int64) (k15 : Nat) (k16 : Nat) (f0 : Nat → Int32) (f1 : Nat → Int32) (f3 : Nat → Int32) (f4 : Nat → Int32) (f13 : Nat → Int32) (f14 : Nat → Int32) (HI : INV f0) (HL : k5 ≤ 1600) (HP : PLV f13) (s0 : Nat) (s1 : Nat) (hs0 : SQ s0) (hs1 : SQ s1) (sz : Nat) : Met l yX12_commonOf (WSm yX12_commonOf cX12_commonOf 4 (some .int)) (mkR 1 0 0 21) (PreC D Y [.ref h0, .int (nI s0), .int (nI s1)] [(h0, oC 13 [.ref h1, .ref h2, .int p2, .ref h3, .ref h4, .int (nI k5), .int (nI k6), .int p7, .int p8, .int p9, .int (nI k10), .int p11, .long q12, .ref h5, .ref h6, .int (nI k15), .int (nI k16)]), (h1, aI Y 3640 f0), (h2, aZ Y 2 f1), (h3, aZ Y 80 f3), (h4, aB Y 1600 f4), (h5, aI Y 200 f13), (h6, aI Y 800 f14)] sz) (QI D (fun (r : Int32) (u : WU) => r = nI (kmV f0 s0 s1)) (fun (u : WU) => [(h0, oC 13 [.ref h1, .ref h2, .int p2, .ref h3, .ref h4, .int (nI k5), .int (nI k6), .int p7, .int p8, .int p9, .int (nI k10), .int p11, .long q12, .ref h5, .ref h6, .int (nI k15), .int (nI k16)]), (h1, aI Y 3640 f0), (h2, aZ Y 2 f1), (h3, aZ Y 80 f3), (h4, aB Y 1600 f4), (h5, aI Y 200 f13), (h6, aI Y 800 f14)]) (va_A [(h0, oC 13 [.ref h1, .ref h2, .int p2, .ref h3, .ref h4, .int (nI k5), .int (nI k6), .int p7, .int p8, .int p9, .int (nI k10), .int p11, .long q12, .ref h5, .ref h6, .int (nI k15), .int (nI k16)]), (h1, aI Y 3640 f0), (h2, aZ Y 2 f1), (h3, aZ Y 80 f3), (h4, aB Y 1600 f4), (h5, aI Y 200 f13), (h6, aI Y 800 f14)] sz)) 0 0 (va_A [(h0, oC 13 [.ref h1, .ref h2, .int p2, .ref h3, .ref h4, .int (nI k5), .int (nI k6), .int p7, .int p8, .int p9, .int (nI k10), .int p11, .long q12, .ref h5, .ref h6, .int (nI k15), .int (nI k16)]), (h1, aI Y 3640 f0), (h2, aZ Y 2 f1), (h3, aZ Y 80 f3), (h4, aB Y 1600 f4), (h5, aI Y 200 f13), (h6, aI Y 800 f14)] sz) :=
  met_of (by decide +kernel) (Nat.le_of_ble_eq_true rfl) (fun p e s m args below meth c B hin hsz => by
    have B : VB p s m args meth c D Y (va_A [(h0, oC 13 [.ref h1, .ref h2, .int p2, .ref h3, .ref h4, .int (nI k5), .int (nI k6), .int p7, .int p8, .int p9, .int (nI k10), .int p11, .long q12, .ref h5, .ref h6, .int (nI k15), .int (nI k16)]), (h1, aI Y 3640 f0), (h2, aZ Y 2 f1), (h3, aZ Y 80 f3), (h4, aB Y 1600 f4), (h5, aI Y 200 f13), (h6, aI Y 800 f14)] sz) cX12_commonOf 4 RX12 (some .int) := B
    have hq_s0 := hs0.1
    have hq_s1 := hs1.1
    refine V_iconst 0 B (v := 0) dX12_commonOf_0 (by decide +kernel) ?_
    refine V_istore_n 1 B (lv2 := [(3, .int 0), (0, .ref h0), (1, .int (nI s0)), (2, .int (nI s1))]) dX12_commonOf_1 (by decide) rfl ?_
    refine V_wloop (α := WU) (fun a => 100000 - (a.1 0)) (fun a => (a.1 0) ≤ 4 ∧ kmG f0 s0 s1 (min (gN f0 s0) (gN f0 s1)) ((min (gN f0 s0) (gN f0 s1)) - (a.1 0)) = kmG f0 s0 s1 (min (gN f0 s0) (gN f0 s1)) (min (gN f0 s0) (gN f0 s1)) ∧ (a.1 0) ≤ (min (gN f0 s0) (gN f0 s1))) (fun a => [(3, .int (nI (a.1 0))), (0, .ref h0), (1, .int (nI s0)), (2, .int (nI s1))]) (fun a => [(h0, oC 13 [.ref h1, .ref h2, .int p2, .ref h3, .ref h4, .int (nI k5), .int (nI k6), .int p7, .int p8, .int p9, .int (nI k10), .int p11, .long q12, .ref h5, .ref h6, .int (nI k15), .int (nI k16)]), (h1, aI Y 3640 f0), (h2, aZ Y 2 f1), (h3, aZ Y 80 f3), (h4, aB Y 1600 f4), (h5, aI Y 200 f13), (h6, aI Y 800 f14)]) (mkW [0] [] [] [] [] []) ⟨(show 0 ≤ 4 by omega), rfl, (Nat.zero_le _)⟩ rfl rfl (fun a0 hI2 IH1 => ?_)
    refine V_lv [(3, .int (nI (a0.1 0))), (0, .ref h0), (1, .int (nI s0)), (2, .int (nI s1))] [0, 1, 2, 3] rfl ?_
    refine V_ws [(h0, oC 13 [.ref h1, .ref h2, .int p2, .ref h3, .ref h4, .int (nI k5), .int (nI k6), .int p7, .int p8, .int p9, .int (nI k10), .int p11, .long q12, .ref h5, .ref h6, .int (nI k15), .int (nI k16)]), (h1, aI Y 3640 f0), (h2, aZ Y 2 f1), (h3, aZ Y 80 f3), (h4, aB Y 1600 f4), (h5, aI Y 200 f13), (h6, aI Y 800 f14)] rfl ?_
    obtain ⟨x3, x4, x5⟩ := hI2
    refine V_iload_n 2 B dX12_commonOf_2 0 rfl ?_
    refine V_aload_n 3 B dX12_commonOf_3 1 rfl ?_
    refine V_get 4 B gf_RX12_9 0 rfl rfl dX12_commonOf_4 ?_
    refine V_iload_n 7 B dX12_commonOf_7 2 rfl ?_
    have x6 : (gN f0 s0) ≤ 4 := gN_le HI (by omega) hs0.2.1
    refine V_iald 8 B (v := (nI (gN f0 s0))) 1 rfl (vp_in_nI (n := s0) (by omega) (by decide)) dX12_commonOf_8 (by rw [nI_clamp (show s0 < 2 ^ 31 by omega)]; exact gN_eq HI (by omega) hs0.2.1) ?_
    refine V_aload_n 9 B dX12_commonOf_9 1 rfl ?_
    refine V_get 10 B gf_RX12_9 0 rfl rfl dX12_commonOf_10 ?_
    refine V_iload_n 13 B dX12_commonOf_13 3 rfl ?_
    have x7 : (gN f0 s1) ≤ 4 := gN_le HI (by omega) hs1.2.1
    refine V_iald 14 B (v := (nI (gN f0 s1))) 1 rfl (vp_in_nI (n := s1) (by omega) (by decide)) dX12_commonOf_14 (by rw [nI_clamp (show s1 < 2 ^ 31 by omega)]; exact gN_eq HI (by omega) hs1.2.1) ?_
    refine V_csi 15 B (st := [.int (nI (a0.1 0))]) (As := [.int (nI (gN f0 s0)), .int (nI (gN f0 s1))]) (fun sz => rX12_min l D Y (gN f0 s0) (gN f0 s1) (by omega) (by omega) sz) glS_RX12_58 ⟨rfl, rfl⟩ ⟨(Nat.le_of_ble_eq_true rfl), (Nat.le_of_ble_eq_true rfl)⟩ ⟨(Nat.le_of_ble_eq_true rfl), (Nat.le_of_ble_eq_true rfl)⟩ [] rfl rfl (Nat.le_of_ble_eq_true rfl) rfl (fun _ _ _ => rfl) dX12_commonOf_15 (fun j8 u9 w10 => ?_)
    refine V_ws [(h0, oC 13 [.ref h1, .ref h2, .int p2, .ref h3, .ref h4, .int (nI k5), .int (nI k6), .int p7, .int p8, .int p9, .int (nI k10), .int p11, .long q12, .ref h5, .ref h6, .int (nI k15), .int (nI k16)]), (h1, aI Y 3640 f0), (h2, aZ Y 2 f1), (h3, aZ Y 80 f3), (h4, aB Y 1600 f4), (h5, aI Y 200 f13), (h6, aI Y 800 f14)] rfl ?_
    have x11 := w10
    obtain rfl := x11
    refine V_icmp_ge 18 B 50 dX12_commonOf_18 (by decide) (fun kk12 => ?_) (fun kk12 => ?_)
    ·
      have x13 := n_le (a := (min (gN f0 s0) (gN f0 s1))) (b := (a0.1 0)) kk12 (by omega) (by omega)
      refine V_iload_n 50 B dX12_commonOf_50 0 rfl ?_
      exact V_iret 51 B dX12_commonOf_51 (mkW [] [] [] [] [] []) (km_end x4 (by omega) x5) rfl
    ·
      have x14 := n_nle (a := (min (gN f0 s0) (gN f0 s1))) (b := (a0.1 0)) kk12 (by omega) (by omega)
      refine V_aload_n 21 B dX12_commonOf_21 1 rfl ?_
      refine V_get 22 B gf_RX12_9 0 rfl rfl dX12_commonOf_22 ?_
      refine V_iload_n 25 B dX12_commonOf_25 2 rfl ?_
      refine V_iload_n 26 B dX12_commonOf_26 0 rfl ?_
      refine V_iadd 27 B (v := (nI ((a0.1 0) + s0))) dX12_commonOf_27 (nI_addE (a := s0) (b := (a0.1 0)) (by omega)) ?_
      refine V_iconst 28 B (v := 1) dX12_commonOf_28 (by decide +kernel) ?_
      refine V_iadd 29 B (v := (nI (1 + (a0.1 0) + s0))) dX12_commonOf_29 (nI_addE (a := (a0.1 0) + s0) (b := 1) (by omega)) ?_
      refine V_iald 30 B (v := f0 (1 + (a0.1 0) + s0)) 1 rfl (vp_in_nI (n := 1 + (a0.1 0) + s0) (by omega) (by decide)) dX12_commonOf_30 (by rw [nI_clamp (show 1 + (a0.1 0) + s0 < 2 ^ 31 by omega)]) ?_
      refine V_nmi (fun j15 e16 => ?_)
      refine V_aload_n 31 B dX12_commonOf_31 1 rfl ?_
      refine V_get 32 B gf_RX12_9 0 rfl rfl dX12_commonOf_32 ?_
      refine V_iload_n 35 B dX12_commonOf_35 3 rfl ?_
      refine V_iload_n 36 B dX12_commonOf_36 0 rfl ?_
      refine V_iadd 37 B (v := (nI ((a0.1 0) + s1))) dX12_commonOf_37 (nI_addE (a := s1) (b := (a0.1 0)) (by omega)) ?_
      refine V_iconst 38 B (v := 1) dX12_commonOf_38 (by decide +kernel) ?_
      refine V_iadd 39 B (v := (nI (1 + (a0.1 0) + s1))) dX12_commonOf_39 (nI_addE (a := (a0.1 0) + s1) (b := 1) (by omega)) ?_
      refine V_iald 40 B (v := f0 (1 + (a0.1 0) + s1)) 1 rfl (vp_in_nI (n := 1 + (a0.1 0) + s1) (by omega) (by decide)) dX12_commonOf_40 (by rw [nI_clamp (show 1 + (a0.1 0) + s1 < 2 ^ 31 by omega)]) ?_
      refine V_nmi (fun j17 e18 => ?_)
      refine V_icmp_ne 41 B 50 dX12_commonOf_41 (by decide) (fun kk19 => ?_) (fun kk19 => ?_)
      ·
        have x20 := x_ne kk19
        refine V_iload_n 50 B dX12_commonOf_50 0 rfl ?_
        exact V_iret 51 B dX12_commonOf_51 (mkW [] [] [] [] [] []) (km_neq x4 (by omega) (fun z => kk19 (by rw [e16, e18]; exact z))) rfl
      ·
        have x21 := x_eq kk19
        refine V_iinc 44 B (v := (nI (1 + (a0.1 0)))) (lv2 := [(3, .int (nI (1 + (a0.1 0)))), (0, .ref h0), (1, .int (nI s0)), (2, .int (nI s1))]) dX12_commonOf_44 0 rfl (nI_addE (a := (a0.1 0)) (b := 1) (by omega)) (by decide) rfl ?_
        refine V_goto 47 B 2 dX12_commonOf_47 (by decide) ?_
        refine V_lv [(3, .int (nI (1 + (a0.1 0)))), (0, .ref h0), (1, .int (nI s0)), (2, .int (nI s1))] [0, 1, 2, 3] rfl ?_
        exact IH1 (mkW [1 + (a0.1 0)] [] [] [] [] []) ⟨(show 1 + (a0.1 0) ≤ 4 by omega), (km_eq x4 (by omega) (by rw [← e16, ← e18]; exact kk19)), (show 1 + (a0.1 0) ≤ (min (gN f0 s0) (gN f0 s1)) by omega)⟩ (by show 100000 - (1 + (a0.1 0)) < 100000 - (a0.1 0); omega))
theorem dX12_doClash_0 : decode cX12_doClash 0 = .ok (.aload_n 0, 1) := by decide +kernel
theorem dX12_doClash_1 : decode cX12_doClash 1 = .ok (.iload_n 1, 1) := by decide +kernel
theorem dX12_doClash_2 : decode cX12_doClash 2 = .ok (.iload_n 2, 1) := by decide +kernel
theorem dX12_doClash_3 : decode cX12_doClash 3 = .ok (.invokevirtual 62, 3) := by decide +kernel
theorem glV_RX12_62 : GLV RX12 62 yX12_commonOf RX12 cX12_commonOf 4 (some .int) 2 := ⟨⟨(mT8 82 rfl rfl), (mT8 84 rfl rfl), (mTs 43 rfl rfl), (mT1 13 rfl rfl), (mT8 85 rfl rfl)⟩, by decide +kernel⟩
theorem dX12_doClash_6 : decode cX12_doClash 6 = .ok (.aload_n 0, 1) := by decide +kernel
theorem dX12_doClash_7 : decode cX12_doClash 7 = .ok (.getfield 9, 3) := by decide +kernel
theorem dX12_doClash_10 : decode cX12_doClash 10 = .ok (.iload_n 1, 1) := by decide +kernel
theorem dX12_doClash_11 : decode cX12_doClash 11 = .ok (.iaload, 1) := by decide +kernel
theorem dX12_doClash_12 : decode cX12_doClash 12 = .ok (.aload_n 0, 1) := by decide +kernel
theorem dX12_doClash_13 : decode cX12_doClash 13 = .ok (.getfield 9, 3) := by decide +kernel
theorem dX12_doClash_16 : decode cX12_doClash 16 = .ok (.iload_n 2, 1) := by decide +kernel
theorem dX12_doClash_17 : decode cX12_doClash 17 = .ok (.iaload, 1) := by decide +kernel
theorem dX12_doClash_18 : decode cX12_doClash 18 = .ok (.invokestatic 58, 3) := by decide +kernel
theorem dX12_doClash_21 : decode cX12_doClash 21 = .ok (.if_icmp .ne 7, 3) := by decide +kernel
theorem dX12_doClash_28 : decode cX12_doClash 28 = .ok (.iconst 0, 1) := by decide +kernel
theorem dX12_doClash_29 : decode cX12_doClash 29 = .ok (.ireturn, 1) := by decide +kernel
theorem dX12_doClash_24 : decode cX12_doClash 24 = .ok (.iconst 1, 1) := by decide +kernel
theorem dX12_doClash_25 : decode cX12_doClash 25 = .ok (.goto 4, 3) := by decide +kernel
set_option maxRecDepth 100000 in
set_option maxHeartbeats 4000000 in
theorem rX12_doClash (l : Launch) (D : va_G) (Y : Nat → ClassId) (h0 : Nat) (h1 : Nat) (h2 : Nat) (h3 : Nat) (h4 : Nat) (h5 : Nat) (h6 : Nat) (p2 : Int32) (k5 : Nat) (k6 : Nat) (p7 : Int32) (p8 : Int32) (p9 : Int32) (k10 : Nat) (p11 : Int32) (q12 : Int64) (k15 : Nat) (k16 : Nat) (f0 : Nat → Int32) (f1 : Nat → Int32) (f3 : Nat → Int32) (f4 : Nat → Int32) (f13 : Nat → Int32) (f14 : Nat → Int32) (HI : INV f0) (HL : k5 ≤ 1600) (HP : PLV f13) (s0 : Nat) (s1 : Nat) (hs0 : SQ s0) (hs1 : SQ s1) (sz : Nat) : Met l yX12_doClash (WSm yX12_doClash cX12_doClash 3 (some .boolean)) (mkR 2 0 0 44) (PreC D Y [.ref h0, .int (nI s0), .int (nI s1)] [(h0, oC 13 [.ref h1, .ref h2, .int p2, .ref h3, .ref h4, .int (nI k5), .int (nI k6), .int p7, .int p8, .int p9, .int (nI k10), .int p11, .long q12, .ref h5, .ref h6, .int (nI k15), .int (nI k16)]), (h1, aI Y 3640 f0), (h2, aZ Y 2 f1), (h3, aZ Y 80 f3), (h4, aB Y 1600 f4), (h5, aI Y 200 f13), (h6, aI Y 800 f14)] sz) (QI D (fun (r : Int32) (u : WU) => ((r = 0 ∧ ¬ DC f0 s0 s1) ∨ (r = 1 ∧ DC f0 s0 s1))) (fun (u : WU) => [(h0, oC 13 [.ref h1, .ref h2, .int p2, .ref h3, .ref h4, .int (nI k5), .int (nI k6), .int p7, .int p8, .int p9, .int (nI k10), .int p11, .long q12, .ref h5, .ref h6, .int (nI k15), .int (nI k16)]), (h1, aI Y 3640 f0), (h2, aZ Y 2 f1), (h3, aZ Y 80 f3), (h4, aB Y 1600 f4), (h5, aI Y 200 f13), (h6, aI Y 800 f14)]) (va_A [(h0, oC 13 [.ref h1, .ref h2, .int p2, .ref h3, .ref h4, .int (nI k5), .int (nI k6), .int p7, .int p8, .int p9, .int (nI k10), .int p11, .long q12, .ref h5, .ref h6, .int (nI k15), .int (nI k16)]), (h1, aI Y 3640 f0), (h2, aZ Y 2 f1), (h3, aZ Y 80 f3), (h4, aB Y 1600 f4), (h5, aI Y 200 f13), (h6, aI Y 800 f14)] sz)) 0 0 (va_A [(h0, oC 13 [.ref h1, .ref h2, .int p2, .ref h3, .ref h4, .int (nI k5), .int (nI k6), .int p7, .int p8, .int p9, .int (nI k10), .int p11, .long q12, .ref h5, .ref h6, .int (nI k15), .int (nI k16)]), (h1, aI Y 3640 f0), (h2, aZ Y 2 f1), (h3, aZ Y 80 f3), (h4, aB Y 1600 f4), (h5, aI Y 200 f13), (h6, aI Y 800 f14)] sz) :=
  met_of (by decide +kernel) (Nat.le_of_ble_eq_true rfl) (fun p e s m args below meth c B hin hsz => by
    have B : VB p s m args meth c D Y (va_A [(h0, oC 13 [.ref h1, .ref h2, .int p2, .ref h3, .ref h4, .int (nI k5), .int (nI k6), .int p7, .int p8, .int p9, .int (nI k10), .int p11, .long q12, .ref h5, .ref h6, .int (nI k15), .int (nI k16)]), (h1, aI Y 3640 f0), (h2, aZ Y 2 f1), (h3, aZ Y 80 f3), (h4, aB Y 1600 f4), (h5, aI Y 200 f13), (h6, aI Y 800 f14)] sz) cX12_doClash 3 RX12 (some .boolean) := B
    have hq_s0 := hs0.1
    have hq_s1 := hs1.1
    refine V_aload_n 0 B dX12_doClash_0 0 rfl ?_
    refine V_iload_n 1 B dX12_doClash_1 1 rfl ?_
    refine V_iload_n 2 B dX12_doClash_2 2 rfl ?_
    refine V_cvi 3 B (st := []) (As := [.int (nI s0), .int (nI s1)]) (fun sz => rX12_commonOf l D Y h0 h1 h2 h3 h4 h5 h6 p2 k5 k6 p7 p8 p9 k10 p11 q12 k15 k16 f0 f1 f3 f4 f13 f14 HI (by omega) HP s0 s1 hs0 hs1 sz) glV_RX12_62 ⟨rfl, rfl⟩ ⟨(Nat.le_of_ble_eq_true rfl), (Nat.le_of_ble_eq_true rfl)⟩ ⟨(Nat.le_of_ble_eq_true rfl), (Nat.le_of_ble_eq_true rfl)⟩ [0, 0, 0, 0, 0, 0, 0] rfl 13 0 rfl rfl rfl rfl (Nat.le_of_ble_eq_true rfl) rfl (fun _ _ _ => rfl) dX12_doClash_3 (fun j0 u1 w2 => ?_)
    refine V_ws [(h0, oC 13 [.ref h1, .ref h2, .int p2, .ref h3, .ref h4, .int (nI k5), .int (nI k6), .int p7, .int p8, .int p9, .int (nI k10), .int p11, .long q12, .ref h5, .ref h6, .int (nI k15), .int (nI k16)]), (h1, aI Y 3640 f0), (h2, aZ Y 2 f1), (h3, aZ Y 80 f3), (h4, aB Y 1600 f4), (h5, aI Y 200 f13), (h6, aI Y 800 f14)] rfl ?_
    have x3 := w2
    obtain rfl := x3
    have x4 := kmV_le f0 s0 s1
    have x5 : gN f0 s0 ≤ 4 := gN_le HI (by omega) hs0.2.1
    have x6 : gN f0 s1 ≤ 4 := gN_le HI (by omega) hs1.2.1
    refine V_aload_n 6 B dX12_doClash_6 0 rfl ?_
    refine V_get 7 B gf_RX12_9 0 rfl rfl dX12_doClash_7 ?_
    refine V_iload_n 10 B dX12_doClash_10 1 rfl ?_
    have x7 : (gN f0 s0) ≤ 4 := gN_le HI (by omega) hs0.2.1
    refine V_iald 11 B (v := (nI (gN f0 s0))) 1 rfl (vp_in_nI (n := s0) (by omega) (by decide)) dX12_doClash_11 (by rw [nI_clamp (show s0 < 2 ^ 31 by omega)]; exact gN_eq HI (by omega) hs0.2.1) ?_
    refine V_aload_n 12 B dX12_doClash_12 0 rfl ?_
    refine V_get 13 B gf_RX12_9 0 rfl rfl dX12_doClash_13 ?_
    refine V_iload_n 16 B dX12_doClash_16 2 rfl ?_
    have x8 : (gN f0 s1) ≤ 4 := gN_le HI (by omega) hs1.2.1
    refine V_iald 17 B (v := (nI (gN f0 s1))) 1 rfl (vp_in_nI (n := s1) (by omega) (by decide)) dX12_doClash_17 (by rw [nI_clamp (show s1 < 2 ^ 31 by omega)]; exact gN_eq HI (by omega) hs1.2.1) ?_
    refine V_csi 18 B (st := [.int (nI (kmV f0 s0 s1))]) (As := [.int (nI (gN f0 s0)), .int (nI (gN f0 s1))]) (fun sz => rX12_min l D Y (gN f0 s0) (gN f0 s1) (by omega) (by omega) sz) glS_RX12_58 ⟨rfl, rfl⟩ ⟨(Nat.le_of_ble_eq_true rfl), (Nat.le_of_ble_eq_true rfl)⟩ ⟨(Nat.le_of_ble_eq_true rfl), (Nat.le_of_ble_eq_true rfl)⟩ [] rfl rfl (Nat.le_of_ble_eq_true rfl) rfl (fun _ _ _ => rfl) dX12_doClash_18 (fun j9 u10 w11 => ?_)
    refine V_ws [(h0, oC 13 [.ref h1, .ref h2, .int p2, .ref h3, .ref h4, .int (nI k5), .int (nI k6), .int p7, .int p8, .int p9, .int (nI k10), .int p11, .long q12, .ref h5, .ref h6, .int (nI k15), .int (nI k16)]), (h1, aI Y 3640 f0), (h2, aZ Y 2 f1), (h3, aZ Y 80 f3), (h4, aB Y 1600 f4), (h5, aI Y 200 f13), (h6, aI Y 800 f14)] rfl ?_
    have x12 := w11
    obtain rfl := x12
    refine V_icmp_ne 21 B 28 dX12_doClash_21 (by decide) (fun kk13 => ?_) (fun kk13 => ?_)
    ·
      have x14 := n_ne (a := (kmV f0 s0 s1)) (b := (min (gN f0 s0) (gN f0 s1))) kk13
      refine V_iconst 28 B (v := 0) dX12_doClash_28 (by decide +kernel) ?_
      exact V_zret 29 B rfl dX12_doClash_29 (mkW [] [] [] [] [] []) (Or.inl ⟨rfl, by unfold DC; omega⟩) rfl
    ·
      have x15 := n_eq (a := (kmV f0 s0 s1)) (b := (min (gN f0 s0) (gN f0 s1))) kk13 (by omega) (by omega)
      refine V_iconst 24 B (v := 1) dX12_doClash_24 (by decide +kernel) ?_
      refine V_goto 25 B 29 dX12_doClash_25 (by decide) ?_
      exact V_zret 29 B rfl dX12_doClash_29 (mkW [] [] [] [] [] []) (Or.inr ⟨rfl, by unfold DC; omega⟩) rfl)
theorem dX12_areEqual_0 : decode cX12_areEqual 0 = .ok (.aload_n 0, 1) := by decide +kernel
theorem dX12_areEqual_1 : decode cX12_areEqual 1 = .ok (.getfield 9, 3) := by decide +kernel
theorem dX12_areEqual_4 : decode cX12_areEqual 4 = .ok (.iload_n 1, 1) := by decide +kernel
theorem dX12_areEqual_5 : decode cX12_areEqual 5 = .ok (.iaload, 1) := by decide +kernel
theorem dX12_areEqual_6 : decode cX12_areEqual 6 = .ok (.aload_n 0, 1) := by decide +kernel
theorem dX12_areEqual_7 : decode cX12_areEqual 7 = .ok (.getfield 9, 3) := by decide +kernel
theorem dX12_areEqual_10 : decode cX12_areEqual 10 = .ok (.iload_n 2, 1) := by decide +kernel
theorem dX12_areEqual_11 : decode cX12_areEqual 11 = .ok (.iaload, 1) := by decide +kernel
theorem dX12_areEqual_12 : decode cX12_areEqual 12 = .ok (.if_icmp .ne 22, 3) := by decide +kernel
theorem dX12_areEqual_34 : decode cX12_areEqual 34 = .ok (.iconst 0, 1) := by decide +kernel
theorem dX12_areEqual_35 : decode cX12_areEqual 35 = .ok (.ireturn, 1) := by decide +kernel
theorem dX12_areEqual_15 : decode cX12_areEqual 15 = .ok (.aload_n 0, 1) := by decide +kernel
theorem dX12_areEqual_16 : decode cX12_areEqual 16 = .ok (.iload_n 1, 1) := by decide +kernel
theorem dX12_areEqual_17 : decode cX12_areEqual 17 = .ok (.iload_n 2, 1) := by decide +kernel
theorem dX12_areEqual_18 : decode cX12_areEqual 18 = .ok (.invokevirtual 62, 3) := by decide +kernel
theorem dX12_areEqual_21 : decode cX12_areEqual 21 = .ok (.aload_n 0, 1) := by decide +kernel
theorem dX12_areEqual_22 : decode cX12_areEqual 22 = .ok (.getfield 9, 3) := by decide +kernel
theorem dX12_areEqual_25 : decode cX12_areEqual 25 = .ok (.iload_n 1, 1) := by decide +kernel
theorem dX12_areEqual_26 : decode cX12_areEqual 26 = .ok (.iaload, 1) := by decide +kernel
theorem dX12_areEqual_27 : decode cX12_areEqual 27 = .ok (.if_icmp .ne 7, 3) := by decide +kernel
theorem dX12_areEqual_30 : decode cX12_areEqual 30 = .ok (.iconst 1, 1) := by decide +kernel
theorem dX12_areEqual_31 : decode cX12_areEqual 31 = .ok (.goto 4, 3) := by decide +kernel
set_option maxRecDepth 100000 in
set_option maxHeartbeats 4000000 in
theorem rX12_areEqual (l : Launch) (D : va_G) (Y : Nat → ClassId) (h0 : Nat) (h1 : Nat) (h2 : Nat) (h3 : Nat) (h4 : Nat) (h5 : Nat) (h6 : Nat) (p2 : Int32) (k5 : Nat) (k6 : Nat) (p7 : Int32) (p8 : Int32) (p9 : Int32) (k10 : Nat) (p11 : Int32) (q12 : Int64) (k15 : Nat) (k16 : Nat) (f0 : Nat → Int32) (f1 : Nat → Int32) (f3 : Nat → Int32) (f4 : Nat → Int32) (f13 : Nat → Int32) (f14 : Nat → Int32) (HI : INV f0) (HL : k5 ≤ 1600) (HP : PLV f13) (s0 : Nat) (s1 : Nat) (hs0 : SQ s0) (hs1 : SQ s1) (sz : Nat) : Met l yX12_areEqual (WSm yX12_areEqual cX12_areEqual 3 (some .boolean)) (mkR 2 0 0 44) (PreC D Y [.ref h0, .int (nI s0), .int (nI s1)] [(h0, oC 13 [.ref h1, .ref h2, .int p2, .ref h3, .ref h4, .int (nI k5), .int (nI k6), .int p7, .int p8, .int p9, .int (nI k10), .int p11, .long q12, .ref h5, .ref h6, .int (nI k15), .int (nI k16)]), (h1, aI Y 3640 f0), (h2, aZ Y 2 f1), (h3, aZ Y 80 f3), (h4, aB Y 1600 f4), (h5, aI Y 200 f13), (h6, aI Y 800 f14)] sz) (QI D (fun (r : Int32) (u : WU) => (r = 0 ∨ r = 1)) (fun (u : WU) => [(h0, oC 13 [.ref h1, .ref h2, .int p2, .ref h3, .ref h4, .int (nI k5), .int (nI k6), .int p7, .int p8, .int p9, .int (nI k10), .int p11, .long q12, .ref h5, .ref h6, .int (nI k15), .int (nI k16)]), (h1, aI Y 3640 f0), (h2, aZ Y 2 f1), (h3, aZ Y 80 f3), (h4, aB Y 1600 f4), (h5, aI Y 200 f13), (h6, aI Y 800 f14)]) (va_A [(h0, oC 13 [.ref h1, .ref h2, .int p2, .ref h3, .ref h4, .int (nI k5), .int (nI k6), .int p7, .int p8, .int p9, .int (nI k10), .int p11, .long q12, .ref h5, .ref h6, .int (nI k15), .int (nI k16)]), (h1, aI Y 3640 f0), (h2, aZ Y 2 f1), (h3, aZ Y 80 f3), (h4, aB Y 1600 f4), (h5, aI Y 200 f13), (h6, aI Y 800 f14)] sz)) 0 0 (va_A [(h0, oC 13 [.ref h1, .ref h2, .int p2, .ref h3, .ref h4, .int (nI k5), .int (nI k6), .int p7, .int p8, .int p9, .int (nI k10), .int p11, .long q12, .ref h5, .ref h6, .int (nI k15), .int (nI k16)]), (h1, aI Y 3640 f0), (h2, aZ Y 2 f1), (h3, aZ Y 80 f3), (h4, aB Y 1600 f4), (h5, aI Y 200 f13), (h6, aI Y 800 f14)] sz) :=
  met_of (by decide +kernel) (Nat.le_of_ble_eq_true rfl) (fun p e s m args below meth c B hin hsz => by
    have B : VB p s m args meth c D Y (va_A [(h0, oC 13 [.ref h1, .ref h2, .int p2, .ref h3, .ref h4, .int (nI k5), .int (nI k6), .int p7, .int p8, .int p9, .int (nI k10), .int p11, .long q12, .ref h5, .ref h6, .int (nI k15), .int (nI k16)]), (h1, aI Y 3640 f0), (h2, aZ Y 2 f1), (h3, aZ Y 80 f3), (h4, aB Y 1600 f4), (h5, aI Y 200 f13), (h6, aI Y 800 f14)] sz) cX12_areEqual 3 RX12 (some .boolean) := B
    have hq_s0 := hs0.1
    have hq_s1 := hs1.1
    refine V_aload_n 0 B dX12_areEqual_0 0 rfl ?_
    refine V_get 1 B gf_RX12_9 0 rfl rfl dX12_areEqual_1 ?_
    refine V_iload_n 4 B dX12_areEqual_4 1 rfl ?_
    have x0 : (gN f0 s0) ≤ 4 := gN_le HI (by omega) hs0.2.1
    refine V_iald 5 B (v := (nI (gN f0 s0))) 1 rfl (vp_in_nI (n := s0) (by omega) (by decide)) dX12_areEqual_5 (by rw [nI_clamp (show s0 < 2 ^ 31 by omega)]; exact gN_eq HI (by omega) hs0.2.1) ?_
    refine V_aload_n 6 B dX12_areEqual_6 0 rfl ?_
    refine V_get 7 B gf_RX12_9 0 rfl rfl dX12_areEqual_7 ?_
    refine V_iload_n 10 B dX12_areEqual_10 2 rfl ?_
    have x1 : (gN f0 s1) ≤ 4 := gN_le HI (by omega) hs1.2.1
    refine V_iald 11 B (v := (nI (gN f0 s1))) 1 rfl (vp_in_nI (n := s1) (by omega) (by decide)) dX12_areEqual_11 (by rw [nI_clamp (show s1 < 2 ^ 31 by omega)]; exact gN_eq HI (by omega) hs1.2.1) ?_
    refine V_icmp_ne 12 B 34 dX12_areEqual_12 (by decide) (fun kk2 => ?_) (fun kk2 => ?_)
    ·
      have x3 := n_ne (a := (gN f0 s0)) (b := (gN f0 s1)) kk2
      refine V_iconst 34 B (v := 0) dX12_areEqual_34 (by decide +kernel) ?_
      exact V_zret 35 B rfl dX12_areEqual_35 (mkW [] [] [] [] [] []) (Or.inl rfl) rfl
    ·
      have x4 := n_eq (a := (gN f0 s0)) (b := (gN f0 s1)) kk2 (by omega) (by omega)
      refine V_aload_n 15 B dX12_areEqual_15 0 rfl ?_
      refine V_iload_n 16 B dX12_areEqual_16 1 rfl ?_
      refine V_iload_n 17 B dX12_areEqual_17 2 rfl ?_
      refine V_cvi 18 B (st := []) (As := [.int (nI s0), .int (nI s1)]) (fun sz => rX12_commonOf l D Y h0 h1 h2 h3 h4 h5 h6 p2 k5 k6 p7 p8 p9 k10 p11 q12 k15 k16 f0 f1 f3 f4 f13 f14 HI (by omega) HP s0 s1 hs0 hs1 sz) glV_RX12_62 ⟨rfl, rfl⟩ ⟨(Nat.le_of_ble_eq_true rfl), (Nat.le_of_ble_eq_true rfl)⟩ ⟨(Nat.le_of_ble_eq_true rfl), (Nat.le_of_ble_eq_true rfl)⟩ [0, 0, 0, 0, 0, 0, 0] rfl 13 0 rfl rfl rfl rfl (Nat.le_of_ble_eq_true rfl) rfl (fun _ _ _ => rfl) dX12_areEqual_18 (fun j5 u6 w7 => ?_)
      refine V_ws [(h0, oC 13 [.ref h1, .ref h2, .int p2, .ref h3, .ref h4, .int (nI k5), .int (nI k6), .int p7, .int p8, .int p9, .int (nI k10), .int p11, .long q12, .ref h5, .ref h6, .int (nI k15), .int (nI k16)]), (h1, aI Y 3640 f0), (h2, aZ Y 2 f1), (h3, aZ Y 80 f3), (h4, aB Y 1600 f4), (h5, aI Y 200 f13), (h6, aI Y 800 f14)] rfl ?_
      have x8 := w7
      obtain rfl := x8
      have x9 := kmV_le f0 s0 s1
      have x10 : gN f0 s0 ≤ 4 := gN_le HI (by omega) hs0.2.1
      have x11 : gN f0 s1 ≤ 4 := gN_le HI (by omega) hs1.2.1
      refine V_aload_n 21 B dX12_areEqual_21 0 rfl ?_
      refine V_get 22 B gf_RX12_9 0 rfl rfl dX12_areEqual_22 ?_
      refine V_iload_n 25 B dX12_areEqual_25 1 rfl ?_
      have x12 : (gN f0 s0) ≤ 4 := gN_le HI (by omega) hs0.2.1
      refine V_iald 26 B (v := (nI (gN f0 s0))) 1 rfl (vp_in_nI (n := s0) (by omega) (by decide)) dX12_areEqual_26 (by rw [nI_clamp (show s0 < 2 ^ 31 by omega)]; exact gN_eq HI (by omega) hs0.2.1) ?_
      refine V_icmp_ne 27 B 34 dX12_areEqual_27 (by decide) (fun kk13 => ?_) (fun kk13 => ?_)
      ·
        have x14 := n_ne (a := (kmV f0 s0 s1)) (b := (gN f0 s0)) kk13
        refine V_iconst 34 B (v := 0) dX12_areEqual_34 (by decide +kernel) ?_
        exact V_zret 35 B rfl dX12_areEqual_35 (mkW [] [] [] [] [] []) (Or.inl rfl) rfl
      ·
        have x15 := n_eq (a := (kmV f0 s0 s1)) (b := (gN f0 s0)) kk13 (by omega) (by omega)
        refine V_iconst 30 B (v := 1) dX12_areEqual_30 (by decide +kernel) ?_
        refine V_goto 31 B 35 dX12_areEqual_31 (by decide) ?_
        exact V_zret 35 B rfl dX12_areEqual_35 (mkW [] [] [] [] [] []) (Or.inr rfl) rfl)
theorem dX12_isProperPrefix_0 : decode cX12_isProperPrefix 0 = .ok (.aload_n 0, 1) := by decide +kernel
theorem dX12_isProperPrefix_1 : decode cX12_isProperPrefix 1 = .ok (.getfield 9, 3) := by decide +kernel
theorem dX12_isProperPrefix_4 : decode cX12_isProperPrefix 4 = .ok (.iload_n 1, 1) := by decide +kernel
theorem dX12_isProperPrefix_5 : decode cX12_isProperPrefix 5 = .ok (.iaload, 1) := by decide +kernel
theorem dX12_isProperPrefix_6 : decode cX12_isProperPrefix 6 = .ok (.aload_n 0, 1) := by decide +kernel
theorem dX12_isProperPrefix_7 : decode cX12_isProperPrefix 7 = .ok (.getfield 9, 3) := by decide +kernel
theorem dX12_isProperPrefix_10 : decode cX12_isProperPrefix 10 = .ok (.iload_n 2, 1) := by decide +kernel
theorem dX12_isProperPrefix_11 : decode cX12_isProperPrefix 11 = .ok (.iaload, 1) := by decide +kernel
theorem dX12_isProperPrefix_12 : decode cX12_isProperPrefix 12 = .ok (.if_icmp .ge 22, 3) := by decide +kernel
theorem dX12_isProperPrefix_34 : decode cX12_isProperPrefix 34 = .ok (.iconst 0, 1) := by decide +kernel
theorem dX12_isProperPrefix_35 : decode cX12_isProperPrefix 35 = .ok (.ireturn, 1) := by decide +kernel
theorem dX12_isProperPrefix_15 : decode cX12_isProperPrefix 15 = .ok (.aload_n 0, 1) := by decide +kernel
theorem dX12_isProperPrefix_16 : decode cX12_isProperPrefix 16 = .ok (.iload_n 1, 1) := by decide +kernel
theorem dX12_isProperPrefix_17 : decode cX12_isProperPrefix 17 = .ok (.iload_n 2, 1) := by decide +kernel
theorem dX12_isProperPrefix_18 : decode cX12_isProperPrefix 18 = .ok (.invokevirtual 62, 3) := by decide +kernel
theorem dX12_isProperPrefix_21 : decode cX12_isProperPrefix 21 = .ok (.aload_n 0, 1) := by decide +kernel
theorem dX12_isProperPrefix_22 : decode cX12_isProperPrefix 22 = .ok (.getfield 9, 3) := by decide +kernel
theorem dX12_isProperPrefix_25 : decode cX12_isProperPrefix 25 = .ok (.iload_n 1, 1) := by decide +kernel
theorem dX12_isProperPrefix_26 : decode cX12_isProperPrefix 26 = .ok (.iaload, 1) := by decide +kernel
theorem dX12_isProperPrefix_27 : decode cX12_isProperPrefix 27 = .ok (.if_icmp .ne 7, 3) := by decide +kernel
theorem dX12_isProperPrefix_30 : decode cX12_isProperPrefix 30 = .ok (.iconst 1, 1) := by decide +kernel
theorem dX12_isProperPrefix_31 : decode cX12_isProperPrefix 31 = .ok (.goto 4, 3) := by decide +kernel
set_option maxRecDepth 100000 in
set_option maxHeartbeats 4000000 in
theorem rX12_isProperPrefix (l : Launch) (D : va_G) (Y : Nat → ClassId) (h0 : Nat) (h1 : Nat) (h2 : Nat) (h3 : Nat) (h4 : Nat) (h5 : Nat) (h6 : Nat) (p2 : Int32) (k5 : Nat) (k6 : Nat) (p7 : Int32) (p8 : Int32) (p9 : Int32) (k10 : Nat) (p11 : Int32) (q12 : Int64) (k15 : Nat) (k16 : Nat) (f0 : Nat → Int32) (f1 : Nat → Int32) (f3 : Nat → Int32) (f4 : Nat → Int32) (f13 : Nat → Int32) (f14 : Nat → Int32) (HI : INV f0) (HL : k5 ≤ 1600) (HP : PLV f13) (s0 : Nat) (s1 : Nat) (hs0 : SQ s0) (hs1 : SQ s1) (sz : Nat) : Met l yX12_isProperPrefix (WSm yX12_isProperPrefix cX12_isProperPrefix 3 (some .boolean)) (mkR 2 0 0 44) (PreC D Y [.ref h0, .int (nI s0), .int (nI s1)] [(h0, oC 13 [.ref h1, .ref h2, .int p2, .ref h3, .ref h4, .int (nI k5), .int (nI k6), .int p7, .int p8, .int p9, .int (nI k10), .int p11, .long q12, .ref h5, .ref h6, .int (nI k15), .int (nI k16)]), (h1, aI Y 3640 f0), (h2, aZ Y 2 f1), (h3, aZ Y 80 f3), (h4, aB Y 1600 f4), (h5, aI Y 200 f13), (h6, aI Y 800 f14)] sz) (QI D (fun (r : Int32) (u : WU) => (r = 0 ∨ (r = 1 ∧ gN f0 s0 < 4))) (fun (u : WU) => [(h0, oC 13 [.ref h1, .ref h2, .int p2, .ref h3, .ref h4, .int (nI k5), .int (nI k6), .int p7, .int p8, .int p9, .int (nI k10), .int p11, .long q12, .ref h5, .ref h6, .int (nI k15), .int (nI k16)]), (h1, aI Y 3640 f0), (h2, aZ Y 2 f1), (h3, aZ Y 80 f3), (h4, aB Y 1600 f4), (h5, aI Y 200 f13), (h6, aI Y 800 f14)]) (va_A [(h0, oC 13 [.ref h1, .ref h2, .int p2, .ref h3, .ref h4, .int (nI k5), .int (nI k6), .int p7, .int p8, .int p9, .int (nI k10), .int p11, .long q12, .ref h5, .ref h6, .int (nI k15), .int (nI k16)]), (h1, aI Y 3640 f0), (h2, aZ Y 2 f1), (h3, aZ Y 80 f3), (h4, aB Y 1600 f4), (h5, aI Y 200 f13), (h6, aI Y 800 f14)] sz)) 0 0 (va_A [(h0, oC 13 [.ref h1, .ref h2, .int p2, .ref h3, .ref h4, .int (nI k5), .int (nI k6), .int p7, .int p8, .int p9, .int (nI k10), .int p11, .long q12, .ref h5, .ref h6, .int (nI k15), .int (nI k16)]), (h1, aI Y 3640 f0), (h2, aZ Y 2 f1), (h3, aZ Y 80 f3), (h4, aB Y 1600 f4), (h5, aI Y 200 f13), (h6, aI Y 800 f14)] sz) :=
  met_of (by decide +kernel) (Nat.le_of_ble_eq_true rfl) (fun p e s m args below meth c B hin hsz => by
    have B : VB p s m args meth c D Y (va_A [(h0, oC 13 [.ref h1, .ref h2, .int p2, .ref h3, .ref h4, .int (nI k5), .int (nI k6), .int p7, .int p8, .int p9, .int (nI k10), .int p11, .long q12, .ref h5, .ref h6, .int (nI k15), .int (nI k16)]), (h1, aI Y 3640 f0), (h2, aZ Y 2 f1), (h3, aZ Y 80 f3), (h4, aB Y 1600 f4), (h5, aI Y 200 f13), (h6, aI Y 800 f14)] sz) cX12_isProperPrefix 3 RX12 (some .boolean) := B
    have hq_s0 := hs0.1
    have hq_s1 := hs1.1
    refine V_aload_n 0 B dX12_isProperPrefix_0 0 rfl ?_
    refine V_get 1 B gf_RX12_9 0 rfl rfl dX12_isProperPrefix_1 ?_
    refine V_iload_n 4 B dX12_isProperPrefix_4 1 rfl ?_
    have x0 : (gN f0 s0) ≤ 4 := gN_le HI (by omega) hs0.2.1
    refine V_iald 5 B (v := (nI (gN f0 s0))) 1 rfl (vp_in_nI (n := s0) (by omega) (by decide)) dX12_isProperPrefix_5 (by rw [nI_clamp (show s0 < 2 ^ 31 by omega)]; exact gN_eq HI (by omega) hs0.2.1) ?_
    refine V_aload_n 6 B dX12_isProperPrefix_6 0 rfl ?_
    refine V_get 7 B gf_RX12_9 0 rfl rfl dX12_isProperPrefix_7 ?_
    refine V_iload_n 10 B dX12_isProperPrefix_10 2 rfl ?_
    have x1 : (gN f0 s1) ≤ 4 := gN_le HI (by omega) hs1.2.1
    refine V_iald 11 B (v := (nI (gN f0 s1))) 1 rfl (vp_in_nI (n := s1) (by omega) (by decide)) dX12_isProperPrefix_11 (by rw [nI_clamp (show s1 < 2 ^ 31 by omega)]; exact gN_eq HI (by omega) hs1.2.1) ?_
    refine V_icmp_ge 12 B 34 dX12_isProperPrefix_12 (by decide) (fun kk2 => ?_) (fun kk2 => ?_)
    ·
      have x3 := n_le (a := (gN f0 s1)) (b := (gN f0 s0)) kk2 (by omega) (by omega)
      refine V_iconst 34 B (v := 0) dX12_isProperPrefix_34 (by decide +kernel) ?_
      exact V_zret 35 B rfl dX12_isProperPrefix_35 (mkW [] [] [] [] [] []) (Or.inl rfl) rfl
    ·
      have x4 := n_nle (a := (gN f0 s1)) (b := (gN f0 s0)) kk2 (by omega) (by omega)
      refine V_aload_n 15 B dX12_isProperPrefix_15 0 rfl ?_
      refine V_iload_n 16 B dX12_isProperPrefix_16 1 rfl ?_
      refine V_iload_n 17 B dX12_isProperPrefix_17 2 rfl ?_
      refine V_cvi 18 B (st := []) (As := [.int (nI s0), .int (nI s1)]) (fun sz => rX12_commonOf l D Y h0 h1 h2 h3 h4 h5 h6 p2 k5 k6 p7 p8 p9 k10 p11 q12 k15 k16 f0 f1 f3 f4 f13 f14 HI (by omega) HP s0 s1 hs0 hs1 sz) glV_RX12_62 ⟨rfl, rfl⟩ ⟨(Nat.le_of_ble_eq_true rfl), (Nat.le_of_ble_eq_true rfl)⟩ ⟨(Nat.le_of_ble_eq_true rfl), (Nat.le_of_ble_eq_true rfl)⟩ [0, 0, 0, 0, 0, 0, 0] rfl 13 0 rfl rfl rfl rfl (Nat.le_of_ble_eq_true rfl) rfl (fun _ _ _ => rfl) dX12_isProperPrefix_18 (fun j5 u6 w7 => ?_)
      refine V_ws [(h0, oC 13 [.ref h1, .ref h2, .int p2, .ref h3, .ref h4, .int (nI k5), .int (nI k6), .int p7, .int p8, .int p9, .int (nI k10), .int p11, .long q12, .ref h5, .ref h6, .int (nI k15), .int (nI k16)]), (h1, aI Y 3640 f0), (h2, aZ Y 2 f1), (h3, aZ Y 80 f3), (h4, aB Y 1600 f4), (h5, aI Y 200 f13), (h6, aI Y 800 f14)] rfl ?_
      have x8 := w7
      obtain rfl := x8
      have x9 := kmV_le f0 s0 s1
      have x10 : gN f0 s0 ≤ 4 := gN_le HI (by omega) hs0.2.1
      have x11 : gN f0 s1 ≤ 4 := gN_le HI (by omega) hs1.2.1
      refine V_aload_n 21 B dX12_isProperPrefix_21 0 rfl ?_
      refine V_get 22 B gf_RX12_9 0 rfl rfl dX12_isProperPrefix_22 ?_
      refine V_iload_n 25 B dX12_isProperPrefix_25 1 rfl ?_
      have x12 : (gN f0 s0) ≤ 4 := gN_le HI (by omega) hs0.2.1
      refine V_iald 26 B (v := (nI (gN f0 s0))) 1 rfl (vp_in_nI (n := s0) (by omega) (by decide)) dX12_isProperPrefix_26 (by rw [nI_clamp (show s0 < 2 ^ 31 by omega)]; exact gN_eq HI (by omega) hs0.2.1) ?_
      refine V_icmp_ne 27 B 34 dX12_isProperPrefix_27 (by decide) (fun kk13 => ?_) (fun kk13 => ?_)
      ·
        have x14 := n_ne (a := (kmV f0 s0 s1)) (b := (gN f0 s0)) kk13
        refine V_iconst 34 B (v := 0) dX12_isProperPrefix_34 (by decide +kernel) ?_
        exact V_zret 35 B rfl dX12_isProperPrefix_35 (mkW [] [] [] [] [] []) (Or.inl rfl) rfl
      ·
        have x15 := n_eq (a := (kmV f0 s0 s1)) (b := (gN f0 s0)) kk13 (by omega) (by omega)
        refine V_iconst 30 B (v := 1) dX12_isProperPrefix_30 (by decide +kernel) ?_
        refine V_goto 31 B 35 dX12_isProperPrefix_31 (by decide) ?_
        exact V_zret 35 B rfl dX12_isProperPrefix_35 (mkW [] [] [] [] [] []) (Or.inr ⟨rfl, by omega⟩) rfl)
theorem dX12_isLess_0 : decode cX12_isLess 0 = .ok (.aload_n 0, 1) := by decide +kernel
theorem dX12_isLess_1 : decode cX12_isLess 1 = .ok (.iload_n 1, 1) := by decide +kernel
theorem dX12_isLess_2 : decode cX12_isLess 2 = .ok (.iload_n 2, 1) := by decide +kernel
theorem dX12_isLess_3 : decode cX12_isLess 3 = .ok (.invokevirtual 62, 3) := by decide +kernel
theorem dX12_isLess_6 : decode cX12_isLess 6 = .ok (.istore_n 3, 1) := by decide +kernel
theorem dX12_isLess_7 : decode cX12_isLess 7 = .ok (.iload_n 3, 1) := by decide +kernel
theorem dX12_isLess_8 : decode cX12_isLess 8 = .ok (.aload_n 0, 1) := by decide +kernel
theorem dX12_isLess_9 : decode cX12_isLess 9 = .ok (.getfield 9, 3) := by decide +kernel
theorem dX12_isLess_12 : decode cX12_isLess 12 = .ok (.iload_n 1, 1) := by decide +kernel
theorem dX12_isLess_13 : decode cX12_isLess 13 = .ok (.iaload, 1) := by decide +kernel
theorem dX12_isLess_14 : decode cX12_isLess 14 = .ok (.if_icmp .ne 21, 3) := by decide +kernel
theorem dX12_isLess_35 : decode cX12_isLess 35 = .ok (.iload_n 3, 1) := by decide +kernel
theorem dX12_isLess_36 : decode cX12_isLess 36 = .ok (.aload_n 0, 1) := by decide +kernel
theorem dX12_isLess_37 : decode cX12_isLess 37 = .ok (.getfield 9, 3) := by decide +kernel
theorem dX12_isLess_40 : decode cX12_isLess 40 = .ok (.iload_n 2, 1) := by decide +kernel
theorem dX12_isLess_41 : decode cX12_isLess 41 = .ok (.iaload, 1) := by decide +kernel
theorem dX12_isLess_42 : decode cX12_isLess 42 = .ok (.if_icmp .ge 30, 3) := by decide +kernel
theorem dX12_isLess_72 : decode cX12_isLess 72 = .ok (.iconst 0, 1) := by decide +kernel
theorem dX12_isLess_73 : decode cX12_isLess 73 = .ok (.ireturn, 1) := by decide +kernel
theorem dX12_isLess_45 : decode cX12_isLess 45 = .ok (.aload_n 0, 1) := by decide +kernel
theorem dX12_isLess_46 : decode cX12_isLess 46 = .ok (.getfield 9, 3) := by decide +kernel
theorem dX12_isLess_49 : decode cX12_isLess 49 = .ok (.iload_n 1, 1) := by decide +kernel
theorem dX12_isLess_50 : decode cX12_isLess 50 = .ok (.iload_n 3, 1) := by decide +kernel
theorem dX12_isLess_51 : decode cX12_isLess 51 = .ok (.iadd, 1) := by decide +kernel
theorem dX12_isLess_52 : decode cX12_isLess 52 = .ok (.iconst 1, 1) := by decide +kernel
theorem dX12_isLess_53 : decode cX12_isLess 53 = .ok (.iadd, 1) := by decide +kernel
theorem dX12_isLess_54 : decode cX12_isLess 54 = .ok (.iaload, 1) := by decide +kernel
theorem dX12_isLess_55 : decode cX12_isLess 55 = .ok (.aload_n 0, 1) := by decide +kernel
theorem dX12_isLess_56 : decode cX12_isLess 56 = .ok (.getfield 9, 3) := by decide +kernel
theorem dX12_isLess_59 : decode cX12_isLess 59 = .ok (.iload_n 2, 1) := by decide +kernel
theorem dX12_isLess_60 : decode cX12_isLess 60 = .ok (.iload_n 3, 1) := by decide +kernel
theorem dX12_isLess_61 : decode cX12_isLess 61 = .ok (.iadd, 1) := by decide +kernel
theorem dX12_isLess_62 : decode cX12_isLess 62 = .ok (.iconst 1, 1) := by decide +kernel
theorem dX12_isLess_63 : decode cX12_isLess 63 = .ok (.iadd, 1) := by decide +kernel
theorem dX12_isLess_64 : decode cX12_isLess 64 = .ok (.iaload, 1) := by decide +kernel
theorem dX12_isLess_65 : decode cX12_isLess 65 = .ok (.if_icmp .ge 7, 3) := by decide +kernel
theorem dX12_isLess_68 : decode cX12_isLess 68 = .ok (.iconst 1, 1) := by decide +kernel
theorem dX12_isLess_69 : decode cX12_isLess 69 = .ok (.goto 4, 3) := by decide +kernel
theorem dX12_isLess_17 : decode cX12_isLess 17 = .ok (.aload_n 0, 1) := by decide +kernel
theorem dX12_isLess_18 : decode cX12_isLess 18 = .ok (.getfield 9, 3) := by decide +kernel
theorem dX12_isLess_21 : decode cX12_isLess 21 = .ok (.iload_n 2, 1) := by decide +kernel
theorem dX12_isLess_22 : decode cX12_isLess 22 = .ok (.iaload, 1) := by decide +kernel
theorem dX12_isLess_23 : decode cX12_isLess 23 = .ok (.iload_n 3, 1) := by decide +kernel
theorem dX12_isLess_24 : decode cX12_isLess 24 = .ok (.if_icmp .le 7, 3) := by decide +kernel
theorem dX12_isLess_31 : decode cX12_isLess 31 = .ok (.iconst 0, 1) := by decide +kernel
theorem dX12_isLess_32 : decode cX12_isLess 32 = .ok (.goto 41, 3) := by decide +kernel
theorem dX12_isLess_27 : decode cX12_isLess 27 = .ok (.iconst 1, 1) := by decide +kernel
theorem dX12_isLess_28 : decode cX12_isLess 28 = .ok (.goto 45, 3) := by decide +kernel
set_option maxRecDepth 100000 in
set_option maxHeartbeats 4000000 in
theorem rX12_isLess (l : Launch) (D : va_G) (Y : Nat → ClassId) (h0 : Nat) (h1 : Nat) (h2 : Nat) (h3 : Nat) (h4 : Nat) (h5 : Nat) (h6 : Nat) (p2 : Int32) (k5 : Nat) (k6 : Nat) (p7 : Int32) (p8 : Int32) (p9 : Int32) (k10 : Nat) (p11 : Int32) (q12 : Int64) (k15 : Nat) (k16 : Nat) (f0 : Nat → Int32) (f1 : Nat → Int32) (f3 : Nat → Int32) (f4 : Nat → Int32) (f13 : Nat → Int32) (f14 : Nat → Int32) (HI : INV f0) (HL : k5 ≤ 1600) (HP : PLV f13) (s0 : Nat) (s1 : Nat) (hs0 : SQ s0) (hs1 : SQ s1) (sz : Nat) : Met l yX12_isLess (WSm yX12_isLess cX12_isLess 4 (some .boolean)) (mkR 2 0 0 44) (PreC D Y [.ref h0, .int (nI s0), .int (nI s1)] [(h0, oC 13 [.ref h1, .ref h2, .int p2, .ref h3, .ref h4, .int (nI k5), .int (nI k6), .int p7, .int p8, .int p9, .int (nI k10), .int p11, .long q12, .ref h5, .ref h6, .int (nI k15), .int (nI k16)]), (h1, aI Y 3640 f0), (h2, aZ Y 2 f1), (h3, aZ Y 80 f3), (h4, aB Y 1600 f4), (h5, aI Y 200 f13), (h6, aI Y 800 f14)] sz) (QI D (fun (r : Int32) (u : WU) => (r = 0 ∨ r = 1)) (fun (u : WU) => [(h0, oC 13 [.ref h1, .ref h2, .int p2, .ref h3, .ref h4, .int (nI k5), .int (nI k6), .int p7, .int p8, .int p9, .int (nI k10), .int p11, .long q12, .ref h5, .ref h6, .int (nI k15), .int (nI k16)]), (h1, aI Y 3640 f0), (h2, aZ Y 2 f1), (h3, aZ Y 80 f3), (h4, aB Y 1600 f4), (h5, aI Y 200 f13), (h6, aI Y 800 f14)]) (va_A [(h0, oC 13 [.ref h1, .ref h2, .int p2, .ref h3, .ref h4, .int (nI k5), .int (nI k6), .int p7, .int p8, .int p9, .int (nI k10), .int p11, .long q12, .ref h5, .ref h6, .int (nI k15), .int (nI k16)]), (h1, aI Y 3640 f0), (h2, aZ Y 2 f1), (h3, aZ Y 80 f3), (h4, aB Y 1600 f4), (h5, aI Y 200 f13), (h6, aI Y 800 f14)] sz)) 0 0 (va_A [(h0, oC 13 [.ref h1, .ref h2, .int p2, .ref h3, .ref h4, .int (nI k5), .int (nI k6), .int p7, .int p8, .int p9, .int (nI k10), .int p11, .long q12, .ref h5, .ref h6, .int (nI k15), .int (nI k16)]), (h1, aI Y 3640 f0), (h2, aZ Y 2 f1), (h3, aZ Y 80 f3), (h4, aB Y 1600 f4), (h5, aI Y 200 f13), (h6, aI Y 800 f14)] sz) :=
  met_of (by decide +kernel) (Nat.le_of_ble_eq_true rfl) (fun p e s m args below meth c B hin hsz => by
    have B : VB p s m args meth c D Y (va_A [(h0, oC 13 [.ref h1, .ref h2, .int p2, .ref h3, .ref h4, .int (nI k5), .int (nI k6), .int p7, .int p8, .int p9, .int (nI k10), .int p11, .long q12, .ref h5, .ref h6, .int (nI k15), .int (nI k16)]), (h1, aI Y 3640 f0), (h2, aZ Y 2 f1), (h3, aZ Y 80 f3), (h4, aB Y 1600 f4), (h5, aI Y 200 f13), (h6, aI Y 800 f14)] sz) cX12_isLess 4 RX12 (some .boolean) := B
    have hq_s0 := hs0.1
    have hq_s1 := hs1.1
    refine V_aload_n 0 B dX12_isLess_0 0 rfl ?_
    refine V_iload_n 1 B dX12_isLess_1 1 rfl ?_
    refine V_iload_n 2 B dX12_isLess_2 2 rfl ?_
    refine V_cvi 3 B (st := []) (As := [.int (nI s0), .int (nI s1)]) (fun sz => rX12_commonOf l D Y h0 h1 h2 h3 h4 h5 h6 p2 k5 k6 p7 p8 p9 k10 p11 q12 k15 k16 f0 f1 f3 f4 f13 f14 HI (by omega) HP s0 s1 hs0 hs1 sz) glV_RX12_62 ⟨rfl, rfl⟩ ⟨(Nat.le_of_ble_eq_true rfl), (Nat.le_of_ble_eq_true rfl)⟩ ⟨(Nat.le_of_ble_eq_true rfl), (Nat.le_of_ble_eq_true rfl)⟩ [0, 0, 0, 0, 0, 0, 0] rfl 13 0 rfl rfl rfl rfl (Nat.le_of_ble_eq_true rfl) rfl (fun _ _ _ => rfl) dX12_isLess_3 (fun j0 u1 w2 => ?_)
    refine V_ws [(h0, oC 13 [.ref h1, .ref h2, .int p2, .ref h3, .ref h4, .int (nI k5), .int (nI k6), .int p7, .int p8, .int p9, .int (nI k10), .int p11, .long q12, .ref h5, .ref h6, .int (nI k15), .int (nI k16)]), (h1, aI Y 3640 f0), (h2, aZ Y 2 f1), (h3, aZ Y 80 f3), (h4, aB Y 1600 f4), (h5, aI Y 200 f13), (h6, aI Y 800 f14)] rfl ?_
    have x3 := w2
    obtain rfl := x3
    have x4 := kmV_le f0 s0 s1
    have x5 : gN f0 s0 ≤ 4 := gN_le HI (by omega) hs0.2.1
    have x6 : gN f0 s1 ≤ 4 := gN_le HI (by omega) hs1.2.1
    refine V_istore_n 6 B (lv2 := [(3, .int (nI (kmV f0 s0 s1))), (0, .ref h0), (1, .int (nI s0)), (2, .int (nI s1))]) dX12_isLess_6 (by decide) rfl ?_
    refine V_iload_n 7 B dX12_isLess_7 0 rfl ?_
    refine V_aload_n 8 B dX12_isLess_8 1 rfl ?_
    refine V_get 9 B gf_RX12_9 0 rfl rfl dX12_isLess_9 ?_
    refine V_iload_n 12 B dX12_isLess_12 2 rfl ?_
    have x7 : (gN f0 s0) ≤ 4 := gN_le HI (by omega) hs0.2.1
    refine V_iald 13 B (v := (nI (gN f0 s0))) 1 rfl (vp_in_nI (n := s0) (by omega) (by decide)) dX12_isLess_13 (by rw [nI_clamp (show s0 < 2 ^ 31 by omega)]; exact gN_eq HI (by omega) hs0.2.1) ?_
    refine V_icmp_ne 14 B 35 dX12_isLess_14 (by decide) (fun kk8 => ?_) (fun kk8 => ?_)
    ·
      have x9 := n_ne (a := (kmV f0 s0 s1)) (b := (gN f0 s0)) kk8
      refine V_iload_n 35 B dX12_isLess_35 0 rfl ?_
      refine V_aload_n 36 B dX12_isLess_36 1 rfl ?_
      refine V_get 37 B gf_RX12_9 0 rfl rfl dX12_isLess_37 ?_
      refine V_iload_n 40 B dX12_isLess_40 3 rfl ?_
      have x10 : (gN f0 s1) ≤ 4 := gN_le HI (by omega) hs1.2.1
      refine V_iald 41 B (v := (nI (gN f0 s1))) 1 rfl (vp_in_nI (n := s1) (by omega) (by decide)) dX12_isLess_41 (by rw [nI_clamp (show s1 < 2 ^ 31 by omega)]; exact gN_eq HI (by omega) hs1.2.1) ?_
      refine V_icmp_ge 42 B 72 dX12_isLess_42 (by decide) (fun kk11 => ?_) (fun kk11 => ?_)
      ·
        have x12 := n_le (a := (gN f0 s1)) (b := (kmV f0 s0 s1)) kk11 (by omega) (by omega)
        refine V_iconst 72 B (v := 0) dX12_isLess_72 (by decide +kernel) ?_
        exact V_zret 73 B rfl dX12_isLess_73 (mkW [] [] [] [] [] []) (Or.inl rfl) rfl
      ·
        have x13 := n_nle (a := (gN f0 s1)) (b := (kmV f0 s0 s1)) kk11 (by omega) (by omega)
        refine V_aload_n 45 B dX12_isLess_45 1 rfl ?_
        refine V_get 46 B gf_RX12_9 0 rfl rfl dX12_isLess_46 ?_
        refine V_iload_n 49 B dX12_isLess_49 2 rfl ?_
        refine V_iload_n 50 B dX12_isLess_50 0 rfl ?_
        refine V_iadd 51 B (v := (nI ((kmV f0 s0 s1) + s0))) dX12_isLess_51 (nI_addE (a := s0) (b := (kmV f0 s0 s1)) (by omega)) ?_
        refine V_iconst 52 B (v := 1) dX12_isLess_52 (by decide +kernel) ?_
        refine V_iadd 53 B (v := (nI (1 + (kmV f0 s0 s1) + s0))) dX12_isLess_53 (nI_addE (a := (kmV f0 s0 s1) + s0) (b := 1) (by omega)) ?_
        refine V_iald 54 B (v := f0 (1 + (kmV f0 s0 s1) + s0)) 1 rfl (vp_in_nI (n := 1 + (kmV f0 s0 s1) + s0) (by omega) (by decide)) dX12_isLess_54 (by rw [nI_clamp (show 1 + (kmV f0 s0 s1) + s0 < 2 ^ 31 by omega)]) ?_
        refine V_nmi (fun j14 e15 => ?_)
        refine V_aload_n 55 B dX12_isLess_55 1 rfl ?_
        refine V_get 56 B gf_RX12_9 0 rfl rfl dX12_isLess_56 ?_
        refine V_iload_n 59 B dX12_isLess_59 3 rfl ?_
        refine V_iload_n 60 B dX12_isLess_60 0 rfl ?_
        refine V_iadd 61 B (v := (nI ((kmV f0 s0 s1) + s1))) dX12_isLess_61 (nI_addE (a := s1) (b := (kmV f0 s0 s1)) (by omega)) ?_
        refine V_iconst 62 B (v := 1) dX12_isLess_62 (by decide +kernel) ?_
        refine V_iadd 63 B (v := (nI (1 + (kmV f0 s0 s1) + s1))) dX12_isLess_63 (nI_addE (a := (kmV f0 s0 s1) + s1) (b := 1) (by omega)) ?_
        refine V_iald 64 B (v := f0 (1 + (kmV f0 s0 s1) + s1)) 1 rfl (vp_in_nI (n := 1 + (kmV f0 s0 s1) + s1) (by omega) (by decide)) dX12_isLess_64 (by rw [nI_clamp (show 1 + (kmV f0 s0 s1) + s1 < 2 ^ 31 by omega)]) ?_
        refine V_nmi (fun j16 e17 => ?_)
        refine V_icmp_ge 65 B 72 dX12_isLess_65 (by decide) (fun kk18 => ?_) (fun kk18 => ?_)
        ·
          have x19 := x_le kk18
          refine V_iconst 72 B (v := 0) dX12_isLess_72 (by decide +kernel) ?_
          exact V_zret 73 B rfl dX12_isLess_73 (mkW [] [] [] [] [] []) (Or.inl rfl) rfl
        ·
          have x20 := x_nle kk18
          refine V_iconst 68 B (v := 1) dX12_isLess_68 (by decide +kernel) ?_
          refine V_goto 69 B 73 dX12_isLess_69 (by decide) ?_
          exact V_zret 73 B rfl dX12_isLess_73 (mkW [] [] [] [] [] []) (Or.inr rfl) rfl
    ·
      have x21 := n_eq (a := (kmV f0 s0 s1)) (b := (gN f0 s0)) kk8 (by omega) (by omega)
      refine V_aload_n 17 B dX12_isLess_17 1 rfl ?_
      refine V_get 18 B gf_RX12_9 0 rfl rfl dX12_isLess_18 ?_
      refine V_iload_n 21 B dX12_isLess_21 3 rfl ?_
      have x22 : (gN f0 s1) ≤ 4 := gN_le HI (by omega) hs1.2.1
      refine V_iald 22 B (v := (nI (gN f0 s1))) 1 rfl (vp_in_nI (n := s1) (by omega) (by decide)) dX12_isLess_22 (by rw [nI_clamp (show s1 < 2 ^ 31 by omega)]; exact gN_eq HI (by omega) hs1.2.1) ?_
      refine V_iload_n 23 B dX12_isLess_23 0 rfl ?_
      refine V_icmp_le 24 B 31 dX12_isLess_24 (by decide) (fun kk23 => ?_) (fun kk23 => ?_)
      ·
        have x24 := n_le (a := (gN f0 s1)) (b := (kmV f0 s0 s1)) kk23 (by omega) (by omega)
        refine V_iconst 31 B (v := 0) dX12_isLess_31 (by decide +kernel) ?_
        refine V_goto 32 B 73 dX12_isLess_32 (by decide) ?_
        exact V_zret 73 B rfl dX12_isLess_73 (mkW [] [] [] [] [] []) (Or.inl rfl) rfl
      ·
        have x25 := n_nle (a := (gN f0 s1)) (b := (kmV f0 s0 s1)) kk23 (by omega) (by omega)
        refine V_iconst 27 B (v := 1) dX12_isLess_27 (by decide +kernel) ?_
        refine V_goto 28 B 73 dX12_isLess_28 (by decide) ?_
        exact V_zret 73 B rfl dX12_isLess_73 (mkW [] [] [] [] [] []) (Or.inr rfl) rfl)
theorem dX12_strokeAt_0 : decode cX12_strokeAt 0 = .ok (.iload_n 2, 1) := by decide +kernel
theorem dX12_strokeAt_1 : decode cX12_strokeAt 1 = .ok (.i2l, 1) := by decide +kernel
theorem dX12_strokeAt_2 : decode cX12_strokeAt 2 = .ok (.lconst 0, 1) := by decide +kernel
theorem dX12_strokeAt_3 : decode cX12_strokeAt 3 = .ok (.aload_n 0, 1) := by decide +kernel
theorem dX12_strokeAt_4 : decode cX12_strokeAt 4 = .ok (.getfield 9, 3) := by decide +kernel
theorem dX12_strokeAt_7 : decode cX12_strokeAt 7 = .ok (.iload_n 1, 1) := by decide +kernel
theorem dX12_strokeAt_8 : decode cX12_strokeAt 8 = .ok (.iaload, 1) := by decide +kernel
theorem dX12_strokeAt_9 : decode cX12_strokeAt 9 = .ok (.iconst 1, 1) := by decide +kernel
theorem dX12_strokeAt_10 : decode cX12_strokeAt 10 = .ok (.isub, 1) := by decide +kernel
theorem dX12_strokeAt_11 : decode cX12_strokeAt 11 = .ok (.i2l, 1) := by decide +kernel
theorem dX12_strokeAt_12 : decode cX12_strokeAt 12 = .ok (.invokestatic 41, 3) := by decide +kernel
theorem dX12_strokeAt_15 : decode cX12_strokeAt 15 = .ok (.ifCond .eq 16, 3) := by decide +kernel
theorem dX12_strokeAt_31 : decode cX12_strokeAt 31 = .ok (.iconst (-1), 1) := by decide +kernel
theorem dX12_strokeAt_32 : decode cX12_strokeAt 32 = .ok (.ireturn, 1) := by decide +kernel
theorem dX12_strokeAt_18 : decode cX12_strokeAt 18 = .ok (.aload_n 0, 1) := by decide +kernel
theorem dX12_strokeAt_19 : decode cX12_strokeAt 19 = .ok (.getfield 9, 3) := by decide +kernel
theorem dX12_strokeAt_22 : decode cX12_strokeAt 22 = .ok (.iload_n 1, 1) := by decide +kernel
theorem dX12_strokeAt_23 : decode cX12_strokeAt 23 = .ok (.iload_n 2, 1) := by decide +kernel
theorem dX12_strokeAt_24 : decode cX12_strokeAt 24 = .ok (.iadd, 1) := by decide +kernel
theorem dX12_strokeAt_25 : decode cX12_strokeAt 25 = .ok (.iconst 1, 1) := by decide +kernel
theorem dX12_strokeAt_26 : decode cX12_strokeAt 26 = .ok (.iadd, 1) := by decide +kernel
theorem dX12_strokeAt_27 : decode cX12_strokeAt 27 = .ok (.iaload, 1) := by decide +kernel
theorem dX12_strokeAt_28 : decode cX12_strokeAt 28 = .ok (.goto 4, 3) := by decide +kernel
set_option maxRecDepth 100000 in
set_option maxHeartbeats 4000000 in
theorem rX12_strokeAt (l : Launch) (D : va_G) (Y : Nat → ClassId) (h0 : Nat) (h1 : Nat) (h2 : Nat) (h3 : Nat) (h4 : Nat) (h5 : Nat) (h6 : Nat) (p2 : Int32) (k5 : Nat) (k6 : Nat) (p7 : Int32) (p8 : Int32) (p9 : Int32) (k10 : Nat) (p11 : Int32) (q12 : Int64) (k15 : Nat) (k16 : Nat) (f0 : Nat → Int32) (f1 : Nat → Int32) (f3 : Nat → Int32) (f4 : Nat → Int32) (f13 : Nat → Int32) (f14 : Nat → Int32) (HI : INV f0) (HL : k5 ≤ 1600) (HP : PLV f13) (s0 : Nat) (s1 : Int32) (hs0 : SQ s0) (sz : Nat) : Met l yX12_strokeAt (WSm yX12_strokeAt cX12_strokeAt 3 (some .int)) (mkR 1 0 0 25) (PreC D Y [.ref h0, .int (nI s0), .int s1] [(h0, oC 13 [.ref h1, .ref h2, .int p2, .ref h3, .ref h4, .int (nI k5), .int (nI k6), .int p7, .int p8, .int p9, .int (nI k10), .int p11, .long q12, .ref h5, .ref h6, .int (nI k15), .int (nI k16)]), (h1, aI Y 3640 f0), (h2, aZ Y 2 f1), (h3, aZ Y 80 f3), (h4, aB Y 1600 f4), (h5, aI Y 200 f13), (h6, aI Y 800 f14)] sz) (QI D (fun (r : Int32) (u : WU) => True) (fun (u : WU) => [(h0, oC 13 [.ref h1, .ref h2, .int p2, .ref h3, .ref h4, .int (nI k5), .int (nI k6), .int p7, .int p8, .int p9, .int (nI k10), .int p11, .long q12, .ref h5, .ref h6, .int (nI k15), .int (nI k16)]), (h1, aI Y 3640 f0), (h2, aZ Y 2 f1), (h3, aZ Y 80 f3), (h4, aB Y 1600 f4), (h5, aI Y 200 f13), (h6, aI Y 800 f14)]) (va_A [(h0, oC 13 [.ref h1, .ref h2, .int p2, .ref h3, .ref h4, .int (nI k5), .int (nI k6), .int p7, .int p8, .int p9, .int (nI k10), .int p11, .long q12, .ref h5, .ref h6, .int (nI k15), .int (nI k16)]), (h1, aI Y 3640 f0), (h2, aZ Y 2 f1), (h3, aZ Y 80 f3), (h4, aB Y 1600 f4), (h5, aI Y 200 f13), (h6, aI Y 800 f14)] sz)) 0 0 (va_A [(h0, oC 13 [.ref h1, .ref h2, .int p2, .ref h3, .ref h4, .int (nI k5), .int (nI k6), .int p7, .int p8, .int p9, .int (nI k10), .int p11, .long q12, .ref h5, .ref h6, .int (nI k15), .int (nI k16)]), (h1, aI Y 3640 f0), (h2, aZ Y 2 f1), (h3, aZ Y 80 f3), (h4, aB Y 1600 f4), (h5, aI Y 200 f13), (h6, aI Y 800 f14)] sz) :=
  met_of (by decide +kernel) (Nat.le_of_ble_eq_true rfl) (fun p e s m args below meth c B hin hsz => by
    have B : VB p s m args meth c D Y (va_A [(h0, oC 13 [.ref h1, .ref h2, .int p2, .ref h3, .ref h4, .int (nI k5), .int (nI k6), .int p7, .int p8, .int p9, .int (nI k10), .int p11, .long q12, .ref h5, .ref h6, .int (nI k15), .int (nI k16)]), (h1, aI Y 3640 f0), (h2, aZ Y 2 f1), (h3, aZ Y 80 f3), (h4, aB Y 1600 f4), (h5, aI Y 200 f13), (h6, aI Y 800 f14)] sz) cX12_strokeAt 3 RX12 (some .int) := B
    have hq_s0 := hs0.1
    refine V_iload_n 0 B dX12_strokeAt_0 2 rfl ?_
    refine V_i2l 1 B dX12_strokeAt_1 rfl ?_
    refine V_nml (fun o0 e1 => ?_)
    have x2 : o0.toInt = s1.toInt := by rw [e1, Int32.toInt_toInt64]
    refine V_lconst 2 B (v := 0) dX12_strokeAt_2 (by decide +kernel) ?_
    refine V_aload_n 3 B dX12_strokeAt_3 0 rfl ?_
    refine V_get 4 B gf_RX12_9 0 rfl rfl dX12_strokeAt_4 ?_
    refine V_iload_n 7 B dX12_strokeAt_7 1 rfl ?_
    have x3 : (gN f0 s0) ≤ 4 := gN_le HI (by omega) hs0.2.1
    refine V_iald 8 B (v := (nI (gN f0 s0))) 1 rfl (vp_in_nI (n := s0) (by omega) (by decide)) dX12_strokeAt_8 (by rw [nI_clamp (show s0 < 2 ^ 31 by omega)]; exact gN_eq HI (by omega) hs0.2.1) ?_
    refine V_iconst 9 B (v := 1) dX12_strokeAt_9 (by decide +kernel) ?_
    refine V_isub 10 B dX12_strokeAt_10 rfl ?_
    refine V_nmi (fun j4 e5 => ?_)
    have x6 : j4.toInt = (((gN f0 s0) : Nat) : Int) - ((1 : Nat) : Int) := by rw [e5]; exact nI_subT (a := (gN f0 s0)) (b := 1) (by omega) (by omega)
    refine V_i2l 11 B dX12_strokeAt_11 rfl ?_
    refine V_nml (fun o7 e8 => ?_)
    have x9 : o7.toInt = j4.toInt := by rw [e8, Int32.toInt_toInt64]
    refine V_csi 12 B (st := []) (As := [.long o0, .long 0, .long o7]) (fun sz => rX12_inRange l D Y o0 0 o7 sz) glS_RX12_41 ⟨rfl, rfl⟩ ⟨(Nat.le_of_ble_eq_true rfl), (Nat.le_of_ble_eq_true rfl)⟩ ⟨(Nat.le_of_ble_eq_true rfl), (Nat.le_of_ble_eq_true rfl)⟩ [] rfl rfl (Nat.le_of_ble_eq_true rfl) rfl (fun _ _ _ => rfl) dX12_strokeAt_12 (fun j10 u11 w12 => ?_)
    refine V_ws [(h0, oC 13 [.ref h1, .ref h2, .int p2, .ref h3, .ref h4, .int (nI k5), .int (nI k6), .int p7, .int p8, .int p9, .int (nI k10), .int p11, .long q12, .ref h5, .ref h6, .int (nI k15), .int (nI k16)]), (h1, aI Y 3640 f0), (h2, aZ Y 2 f1), (h3, aZ Y 80 f3), (h4, aB Y 1600 f4), (h5, aI Y 200 f13), (h6, aI Y 800 f14)] rfl ?_
    rcases w12 with rfl | ⟨rfl, x13, x14⟩
    ·
      refine V_if_eq_t 15 B 31 dX12_strokeAt_15 (by decide) (by decide +kernel) ?_
      refine V_iconst 31 B (v := (-1)) dX12_strokeAt_31 (by decide +kernel) ?_
      exact V_iret 32 B dX12_strokeAt_32 (mkW [] [] [] [] [] []) trivial rfl
    ·
      rw [show (0 : Int64).toInt = 0 by decide +kernel] at x13
      refine V_if_eq_f 15 B 31 dX12_strokeAt_15 (by decide) (by decide +kernel) ?_
      refine V_aload_n 18 B dX12_strokeAt_18 0 rfl ?_
      refine V_get 19 B gf_RX12_9 0 rfl rfl dX12_strokeAt_19 ?_
      refine V_iload_n 22 B dX12_strokeAt_22 1 rfl ?_
      refine V_iload_n 23 B dX12_strokeAt_23 2 rfl ?_
      obtain ⟨n15, x16, rfl⟩ := nat_of (x := s1) (n := 3) (by omega) (by omega)
      have e17 := nI_toInt (show n15 < 2 ^ 31 by omega)
      refine V_iadd 24 B (v := (nI (n15 + s0))) dX12_strokeAt_24 (nI_addE (a := s0) (b := n15) (by omega)) ?_
      refine V_iconst 25 B (v := 1) dX12_strokeAt_25 (by decide +kernel) ?_
      refine V_iadd 26 B (v := (nI (1 + n15 + s0))) dX12_strokeAt_26 (nI_addE (a := n15 + s0) (b := 1) (by omega)) ?_
      refine V_iald 27 B (v := f0 (1 + n15 + s0)) 1 rfl (vp_in_nI (n := 1 + n15 + s0) (by omega) (by decide)) dX12_strokeAt_27 (by rw [nI_clamp (show 1 + n15 + s0 < 2 ^ 31 by omega)]) ?_
      refine V_nmi (fun j18 e19 => ?_)
      refine V_goto 28 B 32 dX12_strokeAt_28 (by decide) ?_
      exact V_iret 32 B dX12_strokeAt_32 (mkW [] [] [] [] [] []) trivial rfl)
theorem dX12_hasNoDraft_0 : decode cX12_hasNoDraft 0 = .ok (.aload_n 0, 1) := by decide +kernel
theorem dX12_hasNoDraft_1 : decode cX12_hasNoDraft 1 = .ok (.getfield 9, 3) := by decide +kernel
theorem dX12_hasNoDraft_4 : decode cX12_hasNoDraft 4 = .ok (.sipush 3624, 3) := by decide +kernel
theorem dX12_hasNoDraft_7 : decode cX12_hasNoDraft 7 = .ok (.iaload, 1) := by decide +kernel
theorem dX12_hasNoDraft_8 : decode cX12_hasNoDraft 8 = .ok (.ifCond .ne 7, 3) := by decide +kernel
theorem dX12_hasNoDraft_15 : decode cX12_hasNoDraft 15 = .ok (.iconst 0, 1) := by decide +kernel
theorem dX12_hasNoDraft_16 : decode cX12_hasNoDraft 16 = .ok (.ireturn, 1) := by decide +kernel
theorem dX12_hasNoDraft_11 : decode cX12_hasNoDraft 11 = .ok (.iconst 1, 1) := by decide +kernel
theorem dX12_hasNoDraft_12 : decode cX12_hasNoDraft 12 = .ok (.goto 4, 3) := by decide +kernel
set_option maxRecDepth 100000 in
set_option maxHeartbeats 4000000 in
theorem rX12_hasNoDraft (l : Launch) (D : va_G) (Y : Nat → ClassId) (h0 : Nat) (h1 : Nat) (h2 : Nat) (h3 : Nat) (h4 : Nat) (h5 : Nat) (h6 : Nat) (p2 : Int32) (k5 : Nat) (k6 : Nat) (p7 : Int32) (p8 : Int32) (p9 : Int32) (k10 : Nat) (p11 : Int32) (q12 : Int64) (k15 : Nat) (k16 : Nat) (f0 : Nat → Int32) (f1 : Nat → Int32) (f3 : Nat → Int32) (f4 : Nat → Int32) (f13 : Nat → Int32) (f14 : Nat → Int32) (HI : INV f0) (HL : k5 ≤ 1600) (HP : PLV f13)   (sz : Nat) : Met l yX12_hasNoDraft (WSm yX12_hasNoDraft cX12_hasNoDraft 1 (some .boolean)) (mkR 0 0 0 0) (PreC D Y [.ref h0] [(h0, oC 13 [.ref h1, .ref h2, .int p2, .ref h3, .ref h4, .int (nI k5), .int (nI k6), .int p7, .int p8, .int p9, .int (nI k10), .int p11, .long q12, .ref h5, .ref h6, .int (nI k15), .int (nI k16)]), (h1, aI Y 3640 f0), (h2, aZ Y 2 f1), (h3, aZ Y 80 f3), (h4, aB Y 1600 f4), (h5, aI Y 200 f13), (h6, aI Y 800 f14)] sz) (QI D (fun (r : Int32) (u : WU) => (r = 0 ∨ r = 1)) (fun (u : WU) => [(h0, oC 13 [.ref h1, .ref h2, .int p2, .ref h3, .ref h4, .int (nI k5), .int (nI k6), .int p7, .int p8, .int p9, .int (nI k10), .int p11, .long q12, .ref h5, .ref h6, .int (nI k15), .int (nI k16)]), (h1, aI Y 3640 f0), (h2, aZ Y 2 f1), (h3, aZ Y 80 f3), (h4, aB Y 1600 f4), (h5, aI Y 200 f13), (h6, aI Y 800 f14)]) (va_A [(h0, oC 13 [.ref h1, .ref h2, .int p2, .ref h3, .ref h4, .int (nI k5), .int (nI k6), .int p7, .int p8, .int p9, .int (nI k10), .int p11, .long q12, .ref h5, .ref h6, .int (nI k15), .int (nI k16)]), (h1, aI Y 3640 f0), (h2, aZ Y 2 f1), (h3, aZ Y 80 f3), (h4, aB Y 1600 f4), (h5, aI Y 200 f13), (h6, aI Y 800 f14)] sz)) 0 0 (va_A [(h0, oC 13 [.ref h1, .ref h2, .int p2, .ref h3, .ref h4, .int (nI k5), .int (nI k6), .int p7, .int p8, .int p9, .int (nI k10), .int p11, .long q12, .ref h5, .ref h6, .int (nI k15), .int (nI k16)]), (h1, aI Y 3640 f0), (h2, aZ Y 2 f1), (h3, aZ Y 80 f3), (h4, aB Y 1600 f4), (h5, aI Y 200 f13), (h6, aI Y 800 f14)] sz) :=
  met_of (by decide +kernel) (Nat.le_of_ble_eq_true rfl) (fun p e s m args below meth c B hin hsz => by
    have B : VB p s m args meth c D Y (va_A [(h0, oC 13 [.ref h1, .ref h2, .int p2, .ref h3, .ref h4, .int (nI k5), .int (nI k6), .int p7, .int p8, .int p9, .int (nI k10), .int p11, .long q12, .ref h5, .ref h6, .int (nI k15), .int (nI k16)]), (h1, aI Y 3640 f0), (h2, aZ Y 2 f1), (h3, aZ Y 80 f3), (h4, aB Y 1600 f4), (h5, aI Y 200 f13), (h6, aI Y 800 f14)] sz) cX12_hasNoDraft 1 RX12 (some .boolean) := B
    refine V_aload_n 0 B dX12_hasNoDraft_0 0 rfl ?_
    refine V_get 1 B gf_RX12_9 0 rfl rfl dX12_hasNoDraft_1 ?_
    refine V_sipush 4 B (v := 3624) dX12_hasNoDraft_4 (by decide +kernel) ?_
    have x0 : (gN f0 3624) ≤ 4 := gN_le HI (by omega) (show bd 3624 = (0, ((4 : Nat) : Int)) by decide +kernel)
    refine V_iald 7 B (v := (nI (gN f0 3624))) 1 rfl (vpin _ _ (by decide +kernel)) dX12_hasNoDraft_7 (by show f0 3624 = _; exact gN_eq HI (by omega) (show bd 3624 = (0, ((4 : Nat) : Int)) by decide +kernel)) ?_
    refine V_if_ne 8 B 15 dX12_hasNoDraft_8 (by decide) (fun kk1 => ?_) (fun kk1 => ?_)
    ·
      have x2 := n_ne (a := (gN f0 3624)) (b := 0) kk1
      refine V_iconst 15 B (v := 0) dX12_hasNoDraft_15 (by decide +kernel) ?_
      exact V_zret 16 B rfl dX12_hasNoDraft_16 (mkW [] [] [] [] [] []) (Or.inl rfl) rfl
    ·
      have x3 := n_eq (a := (gN f0 3624)) (b := 0) kk1 (by omega) (by omega)
      refine V_iconst 11 B (v := 1) dX12_hasNoDraft_11 (by decide +kernel) ?_
      refine V_goto 12 B 16 dX12_hasNoDraft_12 (by decide) ?_
      exact V_zret 16 B rfl dX12_hasNoDraft_16 (mkW [] [] [] [] [] []) (Or.inr rfl) rfl)
theorem dX12_draft_0 : decode cX12_draft 0 = .ok (.aload_n 0, 1) := by decide +kernel
theorem dX12_draft_1 : decode cX12_draft 1 = .ok (.iconst 0, 1) := by decide +kernel
theorem dX12_draft_2 : decode cX12_draft 2 = .ok (.putfield 38, 3) := by decide +kernel
theorem dX12_draft_5 : decode cX12_draft 5 = .ok (.aload_n 0, 1) := by decide +kernel
theorem dX12_draft_6 : decode cX12_draft 6 = .ok (.iload_n 1, 1) := by decide +kernel
theorem dX12_draft_7 : decode cX12_draft 7 = .ok (.invokestatic 65, 3) := by decide +kernel
theorem glS_RX12_65 : GLS RX12 65 yX12_isStroke cX12_isStroke 1 (some .boolean) 1 := ⟨⟨(mT7 209 rfl rfl), (mT7 210 rfl rfl), (mT1 13 rfl rfl), (mT7 211 rfl rfl)⟩, by decide +kernel⟩
theorem dX12_draft_10 : decode cX12_draft 10 = .ok (.ifCond .ne 7, 3) := by decide +kernel
theorem dX12_draft_13 : decode cX12_draft 13 = .ok (.iconst 1, 1) := by decide +kernel
theorem dX12_draft_14 : decode cX12_draft 14 = .ok (.goto 4, 3) := by decide +kernel
theorem dX12_draft_18 : decode cX12_draft 18 = .ok (.iconst 1, 1) := by decide +kernel
theorem dX12_draft_19 : decode cX12_draft 19 = .ok (.invokevirtual 69, 3) := by decide +kernel
theorem dX12_throwsIf_0 : decode cX12_throwsIf 0 = .ok (.iload_n 1, 1) := by decide +kernel
theorem dX12_throwsIf_1 : decode cX12_throwsIf 1 = .ok (.ifCond .eq 8, 3) := by decide +kernel
theorem dX12_throwsIf_4 : decode cX12_throwsIf 4 = .ok (.aload_n 0, 1) := by decide +kernel
theorem dX12_throwsIf_5 : decode cX12_throwsIf 5 = .ok (.iload_n 2, 1) := by decide +kernel
theorem dX12_throwsIf_6 : decode cX12_throwsIf 6 = .ok (.putfield 38, 3) := by decide +kernel
theorem dX12_throwsIf_9 : decode cX12_throwsIf 9 = .ok (.iload_n 1, 1) := by decide +kernel
theorem dX12_throwsIf_10 : decode cX12_throwsIf 10 = .ok (.ireturn, 1) := by decide +kernel
set_option maxRecDepth 100000 in
set_option maxHeartbeats 4000000 in
theorem rX12_throwsIf_1 (l : Launch) (D : va_G) (Y : Nat → ClassId) (h0 : Nat) (h1 : Nat) (h2 : Nat) (h3 : Nat) (h4 : Nat) (h5 : Nat) (h6 : Nat) (p2 : Int32) (k5 : Nat) (k6 : Nat) (p7 : Int32) (p8 : Int32) (p9 : Int32) (k10 : Nat) (p11 : Int32) (q12 : Int64) (k15 : Nat) (k16 : Nat) (f0 : Nat → Int32) (f1 : Nat → Int32) (f3 : Nat → Int32) (f4 : Nat → Int32) (f13 : Nat → Int32) (f14 : Nat → Int32) (HI : INV f0) (HL : k5 ≤ 1600) (HP : PLV f13) (s1 : Int32)  (sz : Nat) : Met l yX12_throwsIf (WSm yX12_throwsIf cX12_throwsIf 3 (some .boolean)) (mkR 0 0 0 0) (PreC D Y [.ref h0, .int 1, .int s1] [(h0, oC 13 [.ref h1, .ref h2, .int p2, .ref h3, .ref h4, .int (nI k5), .int (nI k6), .int p7, .int p8, .int p9, .int (nI k10), .int p11, .long q12, .ref h5, .ref h6, .int (nI k15), .int (nI k16)]), (h1, aI Y 3640 f0), (h2, aZ Y 2 f1), (h3, aZ Y 80 f3), (h4, aB Y 1600 f4), (h5, aI Y 200 f13), (h6, aI Y 800 f14)] sz) (QI D (fun (r : Int32) (u : WU) => r = 1) (fun (u : WU) => [(h0, oC 13 [.ref h1, .ref h2, .int (u.2.1 0), .ref h3, .ref h4, .int (nI k5), .int (nI k6), .int p7, .int p8, .int p9, .int (nI k10), .int p11, .long q12, .ref h5, .ref h6, .int (nI k15), .int (nI k16)]), (h1, aI Y 3640 f0), (h2, aZ Y 2 f1), (h3, aZ Y 80 f3), (h4, aB Y 1600 f4), (h5, aI Y 200 f13), (h6, aI Y 800 f14)]) (va_A [(h0, oC 13 [.ref h1, .ref h2, .int p2, .ref h3, .ref h4, .int (nI k5), .int (nI k6), .int p7, .int p8, .int p9, .int (nI k10), .int p11, .long q12, .ref h5, .ref h6, .int (nI k15), .int (nI k16)]), (h1, aI Y 3640 f0), (h2, aZ Y 2 f1), (h3, aZ Y 80 f3), (h4, aB Y 1600 f4), (h5, aI Y 200 f13), (h6, aI Y 800 f14)] sz)) 0 0 (va_A [(h0, oC 13 [.ref h1, .ref h2, .int p2, .ref h3, .ref h4, .int (nI k5), .int (nI k6), .int p7, .int p8, .int p9, .int (nI k10), .int p11, .long q12, .ref h5, .ref h6, .int (nI k15), .int (nI k16)]), (h1, aI Y 3640 f0), (h2, aZ Y 2 f1), (h3, aZ Y 80 f3), (h4, aB Y 1600 f4), (h5, aI Y 200 f13), (h6, aI Y 800 f14)] sz) :=
  met_of (by decide +kernel) (Nat.le_of_ble_eq_true rfl) (fun p e s m args below meth c B hin hsz => by
    have B : VB p s m args meth c D Y (va_A [(h0, oC 13 [.ref h1, .ref h2, .int p2, .ref h3, .ref h4, .int (nI k5), .int (nI k6), .int p7, .int p8, .int p9, .int (nI k10), .int p11, .long q12, .ref h5, .ref h6, .int (nI k15), .int (nI k16)]), (h1, aI Y 3640 f0), (h2, aZ Y 2 f1), (h3, aZ Y 80 f3), (h4, aB Y 1600 f4), (h5, aI Y 200 f13), (h6, aI Y 800 f14)] sz) cX12_throwsIf 3 RX12 (some .boolean) := B
    refine V_iload_n 0 B dX12_throwsIf_0 1 rfl ?_
    refine V_if_eq_f 1 B 9 dX12_throwsIf_1 (by decide) (by decide +kernel) ?_
    refine V_aload_n 4 B dX12_throwsIf_4 0 rfl ?_
    refine V_iload_n 5 B dX12_throwsIf_5 2 rfl ?_
    refine V_put 6 B gp_RX12_38 0 rfl (Nat.le_of_ble_eq_true rfl) rfl rfl dX12_throwsIf_6 [(h0, oC 13 [.ref h1, .ref h2, .int s1, .ref h3, .ref h4, .int (nI k5), .int (nI k6), .int p7, .int p8, .int p9, .int (nI k10), .int p11, .long q12, .ref h5, .ref h6, .int (nI k15), .int (nI k16)]), (h1, aI Y 3640 f0), (h2, aZ Y 2 f1), (h3, aZ Y 80 f3), (h4, aB Y 1600 f4), (h5, aI Y 200 f13), (h6, aI Y 800 f14)] rfl ?_
    refine V_iload_n 9 B dX12_throwsIf_9 1 rfl ?_
    exact V_zret 10 B rfl dX12_throwsIf_10 (mkW [] [s1] [] [] [] []) rfl rfl)
