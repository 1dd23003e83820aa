theorem dX12_readPlayed_0 : decode cX12_readPlayed 0 = .ok (.aload_n 0, 1) := by decide +kernel
theorem dX12_readPlayed_1 : decode cX12_readPlayed 1 = .ok (.invokevirtual 364, 3) := by decide +kernel
theorem dX12_commandHere_0 : decode cX12_commandHere 0 = .ok (.aload_n 0, 1) := by decide +kernel
theorem dX12_commandHere_1 : decode cX12_commandHere 1 = .ok (.bipush 112, 2) := by decide +kernel
theorem dX12_commandHere_3 : decode cX12_commandHere 3 = .ok (.bipush 114, 2) := by decide +kernel
theorem dX12_commandHere_5 : decode cX12_commandHere 5 = .ok (.bipush 101, 2) := by decide +kernel
theorem dX12_commandHere_7 : decode cX12_commandHere 7 = .ok (.bipush 115, 2) := by decide +kernel
theorem dX12_commandHere_9 : decode cX12_commandHere 9 = .ok (.bipush 115, 2) := by decide +kernel
theorem dX12_commandHere_11 : decode cX12_commandHere 11 = .ok (.iconst 0, 1) := by decide +kernel
theorem dX12_commandHere_12 : decode cX12_commandHere 12 = .ok (.invokestatic 319, 3) := by decide +kernel
theorem dX12_commandHere_15 : decode cX12_commandHere 15 = .ok (.invokevirtual 323, 3) := by decide +kernel
theorem dX12_commandHere_18 : decode cX12_commandHere 18 = .ok (.ifCond .eq 5, 3) := by decide +kernel
theorem dX12_commandHere_23 : decode cX12_commandHere 23 = .ok (.aload_n 0, 1) := by decide +kernel
theorem dX12_commandHere_24 : decode cX12_commandHere 24 = .ok (.bipush 114, 2) := by decide +kernel
theorem dX12_commandHere_26 : decode cX12_commandHere 26 = .ok (.bipush 101, 2) := by decide +kernel
theorem dX12_commandHere_28 : decode cX12_commandHere 28 = .ok (.bipush 108, 2) := by decide +kernel
theorem dX12_commandHere_30 : decode cX12_commandHere 30 = .ok (.bipush 101, 2) := by decide +kernel
theorem dX12_commandHere_32 : decode cX12_commandHere 32 = .ok (.bipush 97, 2) := by decide +kernel
theorem dX12_commandHere_34 : decode cX12_commandHere 34 = .ok (.bipush 115, 2) := by decide +kernel
theorem dX12_commandHere_36 : decode cX12_commandHere 36 = .ok (.invokestatic 319, 3) := by decide +kernel
theorem dX12_commandHere_39 : decode cX12_commandHere 39 = .ok (.bipush 7, 2) := by decide +kernel
theorem dX12_commandHere_41 : decode cX12_commandHere 41 = .ok (.lshl, 1) := by decide +kernel
theorem dX12_commandHere_42 : decode cX12_commandHere 42 = .ok (.ldc2_w 333, 3) := by decide +kernel
theorem dX12_commandHere_45 : decode cX12_commandHere 45 = .ok (.lor, 1) := by decide +kernel
theorem dX12_commandHere_46 : decode cX12_commandHere 46 = .ok (.invokevirtual 323, 3) := by decide +kernel
theorem dX12_commandHere_49 : decode cX12_commandHere 49 = .ok (.ifCond .eq 5, 3) := by decide +kernel
theorem dX12_commandHere_54 : decode cX12_commandHere 54 = .ok (.aload_n 0, 1) := by decide +kernel
theorem dX12_commandHere_55 : decode cX12_commandHere 55 = .ok (.bipush 104, 2) := by decide +kernel
theorem dX12_commandHere_57 : decode cX12_commandHere 57 = .ok (.bipush 111, 2) := by decide +kernel
theorem dX12_commandHere_59 : decode cX12_commandHere 59 = .ok (.bipush 108, 2) := by decide +kernel
theorem dX12_commandHere_61 : decode cX12_commandHere 61 = .ok (.bipush 100, 2) := by decide +kernel
theorem dX12_commandHere_63 : decode cX12_commandHere 63 = .ok (.iconst 0, 1) := by decide +kernel
theorem dX12_commandHere_64 : decode cX12_commandHere 64 = .ok (.iconst 0, 1) := by decide +kernel
theorem dX12_commandHere_65 : decode cX12_commandHere 65 = .ok (.invokestatic 319, 3) := by decide +kernel
theorem dX12_commandHere_68 : decode cX12_commandHere 68 = .ok (.invokevirtual 323, 3) := by decide +kernel
theorem dX12_commandHere_71 : decode cX12_commandHere 71 = .ok (.ifCond .eq 5, 3) := by decide +kernel
theorem dX12_commandHere_76 : decode cX12_commandHere 76 = .ok (.aload_n 0, 1) := by decide +kernel
theorem dX12_commandHere_77 : decode cX12_commandHere 77 = .ok (.bipush 116, 2) := by decide +kernel
theorem dX12_commandHere_79 : decode cX12_commandHere 79 = .ok (.bipush 105, 2) := by decide +kernel
theorem dX12_commandHere_81 : decode cX12_commandHere 81 = .ok (.bipush 99, 2) := by decide +kernel
theorem dX12_commandHere_83 : decode cX12_commandHere 83 = .ok (.bipush 107, 2) := by decide +kernel
theorem dX12_commandHere_85 : decode cX12_commandHere 85 = .ok (.iconst 0, 1) := by decide +kernel
theorem dX12_commandHere_86 : decode cX12_commandHere 86 = .ok (.iconst 0, 1) := by decide +kernel
theorem dX12_commandHere_87 : decode cX12_commandHere 87 = .ok (.invokestatic 319, 3) := by decide +kernel
theorem dX12_commandHere_90 : decode cX12_commandHere 90 = .ok (.invokevirtual 323, 3) := by decide +kernel
theorem dX12_commandHere_93 : decode cX12_commandHere 93 = .ok (.ifCond .eq 5, 3) := by decide +kernel
theorem dX12_commandHere_98 : decode cX12_commandHere 98 = .ok (.aload_n 0, 1) := by decide +kernel
theorem dX12_commandHere_99 : decode cX12_commandHere 99 = .ok (.bipush 117, 2) := by decide +kernel
theorem dX12_commandHere_101 : decode cX12_commandHere 101 = .ok (.bipush 110, 2) := by decide +kernel
theorem dX12_commandHere_103 : decode cX12_commandHere 103 = .ok (.bipush 98, 2) := by decide +kernel
theorem dX12_commandHere_105 : decode cX12_commandHere 105 = .ok (.bipush 105, 2) := by decide +kernel
theorem dX12_commandHere_107 : decode cX12_commandHere 107 = .ok (.bipush 110, 2) := by decide +kernel
theorem dX12_commandHere_109 : decode cX12_commandHere 109 = .ok (.bipush 100, 2) := by decide +kernel
theorem dX12_commandHere_111 : decode cX12_commandHere 111 = .ok (.invokestatic 319, 3) := by decide +kernel
theorem dX12_commandHere_114 : decode cX12_commandHere 114 = .ok (.invokevirtual 323, 3) := by decide +kernel
theorem dX12_commandHere_117 : decode cX12_commandHere 117 = .ok (.ifCond .eq 5, 3) := by decide +kernel
theorem dX12_commandHere_122 : decode cX12_commandHere 122 = .ok (.aload_n 0, 1) := by decide +kernel
theorem dX12_commandHere_123 : decode cX12_commandHere 123 = .ok (.bipush 116, 2) := by decide +kernel
theorem dX12_commandHere_125 : decode cX12_commandHere 125 = .ok (.bipush 121, 2) := by decide +kernel
theorem dX12_commandHere_127 : decode cX12_commandHere 127 = .ok (.bipush 112, 2) := by decide +kernel
theorem dX12_commandHere_129 : decode cX12_commandHere 129 = .ok (.bipush 101, 2) := by decide +kernel
theorem dX12_commandHere_131 : decode cX12_commandHere 131 = .ok (.iconst 0, 1) := by decide +kernel
theorem dX12_commandHere_132 : decode cX12_commandHere 132 = .ok (.iconst 0, 1) := by decide +kernel
theorem dX12_commandHere_133 : decode cX12_commandHere 133 = .ok (.invokestatic 319, 3) := by decide +kernel
theorem dX12_commandHere_136 : decode cX12_commandHere 136 = .ok (.invokevirtual 323, 3) := by decide +kernel
theorem dX12_commandHere_139 : decode cX12_commandHere 139 = .ok (.ifCond .eq 5, 3) := by decide +kernel
theorem dX12_commandHere_144 : decode cX12_commandHere 144 = .ok (.aload_n 0, 1) := by decide +kernel
theorem dX12_commandHere_145 : decode cX12_commandHere 145 = .ok (.bipush 98, 2) := by decide +kernel
theorem dX12_commandHere_147 : decode cX12_commandHere 147 = .ok (.bipush 105, 2) := by decide +kernel
theorem dX12_commandHere_149 : decode cX12_commandHere 149 = .ok (.bipush 110, 2) := by decide +kernel
theorem dX12_commandHere_151 : decode cX12_commandHere 151 = .ok (.bipush 100, 2) := by decide +kernel
theorem dX12_commandHere_153 : decode cX12_commandHere 153 = .ok (.iconst 0, 1) := by decide +kernel
theorem dX12_commandHere_154 : decode cX12_commandHere 154 = .ok (.iconst 0, 1) := by decide +kernel
theorem dX12_commandHere_155 : decode cX12_commandHere 155 = .ok (.invokestatic 319, 3) := by decide +kernel
theorem dX12_commandHere_158 : decode cX12_commandHere 158 = .ok (.invokevirtual 323, 3) := by decide +kernel
theorem dX12_commandHere_161 : decode cX12_commandHere 161 = .ok (.ifCond .eq 6, 3) := by decide +kernel
theorem dX12_commandHere_167 : decode cX12_commandHere 167 = .ok (.aload_n 0, 1) := by decide +kernel
theorem dX12_commandHere_168 : decode cX12_commandHere 168 = .ok (.bipush 102, 2) := by decide +kernel
theorem dX12_commandHere_170 : decode cX12_commandHere 170 = .ok (.bipush 111, 2) := by decide +kernel
theorem dX12_commandHere_172 : decode cX12_commandHere 172 = .ok (.bipush 114, 2) := by decide +kernel
theorem dX12_commandHere_174 : decode cX12_commandHere 174 = .ok (.bipush 99, 2) := by decide +kernel
theorem dX12_commandHere_176 : decode cX12_commandHere 176 = .ok (.bipush 101, 2) := by decide +kernel
theorem dX12_commandHere_178 : decode cX12_commandHere 178 = .ok (.iconst 0, 1) := by decide +kernel
theorem dX12_commandHere_179 : decode cX12_commandHere 179 = .ok (.invokestatic 319, 3) := by decide +kernel
theorem dX12_commandHere_182 : decode cX12_commandHere 182 = .ok (.invokevirtual 323, 3) := by decide +kernel
theorem dX12_commandHere_185 : decode cX12_commandHere 185 = .ok (.ifCond .eq 8, 3) := by decide +kernel
theorem dX12_commandHere_193 : decode cX12_commandHere 193 = .ok (.iconst (-1), 1) := by decide +kernel
theorem dX12_commandHere_194 : decode cX12_commandHere 194 = .ok (.ireturn, 1) := by decide +kernel
theorem dX12_commandHere_188 : decode cX12_commandHere 188 = .ok (.bipush 7, 2) := by decide +kernel
theorem dX12_commandHere_190 : decode cX12_commandHere 190 = .ok (.goto 4, 3) := by decide +kernel
theorem dX12_commandHere_164 : decode cX12_commandHere 164 = .ok (.bipush 6, 2) := by decide +kernel
theorem dX12_commandHere_166 : decode cX12_commandHere 166 = .ok (.ireturn, 1) := by decide +kernel
theorem dX12_commandHere_142 : decode cX12_commandHere 142 = .ok (.iconst 5, 1) := by decide +kernel
theorem dX12_commandHere_143 : decode cX12_commandHere 143 = .ok (.ireturn, 1) := by decide +kernel
theorem dX12_commandHere_120 : decode cX12_commandHere 120 = .ok (.iconst 4, 1) := by decide +kernel
theorem dX12_commandHere_121 : decode cX12_commandHere 121 = .ok (.ireturn, 1) := by decide +kernel
theorem dX12_commandHere_96 : decode cX12_commandHere 96 = .ok (.iconst 3, 1) := by decide +kernel
theorem dX12_commandHere_97 : decode cX12_commandHere 97 = .ok (.ireturn, 1) := by decide +kernel
theorem dX12_commandHere_74 : decode cX12_commandHere 74 = .ok (.iconst 2, 1) := by decide +kernel
theorem dX12_commandHere_75 : decode cX12_commandHere 75 = .ok (.ireturn, 1) := by decide +kernel
theorem dX12_commandHere_52 : decode cX12_commandHere 52 = .ok (.iconst 1, 1) := by decide +kernel
theorem dX12_commandHere_53 : decode cX12_commandHere 53 = .ok (.ireturn, 1) := by decide +kernel
theorem dX12_commandHere_21 : decode cX12_commandHere 21 = .ok (.iconst 0, 1) := by decide +kernel
theorem dX12_commandHere_22 : decode cX12_commandHere 22 = .ok (.ireturn, 1) := by decide +kernel
set_option maxRecDepth 100000 in
set_option maxHeartbeats 4000000 in
theorem rX12_commandHere (l : Launch) (D : va_G) (Y : Nat → ClassId) (h0 : Nat) (h1 : Nat) (h2 : Nat) (h3 : Nat) (h4 : Nat) (h5 : Nat) (h6 : Nat) (p2 : Int32) (k5 : Nat) (k6 : Nat) (p7 : Int32) (p8 : Int32) (p9 : Int32) (k10 : Nat) (p11 : Int32) (q12 : Int64) (k15 : Nat) (k16 : Nat) (f0 : Nat → Int32) (f1 : Nat → Int32) (f3 : Nat → Int32) (f4 : Nat → Int32) (f13 : Nat → Int32) (f14 : Nat → Int32) (HI : INV f0) (HL : k5 ≤ 1600) (HP : PLV f13)   (sz : Nat) : Met l yX12_commandHere (WSm yX12_commandHere cX12_commandHere 1 (some .int)) (mkR 1 0 0 27) (PreC D Y [.ref h0] [(h0, oC 13 [.ref h1, .ref h2, .int p2, .ref h3, .ref h4, .int (nI k5), .int (nI k6), .int p7, .int p8, .int p9, .int (nI k10), .int p11, .long q12, .ref h5, .ref h6, .int (nI k15), .int (nI k16)]), (h1, aI Y 3640 f0), (h2, aZ Y 2 f1), (h3, aZ Y 80 f3), (h4, aB Y 1600 f4), (h5, aI Y 200 f13), (h6, aI Y 800 f14)] sz) (QI D (fun (r : Int32) (u : WU) => True) (fun (u : WU) => [(h0, oC 13 [.ref h1, .ref h2, .int p2, .ref h3, .ref h4, .int (nI k5), .int (nI k6), .int p7, .int p8, .int p9, .int (nI k10), .int p11, .long q12, .ref h5, .ref h6, .int (nI k15), .int (nI k16)]), (h1, aI Y 3640 f0), (h2, aZ Y 2 f1), (h3, aZ Y 80 f3), (h4, aB Y 1600 f4), (h5, aI Y 200 f13), (h6, aI Y 800 f14)]) (va_A [(h0, oC 13 [.ref h1, .ref h2, .int p2, .ref h3, .ref h4, .int (nI k5), .int (nI k6), .int p7, .int p8, .int p9, .int (nI k10), .int p11, .long q12, .ref h5, .ref h6, .int (nI k15), .int (nI k16)]), (h1, aI Y 3640 f0), (h2, aZ Y 2 f1), (h3, aZ Y 80 f3), (h4, aB Y 1600 f4), (h5, aI Y 200 f13), (h6, aI Y 800 f14)] sz)) 0 0 (va_A [(h0, oC 13 [.ref h1, .ref h2, .int p2, .ref h3, .ref h4, .int (nI k5), .int (nI k6), .int p7, .int p8, .int p9, .int (nI k10), .int p11, .long q12, .ref h5, .ref h6, .int (nI k15), .int (nI k16)]), (h1, aI Y 3640 f0), (h2, aZ Y 2 f1), (h3, aZ Y 80 f3), (h4, aB Y 1600 f4), (h5, aI Y 200 f13), (h6, aI Y 800 f14)] sz) :=
  met_of  (by decide +kernel) (Nat.le_of_ble_eq_true rfl) (fun p e s m args below meth c B hin hsz => by
    have B : VB p s m args meth c D Y (va_A [(h0, oC 13 [.ref h1, .ref h2, .int p2, .ref h3, .ref h4, .int (nI k5), .int (nI k6), .int p7, .int p8, .int p9, .int (nI k10), .int p11, .long q12, .ref h5, .ref h6, .int (nI k15), .int (nI k16)]), (h1, aI Y 3640 f0), (h2, aZ Y 2 f1), (h3, aZ Y 80 f3), (h4, aB Y 1600 f4), (h5, aI Y 200 f13), (h6, aI Y 800 f14)] sz) cX12_commandHere 1 RX12 (some .int) := B
    refine V_aload_n 0 B dX12_commandHere_0 0 rfl ?_
    refine V_bipush 1 B (v := 112) dX12_commandHere_1 (by decide +kernel) ?_
    refine V_bipush 3 B (v := 114) dX12_commandHere_3 (by decide +kernel) ?_
    refine V_bipush 5 B (v := 101) dX12_commandHere_5 (by decide +kernel) ?_
    refine V_bipush 7 B (v := 115) dX12_commandHere_7 (by decide +kernel) ?_
    refine V_bipush 9 B (v := 115) dX12_commandHere_9 (by decide +kernel) ?_
    refine V_iconst 11 B (v := 0) dX12_commandHere_11 (by decide +kernel) ?_
    refine V_csl 12 B (st := [.ref h0]) (As := [.int 112, .int 114, .int 101, .int 115, .int 115, .int 0]) (fun sz => rX12_pack l D Y 112 114 101 115 115 0 sz) glS_RX12_319 ⟨rfl, rfl⟩ ⟨(Nat.le_of_ble_eq_true rfl), (Nat.le_of_ble_eq_true rfl)⟩ ⟨(Nat.le_of_ble_eq_true rfl), (Nat.le_of_ble_eq_true rfl)⟩ [] rfl rfl (Nat.le_of_ble_eq_true rfl) rfl (fun _ _ _ => rfl) dX12_commandHere_12 (fun o0 u1 w2 => ?_)
    refine V_ws [(h0, oC 13 [.ref h1, .ref h2, .int p2, .ref h3, .ref h4, .int (nI k5), .int (nI k6), .int p7, .int p8, .int p9, .int (nI k10), .int p11, .long q12, .ref h5, .ref h6, .int (nI k15), .int (nI k16)]), (h1, aI Y 3640 f0), (h2, aZ Y 2 f1), (h3, aZ Y 80 f3), (h4, aB Y 1600 f4), (h5, aI Y 200 f13), (h6, aI Y 800 f14)] rfl ?_
    refine V_cvi 15 B (st := []) (As := [.long o0]) (fun sz => rX12_isWord l D Y h0 h1 h2 h3 h4 h5 h6 p2 k5 k6 p7 p8 p9 k10 p11 q12 k15 k16 f0 f1 f3 f4 f13 f14 HI (by omega) HP o0 sz) glV_RX12_323 ⟨rfl, rfl⟩ ⟨(Nat.le_of_ble_eq_true rfl), (Nat.le_of_ble_eq_true rfl)⟩ ⟨(Nat.le_of_ble_eq_true rfl), (Nat.le_of_ble_eq_true rfl)⟩ [0, 0, 0, 0, 0, 0, 0] rfl 13 0 rfl rfl rfl rfl (Nat.le_of_ble_eq_true rfl) rfl (fun _ _ _ => rfl) dX12_commandHere_15 (fun j3 u4 w5 => ?_)
    refine V_ws [(h0, oC 13 [.ref h1, .ref h2, .int p2, .ref h3, .ref h4, .int (nI k5), .int (nI k6), .int p7, .int p8, .int p9, .int (nI k10), .int p11, .long q12, .ref h5, .ref h6, .int (nI k15), .int (nI k16)]), (h1, aI Y 3640 f0), (h2, aZ Y 2 f1), (h3, aZ Y 80 f3), (h4, aB Y 1600 f4), (h5, aI Y 200 f13), (h6, aI Y 800 f14)] rfl ?_
    have x6 := w5
    clear w5
    rcases x6 with rfl | rfl
    ·
      refine V_if_eq_t 18 B 23 dX12_commandHere_18 (by decide) (by decide +kernel) ?_
      refine V_aload_n 23 B dX12_commandHere_23 0 rfl ?_
      refine V_bipush 24 B (v := 114) dX12_commandHere_24 (by decide +kernel) ?_
      refine V_bipush 26 B (v := 101) dX12_commandHere_26 (by decide +kernel) ?_
      refine V_bipush 28 B (v := 108) dX12_commandHere_28 (by decide +kernel) ?_
      refine V_bipush 30 B (v := 101) dX12_commandHere_30 (by decide +kernel) ?_
      refine V_bipush 32 B (v := 97) dX12_commandHere_32 (by decide +kernel) ?_
      refine V_bipush 34 B (v := 115) dX12_commandHere_34 (by decide +kernel) ?_
      refine V_csl 36 B (st := [.ref h0]) (As := [.int 114, .int 101, .int 108, .int 101, .int 97, .int 115]) (fun sz => rX12_pack l D Y 114 101 108 101 97 115 sz) glS_RX12_319 ⟨rfl, rfl⟩ ⟨(Nat.le_of_ble_eq_true rfl), (Nat.le_of_ble_eq_true rfl)⟩ ⟨(Nat.le_of_ble_eq_true rfl), (Nat.le_of_ble_eq_true rfl)⟩ [] rfl rfl (Nat.le_of_ble_eq_true rfl) rfl (fun _ _ _ => rfl) dX12_commandHere_36 (fun o7 u8 w9 => ?_)
      refine V_ws [(h0, oC 13 [.ref h1, .ref h2, .int p2, .ref h3, .ref h4, .int (nI k5), .int (nI k6), .int p7, .int p8, .int p9, .int (nI k10), .int p11, .long q12, .ref h5, .ref h6, .int (nI k15), .int (nI k16)]), (h1, aI Y 3640 f0), (h2, aZ Y 2 f1), (h3, aZ Y 80 f3), (h4, aB Y 1600 f4), (h5, aI Y 200 f13), (h6, aI Y 800 f14)] rfl ?_
      refine V_bipush 39 B (v := 7) dX12_commandHere_39 (by decide +kernel) ?_
      refine V_lshl 41 B dX12_commandHere_41 rfl ?_
      refine V_nml (fun o10 _ => ?_)
      refine V_ldc2 42 B (v := 101) dX12_commandHere_42 (mT10 12 rfl rfl) ?_
      refine V_lor 45 B dX12_commandHere_45 rfl ?_
      refine V_nml (fun o11 e12 => ?_)
      refine V_cvi 46 B (st := []) (As := [.long o11]) (fun sz => rX12_isWord l D Y h0 h1 h2 h3 h4 h5 h6 p2 k5 k6 p7 p8 p9 k10 p11 q12 k15 k16 f0 f1 f3 f4 f13 f14 HI (by omega) HP o11 sz) glV_RX12_323 ⟨rfl, rfl⟩ ⟨(Nat.le_of_ble_eq_true rfl), (Nat.le_of_ble_eq_true rfl)⟩ ⟨(Nat.le_of_ble_eq_true rfl), (Nat.le_of_ble_eq_true rfl)⟩ [0, 0, 0, 0, 0, 0, 0] rfl 13 0 rfl rfl rfl rfl (Nat.le_of_ble_eq_true rfl) rfl (fun _ _ _ => rfl) dX12_commandHere_46 (fun j13 u14 w15 => ?_)
      refine V_ws [(h0, oC 13 [.ref h1, .ref h2, .int p2, .ref h3, .ref h4, .int (nI k5), .int (nI k6), .int p7, .int p8, .int p9, .int (nI k10), .int p11, .long q12, .ref h5, .ref h6, .int (nI k15), .int (nI k16)]), (h1, aI Y 3640 f0), (h2, aZ Y 2 f1), (h3, aZ Y 80 f3), (h4, aB Y 1600 f4), (h5, aI Y 200 f13), (h6, aI Y 800 f14)] rfl ?_
      have x16 := w15
      clear w15
      rcases x16 with rfl | rfl
      ·
        refine V_if_eq_t 49 B 54 dX12_commandHere_49 (by decide) (by decide +kernel) ?_
        refine V_aload_n 54 B dX12_commandHere_54 0 rfl ?_
        refine V_bipush 55 B (v := 104) dX12_commandHere_55 (by decide +kernel) ?_
        refine V_bipush 57 B (v := 111) dX12_commandHere_57 (by decide +kernel) ?_
        refine V_bipush 59 B (v := 108) dX12_commandHere_59 (by decide +kernel) ?_
        refine V_bipush 61 B (v := 100) dX12_commandHere_61 (by decide +kernel) ?_
        refine V_iconst 63 B (v := 0) dX12_commandHere_63 (by decide +kernel) ?_
        refine V_iconst 64 B (v := 0) dX12_commandHere_64 (by decide +kernel) ?_
        refine V_csl 65 B (st := [.ref h0]) (As := [.int 104, .int 111, .int 108, .int 100, .int 0, .int 0]) (fun sz => rX12_pack l D Y 104 111 108 100 0 0 sz) glS_RX12_319 ⟨rfl, rfl⟩ ⟨(Nat.le_of_ble_eq_true rfl), (Nat.le_of_ble_eq_true rfl)⟩ ⟨(Nat.le_of_ble_eq_true rfl), (Nat.le_of_ble_eq_true rfl)⟩ [] rfl rfl (Nat.le_of_ble_eq_true rfl) rfl (fun _ _ _ => rfl) dX12_commandHere_65 (fun o17 u18 w19 => ?_)
        refine V_ws [(h0, oC 13 [.ref h1, .ref h2, .int p2, .ref h3, .ref h4, .int (nI k5), .int (nI k6), .int p7, .int p8, .int p9, .int (nI k10), .int p11, .long q12, .ref h5, .ref h6, .int (nI k15), .int (nI k16)]), (h1, aI Y 3640 f0), (h2, aZ Y 2 f1), (h3, aZ Y 80 f3), (h4, aB Y 1600 f4), (h5, aI Y 200 f13), (h6, aI Y 800 f14)] rfl ?_
        refine V_cvi 68 B (st := []) (As := [.long o17]) (fun sz => rX12_isWord l D Y h0 h1 h2 h3 h4 h5 h6 p2 k5 k6 p7 p8 p9 k10 p11 q12 k15 k16 f0 f1 f3 f4 f13 f14 HI (by omega) HP o17 sz) glV_RX12_323 ⟨rfl, rfl⟩ ⟨(Nat.le_of_ble_eq_true rfl), (Nat.le_of_ble_eq_true rfl)⟩ ⟨(Nat.le_of_ble_eq_true rfl), (Nat.le_of_ble_eq_true rfl)⟩ [0, 0, 0, 0, 0, 0, 0] rfl 13 0 rfl rfl rfl rfl (Nat.le_of_ble_eq_true rfl) rfl (fun _ _ _ => rfl) dX12_commandHere_68 (fun j20 u21 w22 => ?_)
        refine V_ws [(h0, oC 13 [.ref h1, .ref h2, .int p2, .ref h3, .ref h4, .int (nI k5), .int (nI k6), .int p7, .int p8, .int p9, .int (nI k10), .int p11, .long q12, .ref h5, .ref h6, .int (nI k15), .int (nI k16)]), (h1, aI Y 3640 f0), (h2, aZ Y 2 f1), (h3, aZ Y 80 f3), (h4, aB Y 1600 f4), (h5, aI Y 200 f13), (h6, aI Y 800 f14)] rfl ?_
        have x23 := w22
        clear w22
        rcases x23 with rfl | rfl
        ·
          refine V_if_eq_t 71 B 76 dX12_commandHere_71 (by decide) (by decide +kernel) ?_
          refine V_aload_n 76 B dX12_commandHere_76 0 rfl ?_
          refine V_bipush 77 B (v := 116) dX12_commandHere_77 (by decide +kernel) ?_
          refine V_bipush 79 B (v := 105) dX12_commandHere_79 (by decide +kernel) ?_
          refine V_bipush 81 B (v := 99) dX12_commandHere_81 (by decide +kernel) ?_
          refine V_bipush 83 B (v := 107) dX12_commandHere_83 (by decide +kernel) ?_
          refine V_iconst 85 B (v := 0) dX12_commandHere_85 (by decide +kernel) ?_
          refine V_iconst 86 B (v := 0) dX12_commandHere_86 (by decide +kernel) ?_
          refine V_csl 87 B (st := [.ref h0]) (As := [.int 116, .int 105, .int 99, .int 107, .int 0, .int 0]) (fun sz => rX12_pack l D Y 116 105 99 107 0 0 sz) glS_RX12_319 ⟨rfl, rfl⟩ ⟨(Nat.le_of_ble_eq_true rfl), (Nat.le_of_ble_eq_true rfl)⟩ ⟨(Nat.le_of_ble_eq_true rfl), (Nat.le_of_ble_eq_true rfl)⟩ [] rfl rfl (Nat.le_of_ble_eq_true rfl) rfl (fun _ _ _ => rfl) dX12_commandHere_87 (fun o24 u25 w26 => ?_)
          refine V_ws [(h0, oC 13 [.ref h1, .ref h2, .int p2, .ref h3, .ref h4, .int (nI k5), .int (nI k6), .int p7, .int p8, .int p9, .int (nI k10), .int p11, .long q12, .ref h5, .ref h6, .int (nI k15), .int (nI k16)]), (h1, aI Y 3640 f0), (h2, aZ Y 2 f1), (h3, aZ Y 80 f3), (h4, aB Y 1600 f4), (h5, aI Y 200 f13), (h6, aI Y 800 f14)] rfl ?_
          refine V_cvi 90 B (st := []) (As := [.long o24]) (fun sz => rX12_isWord l D Y h0 h1 h2 h3 h4 h5 h6 p2 k5 k6 p7 p8 p9 k10 p11 q12 k15 k16 f0 f1 f3 f4 f13 f14 HI (by omega) HP o24 sz) glV_RX12_323 ⟨rfl, rfl⟩ ⟨(Nat.le_of_ble_eq_true rfl), (Nat.le_of_ble_eq_true rfl)⟩ ⟨(Nat.le_of_ble_eq_true rfl), (Nat.le_of_ble_eq_true rfl)⟩ [0, 0, 0, 0, 0, 0, 0] rfl 13 0 rfl rfl rfl rfl (Nat.le_of_ble_eq_true rfl) rfl (fun _ _ _ => rfl) dX12_commandHere_90 (fun j27 u28 w29 => ?_)
          refine V_ws [(h0, oC 13 [.ref h1, .ref h2, .int p2, .ref h3, .ref h4, .int (nI k5), .int (nI k6), .int p7, .int p8, .int p9, .int (nI k10), .int p11, .long q12, .ref h5, .ref h6, .int (nI k15), .int (nI k16)]), (h1, aI Y 3640 f0), (h2, aZ Y 2 f1), (h3, aZ Y 80 f3), (h4, aB Y 1600 f4), (h5, aI Y 200 f13), (h6, aI Y 800 f14)] rfl ?_
          have x30 := w29
          clear w29
          rcases x30 with rfl | rfl
          ·
            refine V_if_eq_t 93 B 98 dX12_commandHere_93 (by decide) (by decide +kernel) ?_
            refine V_aload_n 98 B dX12_commandHere_98 0 rfl ?_
            refine V_bipush 99 B (v := 117) dX12_commandHere_99 (by decide +kernel) ?_
            refine V_bipush 101 B (v := 110) dX12_commandHere_101 (by decide +kernel) ?_
            refine V_bipush 103 B (v := 98) dX12_commandHere_103 (by decide +kernel) ?_
            refine V_bipush 105 B (v := 105) dX12_commandHere_105 (by decide +kernel) ?_
            refine V_bipush 107 B (v := 110) dX12_commandHere_107 (by decide +kernel) ?_
            refine V_bipush 109 B (v := 100) dX12_commandHere_109 (by decide +kernel) ?_
            refine V_csl 111 B (st := [.ref h0]) (As := [.int 117, .int 110, .int 98, .int 105, .int 110, .int 100]) (fun sz => rX12_pack l D Y 117 110 98 105 110 100 sz) glS_RX12_319 ⟨rfl, rfl⟩ ⟨(Nat.le_of_ble_eq_true rfl), (Nat.le_of_ble_eq_true rfl)⟩ ⟨(Nat.le_of_ble_eq_true rfl), (Nat.le_of_ble_eq_true rfl)⟩ [] rfl rfl (Nat.le_of_ble_eq_true rfl) rfl (fun _ _ _ => rfl) dX12_commandHere_111 (fun o31 u32 w33 => ?_)
            refine V_ws [(h0, oC 13 [.ref h1, .ref h2, .int p2, .ref h3, .ref h4, .int (nI k5), .int (nI k6), .int p7, .int p8, .int p9, .int (nI k10), .int p11, .long q12, .ref h5, .ref h6, .int (nI k15), .int (nI k16)]), (h1, aI Y 3640 f0), (h2, aZ Y 2 f1), (h3, aZ Y 80 f3), (h4, aB Y 1600 f4), (h5, aI Y 200 f13), (h6, aI Y 800 f14)] rfl ?_
            refine V_cvi 114 B (st := []) (As := [.long o31]) (fun sz => rX12_isWord l D Y h0 h1 h2 h3 h4 h5 h6 p2 k5 k6 p7 p8 p9 k10 p11 q12 k15 k16 f0 f1 f3 f4 f13 f14 HI (by omega) HP o31 sz) glV_RX12_323 ⟨rfl, rfl⟩ ⟨(Nat.le_of_ble_eq_true rfl), (Nat.le_of_ble_eq_true rfl)⟩ ⟨(Nat.le_of_ble_eq_true rfl), (Nat.le_of_ble_eq_true rfl)⟩ [0, 0, 0, 0, 0, 0, 0] rfl 13 0 rfl rfl rfl rfl (Nat.le_of_ble_eq_true rfl) rfl (fun _ _ _ => rfl) dX12_commandHere_114 (fun j34 u35 w36 => ?_)
            refine V_ws [(h0, oC 13 [.ref h1, .ref h2, .int p2, .ref h3, .ref h4, .int (nI k5), .int (nI k6), .int p7, .int p8, .int p9, .int (nI k10), .int p11, .long q12, .ref h5, .ref h6, .int (nI k15), .int (nI k16)]), (h1, aI Y 3640 f0), (h2, aZ Y 2 f1), (h3, aZ Y 80 f3), (h4, aB Y 1600 f4), (h5, aI Y 200 f13), (h6, aI Y 800 f14)] rfl ?_
            have x37 := w36
            clear w36
            rcases x37 with rfl | rfl
            ·
              refine V_if_eq_t 117 B 122 dX12_commandHere_117 (by decide) (by decide +kernel) ?_
              refine V_aload_n 122 B dX12_commandHere_122 0 rfl ?_
              refine V_bipush 123 B (v := 116) dX12_commandHere_123 (by decide +kernel) ?_
              refine V_bipush 125 B (v := 121) dX12_commandHere_125 (by decide +kernel) ?_
              refine V_bipush 127 B (v := 112) dX12_commandHere_127 (by decide +kernel) ?_
              refine V_bipush 129 B (v := 101) dX12_commandHere_129 (by decide +kernel) ?_
              refine V_iconst 131 B (v := 0) dX12_commandHere_131 (by decide +kernel) ?_
              refine V_iconst 132 B (v := 0) dX12_commandHere_132 (by decide +kernel) ?_
              refine V_csl 133 B (st := [.ref h0]) (As := [.int 116, .int 121, .int 112, .int 101, .int 0, .int 0]) (fun sz => rX12_pack l D Y 116 121 112 101 0 0 sz) glS_RX12_319 ⟨rfl, rfl⟩ ⟨(Nat.le_of_ble_eq_true rfl), (Nat.le_of_ble_eq_true rfl)⟩ ⟨(Nat.le_of_ble_eq_true rfl), (Nat.le_of_ble_eq_true rfl)⟩ [] rfl rfl (Nat.le_of_ble_eq_true rfl) rfl (fun _ _ _ => rfl) dX12_commandHere_133 (fun o38 u39 w40 => ?_)
              refine V_ws [(h0, oC 13 [.ref h1, .ref h2, .int p2, .ref h3, .ref h4, .int (nI k5), .int (nI k6), .int p7, .int p8, .int p9, .int (nI k10), .int p11, .long q12, .ref h5, .ref h6, .int (nI k15), .int (nI k16)]), (h1, aI Y 3640 f0), (h2, aZ Y 2 f1), (h3, aZ Y 80 f3), (h4, aB Y 1600 f4), (h5, aI Y 200 f13), (h6, aI Y 800 f14)] rfl ?_
              refine V_cvi 136 B (st := []) (As := [.long o38]) (fun sz => rX12_isWord l D Y h0 h1 h2 h3 h4 h5 h6 p2 k5 k6 p7 p8 p9 k10 p11 q12 k15 k16 f0 f1 f3 f4 f13 f14 HI (by omega) HP o38 sz) glV_RX12_323 ⟨rfl, rfl⟩ ⟨(Nat.le_of_ble_eq_true rfl), (Nat.le_of_ble_eq_true rfl)⟩ ⟨(Nat.le_of_ble_eq_true rfl), (Nat.le_of_ble_eq_true rfl)⟩ [0, 0, 0, 0, 0, 0, 0] rfl 13 0 rfl rfl rfl rfl (Nat.le_of_ble_eq_true rfl) rfl (fun _ _ _ => rfl) dX12_commandHere_136 (fun j41 u42 w43 => ?_)
              refine V_ws [(h0, oC 13 [.ref h1, .ref h2, .int p2, .ref h3, .ref h4, .int (nI k5), .int (nI k6), .int p7, .int p8, .int p9, .int (nI k10), .int p11, .long q12, .ref h5, .ref h6, .int (nI k15), .int (nI k16)]), (h1, aI Y 3640 f0), (h2, aZ Y 2 f1), (h3, aZ Y 80 f3), (h4, aB Y 1600 f4), (h5, aI Y 200 f13), (h6, aI Y 800 f14)] rfl ?_
              have x44 := w43
              clear w43
              rcases x44 with rfl | rfl
              ·
                refine V_if_eq_t 139 B 144 dX12_commandHere_139 (by decide) (by decide +kernel) ?_
                refine V_aload_n 144 B dX12_commandHere_144 0 rfl ?_
                refine V_bipush 145 B (v := 98) dX12_commandHere_145 (by decide +kernel) ?_
                refine V_bipush 147 B (v := 105) dX12_commandHere_147 (by decide +kernel) ?_
                refine V_bipush 149 B (v := 110) dX12_commandHere_149 (by decide +kernel) ?_
                refine V_bipush 151 B (v := 100) dX12_commandHere_151 (by decide +kernel) ?_
                refine V_iconst 153 B (v := 0) dX12_commandHere_153 (by decide +kernel) ?_
                refine V_iconst 154 B (v := 0) dX12_commandHere_154 (by decide +kernel) ?_
                refine V_csl 155 B (st := [.ref h0]) (As := [.int 98, .int 105, .int 110, .int 100, .int 0, .int 0]) (fun sz => rX12_pack l D Y 98 105 110 100 0 0 sz) glS_RX12_319 ⟨rfl, rfl⟩ ⟨(Nat.le_of_ble_eq_true rfl), (Nat.le_of_ble_eq_true rfl)⟩ ⟨(Nat.le_of_ble_eq_true rfl), (Nat.le_of_ble_eq_true rfl)⟩ [] rfl rfl (Nat.le_of_ble_eq_true rfl) rfl (fun _ _ _ => rfl) dX12_commandHere_155 (fun o45 u46 w47 => ?_)
                refine V_ws [(h0, oC 13 [.ref h1, .ref h2, .int p2, .ref h3, .ref h4, .int (nI k5), .int (nI k6), .int p7, .int p8, .int p9, .int (nI k10), .int p11, .long q12, .ref h5, .ref h6, .int (nI k15), .int (nI k16)]), (h1, aI Y 3640 f0), (h2, aZ Y 2 f1), (h3, aZ Y 80 f3), (h4, aB Y 1600 f4), (h5, aI Y 200 f13), (h6, aI Y 800 f14)] rfl ?_
                refine V_cvi 158 B (st := []) (As := [.long o45]) (fun sz => rX12_isWord l D Y h0 h1 h2 h3 h4 h5 h6 p2 k5 k6 p7 p8 p9 k10 p11 q12 k15 k16 f0 f1 f3 f4 f13 f14 HI (by omega) HP o45 sz) glV_RX12_323 ⟨rfl, rfl⟩ ⟨(Nat.le_of_ble_eq_true rfl), (Nat.le_of_ble_eq_true rfl)⟩ ⟨(Nat.le_of_ble_eq_true rfl), (Nat.le_of_ble_eq_true rfl)⟩ [0, 0, 0, 0, 0, 0, 0] rfl 13 0 rfl rfl rfl rfl (Nat.le_of_ble_eq_true rfl) rfl (fun _ _ _ => rfl) dX12_commandHere_158 (fun j48 u49 w50 => ?_)
                refine V_ws [(h0, oC 13 [.ref h1, .ref h2, .int p2, .ref h3, .ref h4, .int (nI k5), .int (nI k6), .int p7, .int p8, .int p9, .int (nI k10), .int p11, .long q12, .ref h5, .ref h6, .int (nI k15), .int (nI k16)]), (h1, aI Y 3640 f0), (h2, aZ Y 2 f1), (h3, aZ Y 80 f3), (h4, aB Y 1600 f4), (h5, aI Y 200 f13), (h6, aI Y 800 f14)] rfl ?_
                have x51 := w50
                clear w50
                rcases x51 with rfl | rfl
                ·
                  refine V_if_eq_t 161 B 167 dX12_commandHere_161 (by decide) (by decide +kernel) ?_
                  refine V_aload_n 167 B dX12_commandHere_167 0 rfl ?_
                  refine V_bipush 168 B (v := 102) dX12_commandHere_168 (by decide +kernel) ?_
                  refine V_bipush 170 B (v := 111) dX12_commandHere_170 (by decide +kernel) ?_
                  refine V_bipush 172 B (v := 114) dX12_commandHere_172 (by decide +kernel) ?_
                  refine V_bipush 174 B (v := 99) dX12_commandHere_174 (by decide +kernel) ?_
                  refine V_bipush 176 B (v := 101) dX12_commandHere_176 (by decide +kernel) ?_
                  refine V_iconst 178 B (v := 0) dX12_commandHere_178 (by decide +kernel) ?_
                  refine V_csl 179 B (st := [.ref h0]) (As := [.int 102, .int 111, .int 114, .int 99, .int 101, .int 0]) (fun sz => rX12_pack l D Y 102 111 114 99 101 0 sz) glS_RX12_319 ⟨rfl, rfl⟩ ⟨(Nat.le_of_ble_eq_true rfl), (Nat.le_of_ble_eq_true rfl)⟩ ⟨(Nat.le_of_ble_eq_true rfl), (Nat.le_of_ble_eq_true rfl)⟩ [] rfl rfl (Nat.le_of_ble_eq_true rfl) rfl (fun _ _ _ => rfl) dX12_commandHere_179 (fun o52 u53 w54 => ?_)
                  refine V_ws [(h0, oC 13 [.ref h1, .ref h2, .int p2, .ref h3, .ref h4, .int (nI k5), .int (nI k6), .int p7, .int p8, .int p9, .int (nI k10), .int p11, .long q12, .ref h5, .ref h6, .int (nI k15), .int (nI k16)]), (h1, aI Y 3640 f0), (h2, aZ Y 2 f1), (h3, aZ Y 80 f3), (h4, aB Y 1600 f4), (h5, aI Y 200 f13), (h6, aI Y 800 f14)] rfl ?_
                  refine V_cvi 182 B (st := []) (As := [.long o52]) (fun sz => rX12_isWord l D Y h0 h1 h2 h3 h4 h5 h6 p2 k5 k6 p7 p8 p9 k10 p11 q12 k15 k16 f0 f1 f3 f4 f13 f14 HI (by omega) HP o52 sz) glV_RX12_323 ⟨rfl, rfl⟩ ⟨(Nat.le_of_ble_eq_true rfl), (Nat.le_of_ble_eq_true rfl)⟩ ⟨(Nat.le_of_ble_eq_true rfl), (Nat.le_of_ble_eq_true rfl)⟩ [0, 0, 0, 0, 0, 0, 0] rfl 13 0 rfl rfl rfl rfl (Nat.le_of_ble_eq_true rfl) rfl (fun _ _ _ => rfl) dX12_commandHere_182 (fun j55 u56 w57 => ?_)
                  refine V_ws [(h0, oC 13 [.ref h1, .ref h2, .int p2, .ref h3, .ref h4, .int (nI k5), .int (nI k6), .int p7, .int p8, .int p9, .int (nI k10), .int p11, .long q12, .ref h5, .ref h6, .int (nI k15), .int (nI k16)]), (h1, aI Y 3640 f0), (h2, aZ Y 2 f1), (h3, aZ Y 80 f3), (h4, aB Y 1600 f4), (h5, aI Y 200 f13), (h6, aI Y 800 f14)] rfl ?_
                  have x58 := w57
                  clear w57
                  rcases x58 with rfl | rfl
                  ·
                    refine V_if_eq_t 185 B 193 dX12_commandHere_185 (by decide) (by decide +kernel) ?_
                    refine V_iconst 193 B (v := (-1)) dX12_commandHere_193 (by decide +kernel) ?_
                    exact V_iret 194 B dX12_commandHere_194 (mkW [] [] [] [] [] []) trivial rfl
                  ·
                    refine V_if_eq_f 185 B 193 dX12_commandHere_185 (by decide) (by decide +kernel) ?_
                    refine V_bipush 188 B (v := 7) dX12_commandHere_188 (by decide +kernel) ?_
                    refine V_goto 190 B 194 dX12_commandHere_190 (by decide) ?_
                    exact V_iret 194 B dX12_commandHere_194 (mkW [] [] [] [] [] []) trivial rfl
                ·
                  refine V_if_eq_f 161 B 167 dX12_commandHere_161 (by decide) (by decide +kernel) ?_
                  refine V_bipush 164 B (v := 6) dX12_commandHere_164 (by decide +kernel) ?_
                  exact V_iret 166 B dX12_commandHere_166 (mkW [] [] [] [] [] []) trivial rfl
              ·
                refine V_if_eq_f 139 B 144 dX12_commandHere_139 (by decide) (by decide +kernel) ?_
                refine V_iconst 142 B (v := 5) dX12_commandHere_142 (by decide +kernel) ?_
                exact V_iret 143 B dX12_commandHere_143 (mkW [] [] [] [] [] []) trivial rfl
            ·
              refine V_if_eq_f 117 B 122 dX12_commandHere_117 (by decide) (by decide +kernel) ?_
              refine V_iconst 120 B (v := 4) dX12_commandHere_120 (by decide +kernel) ?_
              exact V_iret 121 B dX12_commandHere_121 (mkW [] [] [] [] [] []) trivial rfl
          ·
            refine V_if_eq_f 93 B 98 dX12_commandHere_93 (by decide) (by decide +kernel) ?_
            refine V_iconst 96 B (v := 3) dX12_commandHere_96 (by decide +kernel) ?_
            exact V_iret 97 B dX12_commandHere_97 (mkW [] [] [] [] [] []) trivial rfl
        ·
          refine V_if_eq_f 71 B 76 dX12_commandHere_71 (by decide) (by decide +kernel) ?_
          refine V_iconst 74 B (v := 2) dX12_commandHere_74 (by decide +kernel) ?_
          exact V_iret 75 B dX12_commandHere_75 (mkW [] [] [] [] [] []) trivial rfl
      ·
        refine V_if_eq_f 49 B 54 dX12_commandHere_49 (by decide) (by decide +kernel) ?_
        refine V_iconst 52 B (v := 1) dX12_commandHere_52 (by decide +kernel) ?_
        exact V_iret 53 B dX12_commandHere_53 (mkW [] [] [] [] [] []) trivial rfl
    ·
      refine V_if_eq_f 18 B 23 dX12_commandHere_18 (by decide) (by decide +kernel) ?_
      refine V_iconst 21 B (v := 0) dX12_commandHere_21 (by decide +kernel) ?_
      exact V_iret 22 B dX12_commandHere_22 (mkW [] [] [] [] [] []) trivial rfl)
theorem glV_RX12_364 : GLV RX12 364 yX12_commandHere RX12 cX12_commandHere 1 (some .int) 0 := ⟨⟨(mT10 62 rfl rfl), (mT10 64 rfl rfl), (mTs 93 rfl rfl), (mT1 13 rfl rfl), (mT10 65 rfl rfl)⟩, by decide +kernel⟩
theorem dX12_readPlayed_4 : decode cX12_readPlayed 4 = .ok (.istore_n 1, 1) := by decide +kernel
theorem dX12_readPlayed_5 : decode cX12_readPlayed 5 = .ok (.iload_n 1, 1) := by decide +kernel
theorem dX12_readPlayed_6 : decode cX12_readPlayed 6 = .ok (.iconst (-1), 1) := by decide +kernel
theorem dX12_readPlayed_7 : decode cX12_readPlayed 7 = .ok (.if_icmp .ne 9, 3) := by decide +kernel
theorem dX12_readPlayed_16 : decode cX12_readPlayed 16 = .ok (.aload_n 0, 1) := by decide +kernel
theorem dX12_readPlayed_17 : decode cX12_readPlayed 17 = .ok (.getfield 361, 3) := by decide +kernel
theorem dX12_readPlayed_20 : decode cX12_readPlayed 20 = .ok (.bipush 40, 2) := by decide +kernel
theorem dX12_readPlayed_22 : decode cX12_readPlayed 22 = .ok (.if_icmp .ne 9, 3) := by decide +kernel
theorem dX12_readPlayed_31 : decode cX12_readPlayed 31 = .ok (.aload_n 0, 1) := by decide +kernel
theorem dX12_readPlayed_32 : decode cX12_readPlayed 32 = .ok (.invokevirtual 288, 3) := by decide +kernel
theorem dX12_readPlayed_35 : decode cX12_readPlayed 35 = .ok (.iconst 5, 1) := by decide +kernel
theorem dX12_readPlayed_36 : decode cX12_readPlayed 36 = .ok (.aload_n 0, 1) := by decide +kernel
theorem dX12_readPlayed_37 : decode cX12_readPlayed 37 = .ok (.getfield 361, 3) := by decide +kernel
theorem dX12_readPlayed_40 : decode cX12_readPlayed 40 = .ok (.imul, 1) := by decide +kernel
theorem dX12_readPlayed_41 : decode cX12_readPlayed 41 = .ok (.istore_n 2, 1) := by decide +kernel
theorem dX12_readPlayed_42 : decode cX12_readPlayed 42 = .ok (.aload_n 0, 1) := by decide +kernel
theorem dX12_readPlayed_43 : decode cX12_readPlayed 43 = .ok (.getfield 28, 3) := by decide +kernel
theorem dX12_readPlayed_46 : decode cX12_readPlayed 46 = .ok (.iload_n 2, 1) := by decide +kernel
theorem dX12_readPlayed_47 : decode cX12_readPlayed 47 = .ok (.iload_n 1, 1) := by decide +kernel
theorem dX12_readPlayed_48 : decode cX12_readPlayed 48 = .ok (.iastore, 1) := by decide +kernel
theorem dX12_readPlayed_49 : decode cX12_readPlayed 49 = .ok (.aload_n 0, 1) := by decide +kernel
theorem dX12_readPlayed_50 : decode cX12_readPlayed 50 = .ok (.getfield 28, 3) := by decide +kernel
theorem dX12_readPlayed_53 : decode cX12_readPlayed 53 = .ok (.iload_n 2, 1) := by decide +kernel
theorem dX12_readPlayed_54 : decode cX12_readPlayed 54 = .ok (.iconst 3, 1) := by decide +kernel
theorem dX12_readPlayed_55 : decode cX12_readPlayed 55 = .ok (.iadd, 1) := by decide +kernel
theorem dX12_readPlayed_56 : decode cX12_readPlayed 56 = .ok (.aload_n 0, 1) := by decide +kernel
theorem dX12_readPlayed_57 : decode cX12_readPlayed 57 = .ok (.getfield 358, 3) := by decide +kernel
theorem dX12_readPlayed_60 : decode cX12_readPlayed 60 = .ok (.iastore, 1) := by decide +kernel
theorem dX12_readPlayed_61 : decode cX12_readPlayed 61 = .ok (.iconst 1, 1) := by decide +kernel
theorem dX12_readPlayed_62 : decode cX12_readPlayed 62 = .ok (.istore_n 3, 1) := by decide +kernel
theorem dX12_readPlayed_63 : decode cX12_readPlayed 63 = .ok (.iload_n 1, 1) := by decide +kernel
theorem dX12_readPlayed_64 : decode cX12_readPlayed 64 = .ok (.tableswitch 77 0 5 #[40, 40, 60, 60, 60, 69], 40) := by decide +kernel
theorem dX12_readPlayed_104 : decode cX12_readPlayed 104 = .ok (.aload_n 0, 1) := by decide +kernel
theorem dX12_readPlayed_105 : decode cX12_readPlayed 105 = .ok (.invokevirtual 316, 3) := by decide +kernel
theorem dX12_readPlayed_108 : decode cX12_readPlayed 108 = .ok (.istore_n 3, 1) := by decide +kernel
theorem dX12_readPlayed_109 : decode cX12_readPlayed 109 = .ok (.aload_n 0, 1) := by decide +kernel
theorem dX12_readPlayed_110 : decode cX12_readPlayed 110 = .ok (.getfield 28, 3) := by decide +kernel
theorem dX12_readPlayed_113 : decode cX12_readPlayed 113 = .ok (.iload_n 2, 1) := by decide +kernel
theorem dX12_readPlayed_114 : decode cX12_readPlayed 114 = .ok (.iconst 1, 1) := by decide +kernel
theorem dX12_readPlayed_115 : decode cX12_readPlayed 115 = .ok (.iadd, 1) := by decide +kernel
theorem dX12_readPlayed_116 : decode cX12_readPlayed 116 = .ok (.aload_n 0, 1) := by decide +kernel
theorem dX12_readPlayed_117 : decode cX12_readPlayed 117 = .ok (.getfield 294, 3) := by decide +kernel
theorem dX12_readPlayed_120 : decode cX12_readPlayed 120 = .ok (.iastore, 1) := by decide +kernel
theorem dX12_readPlayed_121 : decode cX12_readPlayed 121 = .ok (.goto 49, 3) := by decide +kernel
theorem dX12_readPlayed_170 : decode cX12_readPlayed 170 = .ok (.aload_n 0, 1) := by decide +kernel
theorem dX12_readPlayed_171 : decode cX12_readPlayed 171 = .ok (.dup, 1) := by decide +kernel
theorem dX12_readPlayed_172 : decode cX12_readPlayed 172 = .ok (.getfield 361, 3) := by decide +kernel
theorem dX12_readPlayed_175 : decode cX12_readPlayed 175 = .ok (.iconst 1, 1) := by decide +kernel
theorem dX12_readPlayed_176 : decode cX12_readPlayed 176 = .ok (.iadd, 1) := by decide +kernel
theorem dX12_readPlayed_177 : decode cX12_readPlayed 177 = .ok (.putfield 361, 3) := by decide +kernel
theorem gp_RX12_361 : GP RX12 361 13 15 .int false := ⟨RX12, TX12, 17, ⟨rfl, inw_X12, Nat.le_of_ble_eq_true rfl, (mT7 152 rfl rfl)⟩, ⟨tyX12, tyX12_ok⟩, nmX12, rfl, by decide +kernel, fun h => nomatch h⟩
theorem dX12_readPlayed_180 : decode cX12_readPlayed 180 = .ok (.iload_n 3, 1) := by decide +kernel
theorem dX12_readPlayed_181 : decode cX12_readPlayed 181 = .ok (.ifCond .eq 14, 3) := by decide +kernel
theorem dX12_readPlayed_195 : decode cX12_readPlayed 195 = .ok (.iconst 0, 1) := by decide +kernel
theorem dX12_readPlayed_196 : decode cX12_readPlayed 196 = .ok (.ireturn, 1) := by decide +kernel
theorem dX12_readPlayed_184 : decode cX12_readPlayed 184 = .ok (.aload_n 0, 1) := by decide +kernel
theorem dX12_readPlayed_185 : decode cX12_readPlayed 185 = .ok (.invokevirtual 304, 3) := by decide +kernel
theorem dX12_readPlayed_188 : decode cX12_readPlayed 188 = .ok (.ifCond .eq 7, 3) := by decide +kernel
theorem dX12_readPlayed_191 : decode cX12_readPlayed 191 = .ok (.iconst 1, 1) := by decide +kernel
theorem dX12_readPlayed_192 : decode cX12_readPlayed 192 = .ok (.goto 4, 3) := by decide +kernel
theorem dX12_readPlayed_124 : decode cX12_readPlayed 124 = .ok (.aload_n 0, 1) := by decide +kernel
theorem dX12_readPlayed_125 : decode cX12_readPlayed 125 = .ok (.iconst 1, 1) := by decide +kernel
theorem dX12_readPlayed_126 : decode cX12_readPlayed 126 = .ok (.invokevirtual 367, 3) := by decide +kernel
theorem dX12_readNumberOf_0 : decode cX12_readNumberOf 0 = .ok (.aload_n 0, 1) := by decide +kernel
theorem dX12_readNumberOf_1 : decode cX12_readNumberOf 1 = .ok (.iconst 0, 1) := by decide +kernel
theorem dX12_readNumberOf_2 : decode cX12_readNumberOf 2 = .ok (.sipush 999, 3) := by decide +kernel
theorem dX12_readNumberOf_5 : decode cX12_readNumberOf 5 = .ok (.invokevirtual 301, 3) := by decide +kernel
theorem dX12_readNumberOf_8 : decode cX12_readNumberOf 8 = .ok (.ifCond .ne 5, 3) := by decide +kernel
theorem dX12_readNumberOf_11 : decode cX12_readNumberOf 11 = .ok (.iconst 0, 1) := by decide +kernel
theorem dX12_readNumberOf_12 : decode cX12_readNumberOf 12 = .ok (.ireturn, 1) := by decide +kernel
theorem dX12_readNumberOf_13 : decode cX12_readNumberOf 13 = .ok (.aload_n 0, 1) := by decide +kernel
theorem dX12_readNumberOf_14 : decode cX12_readNumberOf 14 = .ok (.getfield 28, 3) := by decide +kernel
theorem dX12_readNumberOf_17 : decode cX12_readNumberOf 17 = .ok (.iconst 5, 1) := by decide +kernel
theorem dX12_readNumberOf_18 : decode cX12_readNumberOf 18 = .ok (.aload_n 0, 1) := by decide +kernel
theorem dX12_readNumberOf_19 : decode cX12_readNumberOf 19 = .ok (.getfield 361, 3) := by decide +kernel
theorem dX12_readNumberOf_22 : decode cX12_readNumberOf 22 = .ok (.imul, 1) := by decide +kernel
theorem dX12_readNumberOf_23 : decode cX12_readNumberOf 23 = .ok (.iload_n 1, 1) := by decide +kernel
theorem dX12_readNumberOf_24 : decode cX12_readNumberOf 24 = .ok (.iadd, 1) := by decide +kernel
theorem dX12_readNumberOf_25 : decode cX12_readNumberOf 25 = .ok (.aload_n 0, 1) := by decide +kernel
theorem dX12_readNumberOf_26 : decode cX12_readNumberOf 26 = .ok (.getfield 294, 3) := by decide +kernel
theorem dX12_readNumberOf_29 : decode cX12_readNumberOf 29 = .ok (.iastore, 1) := by decide +kernel
theorem dX12_readNumberOf_30 : decode cX12_readNumberOf 30 = .ok (.iconst 1, 1) := by decide +kernel
theorem dX12_readNumberOf_31 : decode cX12_readNumberOf 31 = .ok (.ireturn, 1) := by decide +kernel
set_option maxRecDepth 100000 in
set_option maxHeartbeats 4000000 in
theorem rX12_readNumberOf_1 (l : Launch) (D : va_G) (Y : Nat → ClassId) (h0 : Nat) (h1 : Nat) (h2 : Nat) (h3 : Nat) (h4 : Nat) (h5 : Nat) (h6 : Nat) (p2 : Int32) (k5 : Nat) (k6 : Nat) (p7 : Int32) (p8 : Int32) (p9 : Int32) (k10 : Nat) (p11 : Int32) (q12 : Int64) (k15 : Nat) (k16 : Nat) (f0 : Nat → Int32) (f1 : Nat → Int32) (f3 : Nat → Int32) (f4 : Nat → Int32) (f13 : Nat → Int32) (f14 : Nat → Int32) (HI : INV f0) (HL : k5 ≤ 1600) (HP : PLV f13)  (hx0 : k10 ≤ k6) (hx1 : k6 ≤ k5) (hx2 : (p9 = 0 ∨ k10 < k6)) (hx3 : k15 ≤ 39) (sz : Nat) : Met l yX12_readNumberOf (WSm yX12_readNumberOf cX12_readNumberOf 2 (some .boolean)) (mkR 5 0 0 108) (PreC D Y [.ref h0, .int 1] [(h0, oC 13 [.ref h1, .ref h2, .int p2, .ref h3, .ref h4, .int (nI k5), .int (nI k6), .int p7, .int p8, .int p9, .int (nI k10), .int p11, .long q12, .ref h5, .ref h6, .int (nI k15), .int (nI k16)]), (h1, aI Y 3640 f0), (h2, aZ Y 2 f1), (h3, aZ Y 80 f3), (h4, aB Y 1600 f4), (h5, aI Y 200 f13), (h6, aI Y 800 f14)] sz) (QI D (fun (r : Int32) (u : WU) => (r = 0 ∨ (r = 1 ∧ k10 < (u.1 1))) ∧ PLV (u.2.2.2.1 0) ∧ k10 ≤ (u.1 1) ∧ (u.1 1) ≤ (u.1 0) ∧ (u.1 0) ≤ k5 ∧ ((u.2.1 2) = 0 ∨ (u.1 1) < (u.1 0))) (fun (u : WU) => [(h0, oC 13 [.ref h1, .ref h2, .int p2, .ref h3, .ref h4, .int (nI k5), .int (nI (u.1 0)), .int (u.2.1 0), .int (u.2.1 1), .int (u.2.1 2), .int (nI (u.1 1)), .int (u.2.1 3), .long (u.2.2.1 0), .ref h5, .ref h6, .int (nI k15), .int (nI k16)]), (h1, aI Y 3640 f0), (h2, aZ Y 2 f1), (h3, aZ Y 80 f3), (h4, aB Y 1600 f4), (h5, aI Y 200 (u.2.2.2.1 0)), (h6, aI Y 800 f14)]) (va_A [(h0, oC 13 [.ref h1, .ref h2, .int p2, .ref h3, .ref h4, .int (nI k5), .int (nI k6), .int p7, .int p8, .int p9, .int (nI k10), .int p11, .long q12, .ref h5, .ref h6, .int (nI k15), .int (nI k16)]), (h1, aI Y 3640 f0), (h2, aZ Y 2 f1), (h3, aZ Y 80 f3), (h4, aB Y 1600 f4), (h5, aI Y 200 f13), (h6, aI Y 800 f14)] sz)) 0 0 (va_A [(h0, oC 13 [.ref h1, .ref h2, .int p2, .ref h3, .ref h4, .int (nI k5), .int (nI k6), .int p7, .int p8, .int p9, .int (nI k10), .int p11, .long q12, .ref h5, .ref h6, .int (nI k15), .int (nI k16)]), (h1, aI Y 3640 f0), (h2, aZ Y 2 f1), (h3, aZ Y 80 f3), (h4, aB Y 1600 f4), (h5, aI Y 200 f13), (h6, aI Y 800 f14)] sz) :=
  met_of  (by decide +kernel) (Nat.le_of_ble_eq_true rfl) (fun p e s m args below meth c B hin hsz => by
    have B : VB p s m args meth c D Y (va_A [(h0, oC 13 [.ref h1, .ref h2, .int p2, .ref h3, .ref h4, .int (nI k5), .int (nI k6), .int p7, .int p8, .int p9, .int (nI k10), .int p11, .long q12, .ref h5, .ref h6, .int (nI k15), .int (nI k16)]), (h1, aI Y 3640 f0), (h2, aZ Y 2 f1), (h3, aZ Y 80 f3), (h4, aB Y 1600 f4), (h5, aI Y 200 f13), (h6, aI Y 800 f14)] sz) cX12_readNumberOf 2 RX12 (some .boolean) := B
    refine V_aload_n 0 B dX12_readNumberOf_0 0 rfl ?_
    refine V_iconst 1 B (v := 0) dX12_readNumberOf_1 (by decide +kernel) ?_
    refine V_sipush 2 B (v := 999) dX12_readNumberOf_2 (by decide +kernel) ?_
    refine V_cvi 5 B (st := []) (As := [.int 0, .int 999]) (fun sz => rX12_readNumber l D Y h0 h1 h2 h3 h4 h5 h6 p2 k5 k6 p7 p8 p9 k10 p11 q12 k15 k16 f0 f1 f3 f4 f13 f14 HI (by omega) HP 0 999 (by omega) (by omega) (by first | assumption | exact Or.inl rfl | exact Or.inr (by omega)) (by decide +kernel) sz) glV_RX12_301 ⟨rfl, rfl⟩ ⟨(Nat.le_of_ble_eq_true rfl), (Nat.le_of_ble_eq_true rfl)⟩ ⟨(Nat.le_of_ble_eq_true rfl), (Nat.le_of_ble_eq_true rfl)⟩ [0, 0, 0, 0, 0, 0, 0] rfl 13 0 rfl rfl rfl rfl (Nat.le_of_ble_eq_true rfl) rfl (fun _ _ _ => rfl) dX12_readNumberOf_5 (fun j0 u1 w2 => ?_)
    refine V_ws [(h0, oC 13 [.ref h1, .ref h2, .int p2, .ref h3, .ref h4, .int (nI k5), .int (nI (u1.1 0)), .int (u1.2.1 0), .int (u1.2.1 1), .int (u1.2.1 2), .int (nI (u1.1 1)), .int (u1.2.1 3), .long (u1.2.2.1 0), .ref h5, .ref h6, .int (nI k15), .int (nI k16)]), (h1, aI Y 3640 f0), (h2, aZ Y 2 f1), (h3, aZ Y 80 f3), (h4, aB Y 1600 f4), (h5, aI Y 200 f13), (h6, aI Y 800 f14)] rfl ?_
    obtain ⟨x3, x4, x5, x6, x7⟩ := w2
    rcases x3 with rfl | ⟨rfl, x8, x9⟩
    ·
      refine V_if_ne_f 8 B 13 dX12_readNumberOf_8 (by decide) (by decide +kernel) ?_
      refine V_iconst 11 B (v := 0) dX12_readNumberOf_11 (by decide +kernel) ?_
      exact V_zret 12 B rfl dX12_readNumberOf_12 (mkW [(u1.1 0), (u1.1 1)] [(u1.2.1 0), (u1.2.1 1), (u1.2.1 2), (u1.2.1 3)] [(u1.2.2.1 0)] [f13] [] []) ⟨(Or.inl rfl), HP, (show k10 ≤ (u1.1 1) by omega), (show (u1.1 1) ≤ (u1.1 0) by omega), (show (u1.1 0) ≤ k5 by omega), (show ((u1.2.1 2) = 0 ∨ (u1.1 1) < (u1.1 0)) by first | assumption | exact Or.inr (by omega))⟩ rfl
    ·
      have e10 : (0 : Int32).toInt = 0 := by decide +kernel
      have e11 : (999 : Int32).toInt = 999 := by decide +kernel
      generalize u1.2.1 3 = j12 at *
      refine V_if_ne_t 8 B 13 dX12_readNumberOf_8 (by decide) (by decide +kernel) ?_
      refine V_aload_n 13 B dX12_readNumberOf_13 0 rfl ?_
      refine V_get 14 B gf_RX12_28 0 rfl rfl dX12_readNumberOf_14 ?_
      refine V_iconst 17 B (v := 5) dX12_readNumberOf_17 (by decide +kernel) ?_
      refine V_aload_n 18 B dX12_readNumberOf_18 0 rfl ?_
      refine V_get 19 B gf_RX12_361 0 rfl rfl dX12_readNumberOf_19 ?_
      refine V_imul 22 B (v := (nI (5 * k15))) dX12_readNumberOf_22 (nI_mulE (a := 5) (b := k15) (by omega)) ?_
      refine V_iload_n 23 B dX12_readNumberOf_23 1 rfl ?_
      refine V_iadd 24 B (v := (nI (1 + 5 * k15))) dX12_readNumberOf_24 (nI_addE (a := 5 * k15) (b := 1) (by omega)) ?_
      refine V_aload_n 25 B dX12_readNumberOf_25 0 rfl ?_
      refine V_get 26 B gf_RX12_294 0 rfl rfl dX12_readNumberOf_26 ?_
      have x13 : PLV (upd f13 (1 + 5 * k15) j12) := PLV_fr HP (by omega)
      refine V_iast 29 B 5 rfl (vp_in_nI (n := 1 + 5 * k15) (by omega) (by decide)) dX12_readNumberOf_29 [(h0, oC 13 [.ref h1, .ref h2, .int p2, .ref h3, .ref h4, .int (nI k5), .int (nI (u1.1 0)), .int (u1.2.1 0), .int (u1.2.1 1), .int (u1.2.1 2), .int (nI (u1.1 1)), .int j12, .long (u1.2.2.1 0), .ref h5, .ref h6, .int (nI k15), .int (nI k16)]), (h1, aI Y 3640 f0), (h2, aZ Y 2 f1), (h3, aZ Y 80 f3), (h4, aB Y 1600 f4), (h5, aI Y 200 (upd f13 (1 + 5 * k15) j12)), (h6, aI Y 800 f14)] (by rw [nI_clamp (show 1 + 5 * k15 < 2 ^ 31 by omega)]; rfl) ?_
      refine V_iconst 30 B (v := 1) dX12_readNumberOf_30 (by decide +kernel) ?_
      exact V_zret 31 B rfl dX12_readNumberOf_31 (mkW [(u1.1 0), (u1.1 1)] [(u1.2.1 0), (u1.2.1 1), (u1.2.1 2), j12] [(u1.2.2.1 0)] [(upd f13 (1 + 5 * k15) j12)] [] []) ⟨(Or.inr ⟨rfl, (show k10 < (u1.1 1) by omega)⟩), x13, (show k10 ≤ (u1.1 1) by omega), (show (u1.1 1) ≤ (u1.1 0) by omega), (show (u1.1 0) ≤ k5 by omega), (show ((u1.2.1 2) = 0 ∨ (u1.1 1) < (u1.1 0)) by first | assumption | exact Or.inr (by omega))⟩ rfl)
theorem glV_RX12_367 : GLV RX12 367 yX12_readNumberOf RX12 cX12_readNumberOf 2 (some .boolean) 1 := ⟨⟨(mT10 66 rfl rfl), (mT10 68 rfl rfl), (mTs 94 rfl rfl), (mT1 13 rfl rfl), (mT10 69 rfl rfl)⟩, by decide +kernel⟩
theorem dX12_readPlayed_129 : decode cX12_readPlayed 129 = .ok (.istore_n 3, 1) := by decide +kernel
theorem dX12_readPlayed_130 : decode cX12_readPlayed 130 = .ok (.goto 40, 3) := by decide +kernel
theorem dX12_readPlayed_133 : decode cX12_readPlayed 133 = .ok (.aload_n 0, 1) := by decide +kernel
theorem dX12_readPlayed_134 : decode cX12_readPlayed 134 = .ok (.invokevirtual 370, 3) := by decide +kernel
theorem glV_RX12_370 : GLV RX12 370 yX12_readStrokes RX12 cX12_readStrokes 3 (some .boolean) 0 := ⟨⟨(mT10 70 rfl rfl), (mT10 72 rfl rfl), (mTs 95 rfl rfl), (mT1 13 rfl rfl), (mT10 73 rfl rfl)⟩, by decide +kernel⟩
theorem dX12_readPlayed_137 : decode cX12_readPlayed 137 = .ok (.istore_n 3, 1) := by decide +kernel
theorem dX12_readPlayed_138 : decode cX12_readPlayed 138 = .ok (.goto 32, 3) := by decide +kernel
theorem dX12_readPlayed_141 : decode cX12_readPlayed 141 = .ok (.aload_n 0, 1) := by decide +kernel
theorem dX12_readPlayed_142 : decode cX12_readPlayed 142 = .ok (.iconst 1, 1) := by decide +kernel
theorem dX12_readPlayed_143 : decode cX12_readPlayed 143 = .ok (.invokevirtual 367, 3) := by decide +kernel
theorem dX12_readPlayed_146 : decode cX12_readPlayed 146 = .ok (.ifCond .eq 22, 3) := by decide +kernel
theorem dX12_readPlayed_168 : decode cX12_readPlayed 168 = .ok (.iconst 0, 1) := by decide +kernel
theorem dX12_readPlayed_169 : decode cX12_readPlayed 169 = .ok (.istore_n 3, 1) := by decide +kernel
theorem dX12_readPlayed_149 : decode cX12_readPlayed 149 = .ok (.aload_n 0, 1) := by decide +kernel
theorem dX12_readPlayed_150 : decode cX12_readPlayed 150 = .ok (.iconst 2, 1) := by decide +kernel
theorem dX12_readPlayed_151 : decode cX12_readPlayed 151 = .ok (.invokevirtual 367, 3) := by decide +kernel
set_option maxRecDepth 100000 in
set_option maxHeartbeats 4000000 in
theorem rX12_readNumberOf_2 (l : Launch) (D : va_G) (Y : Nat → ClassId) (h0 : Nat) (h1 : Nat) (h2 : Nat) (h3 : Nat) (h4 : Nat) (h5 : Nat) (h6 : Nat) (p2 : Int32) (k5 : Nat) (k6 : Nat) (p7 : Int32) (p8 : Int32) (p9 : Int32) (k10 : Nat) (p11 : Int32) (q12 : Int64) (k15 : Nat) (k16 : Nat) (f0 : Nat → Int32) (f1 : Nat → Int32) (f3 : Nat → Int32) (f4 : Nat → Int32) (f13 : Nat → Int32) (f14 : Nat → Int32) (HI : INV f0) (HL : k5 ≤ 1600) (HP : PLV f13)  (hx0 : k10 ≤ k6) (hx1 : k6 ≤ k5) (hx2 : (p9 = 0 ∨ k10 < k6)) (hx3 : k15 ≤ 39) (sz : Nat) : Met l yX12_readNumberOf (WSm yX12_readNumberOf cX12_readNumberOf 2 (some .boolean)) (mkR 5 0 0 108) (PreC D Y [.ref h0, .int 2] [(h0, oC 13 [.ref h1, .ref h2, .int p2, .ref h3, .ref h4, .int (nI k5), .int (nI k6), .int p7, .int p8, .int p9, .int (nI k10), .int p11, .long q12, .ref h5, .ref h6, .int (nI k15), .int (nI k16)]), (h1, aI Y 3640 f0), (h2, aZ Y 2 f1), (h3, aZ Y 80 f3), (h4, aB Y 1600 f4), (h5, aI Y 200 f13), (h6, aI Y 800 f14)] sz) (QI D (fun (r : Int32) (u : WU) => (r = 0 ∨ (r = 1 ∧ k10 < (u.1 1))) ∧ PLV (u.2.2.2.1 0) ∧ k10 ≤ (u.1 1) ∧ (u.1 1) ≤ (u.1 0) ∧ (u.1 0) ≤ k5 ∧ ((u.2.1 2) = 0 ∨ (u.1 1) < (u.1 0))) (fun (u : WU) => [(h0, oC 13 [.ref h1, .ref h2, .int p2, .ref h3, .ref h4, .int (nI k5), .int (nI (u.1 0)), .int (u.2.1 0), .int (u.2.1 1), .int (u.2.1 2), .int (nI (u.1 1)), .int (u.2.1 3), .long (u.2.2.1 0), .ref h5, .ref h6, .int (nI k15), .int (nI k16)]), (h1, aI Y 3640 f0), (h2, aZ Y 2 f1), (h3, aZ Y 80 f3), (h4, aB Y 1600 f4), (h5, aI Y 200 (u.2.2.2.1 0)), (h6, aI Y 800 f14)]) (va_A [(h0, oC 13 [.ref h1, .ref h2, .int p2, .ref h3, .ref h4, .int (nI k5), .int (nI k6), .int p7, .int p8, .int p9, .int (nI k10), .int p11, .long q12, .ref h5, .ref h6, .int (nI k15), .int (nI k16)]), (h1, aI Y 3640 f0), (h2, aZ Y 2 f1), (h3, aZ Y 80 f3), (h4, aB Y 1600 f4), (h5, aI Y 200 f13), (h6, aI Y 800 f14)] sz)) 0 0 (va_A [(h0, oC 13 [.ref h1, .ref h2, .int p2, .ref h3, .ref h4, .int (nI k5), .int (nI k6), .int p7, .int p8, .int p9, .int (nI k10), .int p11, .long q12, .ref h5, .ref h6, .int (nI k15), .int (nI k16)]), (h1, aI Y 3640 f0), (h2, aZ Y 2 f1), (h3, aZ Y 80 f3), (h4, aB Y 1600 f4), (h5, aI Y 200 f13), (h6, aI Y 800 f14)] sz) :=
  met_of  (by decide +kernel) (Nat.le_of_ble_eq_true rfl) (fun p e s m args below meth c B hin hsz => by
    have B : VB p s m args meth c D Y (va_A [(h0, oC 13 [.ref h1, .ref h2, .int p2, .ref h3, .ref h4, .int (nI k5), .int (nI k6), .int p7, .int p8, .int p9, .int (nI k10), .int p11, .long q12, .ref h5, .ref h6, .int (nI k15), .int (nI k16)]), (h1, aI Y 3640 f0), (h2, aZ Y 2 f1), (h3, aZ Y 80 f3), (h4, aB Y 1600 f4), (h5, aI Y 200 f13), (h6, aI Y 800 f14)] sz) cX12_readNumberOf 2 RX12 (some .boolean) := B
    refine V_aload_n 0 B dX12_readNumberOf_0 0 rfl ?_
    refine V_iconst 1 B (v := 0) dX12_readNumberOf_1 (by decide +kernel) ?_
    refine V_sipush 2 B (v := 999) dX12_readNumberOf_2 (by decide +kernel) ?_
    refine V_cvi 5 B (st := []) (As := [.int 0, .int 999]) (fun sz => rX12_readNumber l D Y h0 h1 h2 h3 h4 h5 h6 p2 k5 k6 p7 p8 p9 k10 p11 q12 k15 k16 f0 f1 f3 f4 f13 f14 HI (by omega) HP 0 999 (by omega) (by omega) (by first | assumption | exact Or.inl rfl | exact Or.inr (by omega)) (by decide +kernel) sz) glV_RX12_301 ⟨rfl, rfl⟩ ⟨(Nat.le_of_ble_eq_true rfl), (Nat.le_of_ble_eq_true rfl)⟩ ⟨(Nat.le_of_ble_eq_true rfl), (Nat.le_of_ble_eq_true rfl)⟩ [0, 0, 0, 0, 0, 0, 0] rfl 13 0 rfl rfl rfl rfl (Nat.le_of_ble_eq_true rfl) rfl (fun _ _ _ => rfl) dX12_readNumberOf_5 (fun j0 u1 w2 => ?_)
    refine V_ws [(h0, oC 13 [.ref h1, .ref h2, .int p2, .ref h3, .ref h4, .int (nI k5), .int (nI (u1.1 0)), .int (u1.2.1 0), .int (u1.2.1 1), .int (u1.2.1 2), .int (nI (u1.1 1)), .int (u1.2.1 3), .long (u1.2.2.1 0), .ref h5, .ref h6, .int (nI k15), .int (nI k16)]), (h1, aI Y 3640 f0), (h2, aZ Y 2 f1), (h3, aZ Y 80 f3), (h4, aB Y 1600 f4), (h5, aI Y 200 f13), (h6, aI Y 800 f14)] rfl ?_
    obtain ⟨x3, x4, x5, x6, x7⟩ := w2
    rcases x3 with rfl | ⟨rfl, x8, x9⟩
    ·
      refine V_if_ne_f 8 B 13 dX12_readNumberOf_8 (by decide) (by decide +kernel) ?_
      refine V_iconst 11 B (v := 0) dX12_readNumberOf_11 (by decide +kernel) ?_
      exact V_zret 12 B rfl dX12_readNumberOf_12 (mkW [(u1.1 0), (u1.1 1)] [(u1.2.1 0), (u1.2.1 1), (u1.2.1 2), (u1.2.1 3)] [(u1.2.2.1 0)] [f13] [] []) ⟨(Or.inl rfl), HP, (show k10 ≤ (u1.1 1) by omega), (show (u1.1 1) ≤ (u1.1 0) by omega), (show (u1.1 0) ≤ k5 by omega), (show ((u1.2.1 2) = 0 ∨ (u1.1 1) < (u1.1 0)) by first | assumption | exact Or.inr (by omega))⟩ rfl
    ·
      have e10 : (0 : Int32).toInt = 0 := by decide +kernel
      have e11 : (999 : Int32).toInt = 999 := by decide +kernel
      generalize u1.2.1 3 = j12 at *
      refine V_if_ne_t 8 B 13 dX12_readNumberOf_8 (by decide) (by decide +kernel) ?_
      refine V_aload_n 13 B dX12_readNumberOf_13 0 rfl ?_
      refine V_get 14 B gf_RX12_28 0 rfl rfl dX12_readNumberOf_14 ?_
      refine V_iconst 17 B (v := 5) dX12_readNumberOf_17 (by decide +kernel) ?_
      refine V_aload_n 18 B dX12_readNumberOf_18 0 rfl ?_
      refine V_get 19 B gf_RX12_361 0 rfl rfl dX12_readNumberOf_19 ?_
      refine V_imul 22 B (v := (nI (5 * k15))) dX12_readNumberOf_22 (nI_mulE (a := 5) (b := k15) (by omega)) ?_
      refine V_iload_n 23 B dX12_readNumberOf_23 1 rfl ?_
      refine V_iadd 24 B (v := (nI (2 + 5 * k15))) dX12_readNumberOf_24 (nI_addE (a := 5 * k15) (b := 2) (by omega)) ?_
      refine V_aload_n 25 B dX12_readNumberOf_25 0 rfl ?_
      refine V_get 26 B gf_RX12_294 0 rfl rfl dX12_readNumberOf_26 ?_
      have x13 : PLV (upd f13 (2 + 5 * k15) j12) := PLV_fr HP (by omega)
      refine V_iast 29 B 5 rfl (vp_in_nI (n := 2 + 5 * k15) (by omega) (by decide)) dX12_readNumberOf_29 [(h0, oC 13 [.ref h1, .ref h2, .int p2, .ref h3, .ref h4, .int (nI k5), .int (nI (u1.1 0)), .int (u1.2.1 0), .int (u1.2.1 1), .int (u1.2.1 2), .int (nI (u1.1 1)), .int j12, .long (u1.2.2.1 0), .ref h5, .ref h6, .int (nI k15), .int (nI k16)]), (h1, aI Y 3640 f0), (h2, aZ Y 2 f1), (h3, aZ Y 80 f3), (h4, aB Y 1600 f4), (h5, aI Y 200 (upd f13 (2 + 5 * k15) j12)), (h6, aI Y 800 f14)] (by rw [nI_clamp (show 2 + 5 * k15 < 2 ^ 31 by omega)]; rfl) ?_
      refine V_iconst 30 B (v := 1) dX12_readNumberOf_30 (by decide +kernel) ?_
      exact V_zret 31 B rfl dX12_readNumberOf_31 (mkW [(u1.1 0), (u1.1 1)] [(u1.2.1 0), (u1.2.1 1), (u1.2.1 2), j12] [(u1.2.2.1 0)] [(upd f13 (2 + 5 * k15) j12)] [] []) ⟨(Or.inr ⟨rfl, (show k10 < (u1.1 1) by omega)⟩), x13, (show k10 ≤ (u1.1 1) by omega), (show (u1.1 1) ≤ (u1.1 0) by omega), (show (u1.1 0) ≤ k5 by omega), (show ((u1.2.1 2) = 0 ∨ (u1.1 1) < (u1.1 0)) by first | assumption | exact Or.inr (by omega))⟩ rfl)
theorem dX12_readPlayed_154 : decode cX12_readPlayed 154 = .ok (.ifCond .eq 14, 3) := by decide +kernel
theorem dX12_readPlayed_157 : decode cX12_readPlayed 157 = .ok (.aload_n 0, 1) := by decide +kernel
theorem dX12_readPlayed_158 : decode cX12_readPlayed 158 = .ok (.invokevirtual 370, 3) := by decide +kernel
theorem dX12_readPlayed_161 : decode cX12_readPlayed 161 = .ok (.ifCond .eq 7, 3) := by decide +kernel
theorem dX12_readPlayed_164 : decode cX12_readPlayed 164 = .ok (.iconst 1, 1) := by decide +kernel
theorem dX12_readPlayed_165 : decode cX12_readPlayed 165 = .ok (.goto 4, 3) := by decide +kernel
theorem dX12_readPlayed_25 : decode cX12_readPlayed 25 = .ok (.aload_n 0, 1) := by decide +kernel
theorem dX12_readPlayed_26 : decode cX12_readPlayed 26 = .ok (.iconst 3, 1) := by decide +kernel
theorem dX12_readPlayed_27 : decode cX12_readPlayed 27 = .ok (.invokevirtual 291, 3) := by decide +kernel
theorem dX12_readPlayed_30 : decode cX12_readPlayed 30 = .ok (.ireturn, 1) := by decide +kernel
theorem dX12_readPlayed_10 : decode cX12_readPlayed 10 = .ok (.aload_n 0, 1) := by decide +kernel
theorem dX12_readPlayed_11 : decode cX12_readPlayed 11 = .ok (.iconst 1, 1) := by decide +kernel
theorem dX12_readPlayed_12 : decode cX12_readPlayed 12 = .ok (.invokevirtual 291, 3) := by decide +kernel
theorem dX12_readPlayed_15 : decode cX12_readPlayed 15 = .ok (.ireturn, 1) := by decide +kernel
set_option maxRecDepth 100000 in
set_option maxHeartbeats 4000000 in
theorem rX12_readPlayed (l : Launch) (D : va_G) (Y : Nat → ClassId) (h0 : Nat) (h1 : Nat) (h2 : Nat) (h3 : Nat) (h4 : Nat) (h5 : Nat) (h6 : Nat) (p2 : Int32) (k5 : Nat) (k6 : Nat) (p7 : Int32) (p8 : Int32) (p9 : Int32) (k10 : Nat) (p11 : Int32) (q12 : Int64) (k15 : Nat) (k16 : Nat) (f0 : Nat → Int32) (f1 : Nat → Int32) (f3 : Nat → Int32) (f4 : Nat → Int32) (f13 : Nat → Int32) (f14 : Nat → Int32) (HI : INV f0) (HL : k5 ≤ 1600) (HP : PLV f13)  (hx0 : k10 ≤ k6) (hx1 : k6 ≤ k5) (hx2 : (p9 = 0 ∨ k10 < k6)) (hx3 : k10 < k6) (hx4 : k15 ≤ 40) (hx5 : k16 ≤ 4 * k15) (sz : Nat) : Met l yX12_readPlayed (WSm yX12_readPlayed cX12_readPlayed 4 (some .boolean)) (mkR 6 0 0 129) (PreC D Y [.ref h0] [(h0, oC 13 [.ref h1, .ref h2, .int p2, .ref h3, .ref h4, .int (nI k5), .int (nI k6), .int p7, .int p8, .int p9, .int (nI k10), .int p11, .long q12, .ref h5, .ref h6, .int (nI k15), .int (nI k16)]), (h1, aI Y 3640 f0), (h2, aZ Y 2 f1), (h3, aZ Y 80 f3), (h4, aB Y 1600 f4), (h5, aI Y 200 f13), (h6, aI Y 800 f14)] sz) (QI D (fun (r : Int32) (u : WU) => (r = 0 ∨ (r = 1 ∧ k10 < (u.1 1))) ∧ PLV (u.2.2.2.1 0) ∧ k10 ≤ (u.1 1) ∧ (u.1 1) ≤ (u.1 0) ∧ (u.1 0) ≤ k5 ∧ ((u.2.1 2) = 0 ∨ (u.1 1) < (u.1 0)) ∧ (u.1 2) ≤ 40 ∧ (u.1 3) ≤ 4 * (u.1 2)) (fun (u : WU) => [(h0, oC 13 [.ref h1, .ref h2, .int p2, .ref h3, .ref h4, .int (nI k5), .int (nI (u.1 0)), .int (u.2.1 0), .int (u.2.1 1), .int (u.2.1 2), .int (nI (u.1 1)), .int (u.2.1 3), .long (u.2.2.1 0), .ref h5, .ref h6, .int (nI (u.1 2)), .int (nI (u.1 3))]), (h1, aI Y 3640 f0), (h2, aZ Y 2 f1), (h3, aZ Y 80 f3), (h4, aB Y 1600 f4), (h5, aI Y 200 (u.2.2.2.1 0)), (h6, aI Y 800 (u.2.2.2.1 1))]) (va_A [(h0, oC 13 [.ref h1, .ref h2, .int p2, .ref h3, .ref h4, .int (nI k5), .int (nI k6), .int p7, .int p8, .int p9, .int (nI k10), .int p11, .long q12, .ref h5, .ref h6, .int (nI k15), .int (nI k16)]), (h1, aI Y 3640 f0), (h2, aZ Y 2 f1), (h3, aZ Y 80 f3), (h4, aB Y 1600 f4), (h5, aI Y 200 f13), (h6, aI Y 800 f14)] sz)) 0 0 (va_A [(h0, oC 13 [.ref h1, .ref h2, .int p2, .ref h3, .ref h4, .int (nI k5), .int (nI k6), .int p7, .int p8, .int p9, .int (nI k10), .int p11, .long q12, .ref h5, .ref h6, .int (nI k15), .int (nI k16)]), (h1, aI Y 3640 f0), (h2, aZ Y 2 f1), (h3, aZ Y 80 f3), (h4, aB Y 1600 f4), (h5, aI Y 200 f13), (h6, aI Y 800 f14)] sz) :=
  met_of  (by decide +kernel) (Nat.le_of_ble_eq_true rfl) (fun p e s m args below meth c B hin hsz => by
    have B : VB p s m args meth c D Y (va_A [(h0, oC 13 [.ref h1, .ref h2, .int p2, .ref h3, .ref h4, .int (nI k5), .int (nI k6), .int p7, .int p8, .int p9, .int (nI k10), .int p11, .long q12, .ref h5, .ref h6, .int (nI k15), .int (nI k16)]), (h1, aI Y 3640 f0), (h2, aZ Y 2 f1), (h3, aZ Y 80 f3), (h4, aB Y 1600 f4), (h5, aI Y 200 f13), (h6, aI Y 800 f14)] sz) cX12_readPlayed 4 RX12 (some .boolean) := B
    refine V_aload_n 0 B dX12_readPlayed_0 0 rfl ?_
    refine V_cvi 1 B (st := []) (As := []) (fun sz => rX12_commandHere l D Y h0 h1 h2 h3 h4 h5 h6 p2 k5 k6 p7 p8 p9 k10 p11 q12 k15 k16 f0 f1 f3 f4 f13 f14 HI (by omega) HP sz) glV_RX12_364 ⟨rfl, rfl⟩ ⟨(Nat.le_of_ble_eq_true rfl), (Nat.le_of_ble_eq_true rfl)⟩ ⟨(Nat.le_of_ble_eq_true rfl), (Nat.le_of_ble_eq_true rfl)⟩ [0, 0, 0, 0, 0, 0, 0] rfl 13 0 rfl rfl rfl rfl (Nat.le_of_ble_eq_true rfl) rfl (fun _ _ _ => rfl) dX12_readPlayed_1 (fun j0 u1 w2 => ?_)
    refine V_ws [(h0, oC 13 [.ref h1, .ref h2, .int p2, .ref h3, .ref h4, .int (nI k5), .int (nI k6), .int p7, .int p8, .int p9, .int (nI k10), .int p11, .long q12, .ref h5, .ref h6, .int (nI k15), .int (nI k16)]), (h1, aI Y 3640 f0), (h2, aZ Y 2 f1), (h3, aZ Y 80 f3), (h4, aB Y 1600 f4), (h5, aI Y 200 f13), (h6, aI Y 800 f14)] rfl ?_
    refine V_istore_n 4 B (lv2 := [(1, .int j0), (0, .ref h0)]) dX12_readPlayed_4 (by decide) rfl ?_
    refine V_iload_n 5 B dX12_readPlayed_5 0 rfl ?_
    refine V_iconst 6 B (v := (-1)) dX12_readPlayed_6 (by decide +kernel) ?_
    refine V_icmp_ne 7 B 16 dX12_readPlayed_7 (by decide) (fun kk3 => ?_) (fun kk3 => ?_)
    ·
      have x4 := x_ne kk3
      rw [show ((-1) : Int32).toInt = (-1) by decide +kernel] at x4
      refine V_aload_n 16 B dX12_readPlayed_16 1 rfl ?_
      refine V_get 17 B gf_RX12_361 0 rfl rfl dX12_readPlayed_17 ?_
      refine V_bipush 20 B (v := 40) dX12_readPlayed_20 (by decide +kernel) ?_
      refine V_icmp_ne 22 B 31 dX12_readPlayed_22 (by decide) (fun kk5 => ?_) (fun kk5 => ?_)
      ·
        have x6 := n_ne (a := k15) (b := 40) kk5
        refine V_aload_n 31 B dX12_readPlayed_31 1 rfl ?_
        refine V_cvv 32 B (st := []) (As := []) (fun sz => rX12_advance l D Y h0 h1 h2 h3 h4 h5 h6 p2 k5 k6 p7 p8 p9 k10 p11 q12 k15 k16 f0 f1 f3 f4 f13 f14 HI (by omega) HP (by omega) sz) glV_RX12_288 ⟨rfl, rfl⟩ ⟨(Nat.le_of_ble_eq_true rfl), (Nat.le_of_ble_eq_true rfl)⟩ ⟨(Nat.le_of_ble_eq_true rfl), (Nat.le_of_ble_eq_true rfl)⟩ [0, 0, 0, 0, 0, 0, 0] rfl 13 0 rfl rfl rfl rfl (Nat.le_of_ble_eq_true rfl) rfl (fun _ _ => rfl) dX12_readPlayed_32 (fun u8 w9 => ?_)
        refine V_ws [(h0, oC 13 [.ref h1, .ref h2, .int p2, .ref h3, .ref h4, .int (nI k5), .int (nI (u8.1 0)), .int p7, .int p8, .int (u8.2.1 0), .int (nI (u8.1 1)), .int p11, .long (u8.2.2.1 0), .ref h5, .ref h6, .int (nI k15), .int (nI k16)]), (h1, aI Y 3640 f0), (h2, aZ Y 2 f1), (h3, aZ Y 80 f3), (h4, aB Y 1600 f4), (h5, aI Y 200 f13), (h6, aI Y 800 f14)] rfl ?_
        obtain ⟨x10, x11, x12, x13⟩ := w9
        refine V_iconst 35 B (v := 5) dX12_readPlayed_35 (by decide +kernel) ?_
        refine V_aload_n 36 B dX12_readPlayed_36 1 rfl ?_
        refine V_get 37 B gf_RX12_361 0 rfl rfl dX12_readPlayed_37 ?_
        refine V_imul 40 B (v := (nI (5 * k15))) dX12_readPlayed_40 (nI_mulE (a := 5) (b := k15) (by omega)) ?_
        refine V_istore_n 41 B (lv2 := [(2, .int (nI (5 * k15))), (1, .int j0), (0, .ref h0)]) dX12_readPlayed_41 (by decide) rfl ?_
        refine V_aload_n 42 B dX12_readPlayed_42 2 rfl ?_
        refine V_get 43 B gf_RX12_28 0 rfl rfl dX12_readPlayed_43 ?_
        refine V_iload_n 46 B dX12_readPlayed_46 0 rfl ?_
        refine V_iload_n 47 B dX12_readPlayed_47 1 rfl ?_
        have x14 : PLV (upd f13 (5 * k15) j0) := PLV_fr HP (by omega)
        refine V_iast 48 B 5 rfl (vp_in_nI (n := 5 * k15) (by omega) (by decide)) dX12_readPlayed_48 [(h0, oC 13 [.ref h1, .ref h2, .int p2, .ref h3, .ref h4, .int (nI k5), .int (nI (u8.1 0)), .int p7, .int p8, .int (u8.2.1 0), .int (nI (u8.1 1)), .int p11, .long (u8.2.2.1 0), .ref h5, .ref h6, .int (nI k15), .int (nI k16)]), (h1, aI Y 3640 f0), (h2, aZ Y 2 f1), (h3, aZ Y 80 f3), (h4, aB Y 1600 f4), (h5, aI Y 200 (upd f13 (5 * k15) j0)), (h6, aI Y 800 f14)] (by rw [nI_clamp (show 5 * k15 < 2 ^ 31 by omega)]; rfl) ?_
        refine V_aload_n 49 B dX12_readPlayed_49 2 rfl ?_
        refine V_get 50 B gf_RX12_28 0 rfl rfl dX12_readPlayed_50 ?_
        refine V_iload_n 53 B dX12_readPlayed_53 0 rfl ?_
        refine V_iconst 54 B (v := 3) dX12_readPlayed_54 (by decide +kernel) ?_
        refine V_iadd 55 B (v := (nI (3 + 5 * k15))) dX12_readPlayed_55 (nI_addE (a := 5 * k15) (b := 3) (by omega)) ?_
        refine V_aload_n 56 B dX12_readPlayed_56 2 rfl ?_
        refine V_get 57 B gf_RX12_358 0 rfl rfl dX12_readPlayed_57 ?_
        have x15 : PLV (upd (upd f13 (5 * k15) j0) (3 + 5 * k15) (nI k16)) := PLV_3 x14 (by omega) (by rw [nI_toInt (show k16 < 2 ^ 31 by omega)]; omega) (by rw [nI_toInt (show k16 < 2 ^ 31 by omega)]; omega)
        refine V_iast 60 B 5 rfl (vp_in_nI (n := 3 + 5 * k15) (by omega) (by decide)) dX12_readPlayed_60 [(h0, oC 13 [.ref h1, .ref h2, .int p2, .ref h3, .ref h4, .int (nI k5), .int (nI (u8.1 0)), .int p7, .int p8, .int (u8.2.1 0), .int (nI (u8.1 1)), .int p11, .long (u8.2.2.1 0), .ref h5, .ref h6, .int (nI k15), .int (nI k16)]), (h1, aI Y 3640 f0), (h2, aZ Y 2 f1), (h3, aZ Y 80 f3), (h4, aB Y 1600 f4), (h5, aI Y 200 (upd (upd f13 (5 * k15) j0) (3 + 5 * k15) (nI k16))), (h6, aI Y 800 f14)] (by rw [nI_clamp (show 3 + 5 * k15 < 2 ^ 31 by omega)]; rfl) ?_
        refine V_iconst 61 B (v := 1) dX12_readPlayed_61 (by decide +kernel) ?_
        refine V_istore_n 62 B (lv2 := [(3, .int 1), (2, .int (nI (5 * k15))), (1, .int j0), (0, .ref h0)]) dX12_readPlayed_62 (by decide) rfl ?_
        refine V_iload_n 63 B dX12_readPlayed_63 2 rfl ?_
        by_cases kk16 : j0 = 0
        ·
          refine V_eqi _ 0 kk16 ?_
          refine V_tableIn 64 B 104 dX12_readPlayed_64 (by decide +kernel) (by decide +kernel) (off := 40) (by decide +kernel) (by decide) ?_
          refine V_aload_n 104 B dX12_readPlayed_104 3 rfl ?_
          refine V_cvi 105 B (st := []) (As := []) (fun sz => rX12_readKey l D Y h0 h1 h2 h3 h4 h5 h6 p2 k5 (u8.1 0) p7 p8 (u8.2.1 0) (u8.1 1) p11 (u8.2.2.1 0) k15 k16 f0 f1 f3 f4 (upd (upd f13 (5 * k15) j0) (3 + 5 * k15) (nI k16)) f14 HI (by omega) x15 (by omega) (by omega) (by first | assumption | exact Or.inl rfl | exact Or.inr (by omega)) sz) glV_RX12_316 ⟨rfl, rfl⟩ ⟨(Nat.le_of_ble_eq_true rfl), (Nat.le_of_ble_eq_true rfl)⟩ ⟨(Nat.le_of_ble_eq_true rfl), (Nat.le_of_ble_eq_true rfl)⟩ [0, 0, 0, 0, 0, 0, 0] rfl 13 0 rfl rfl rfl rfl (Nat.le_of_ble_eq_true rfl) rfl (fun _ _ _ => rfl) dX12_readPlayed_105 (fun j17 u18 w19 => ?_)
          refine V_ws [(h0, oC 13 [.ref h1, .ref h2, .int p2, .ref h3, .ref h4, .int (nI k5), .int (nI (u18.1 0)), .int (u18.2.1 0), .int (u18.2.1 1), .int (u18.2.1 2), .int (nI (u18.1 1)), .int (u18.2.1 3), .long (u18.2.2.1 0), .ref h5, .ref h6, .int (nI k15), .int (nI k16)]), (h1, aI Y 3640 f0), (h2, aZ Y 2 f1), (h3, aZ Y 80 f3), (h4, aB Y 1600 f4), (h5, aI Y 200 (upd (upd f13 (5 * k15) j0) (3 + 5 * k15) (nI k16))), (h6, aI Y 800 f14)] rfl ?_
          obtain ⟨x20, x21, x22, x23, x24⟩ := w19
          rcases x20 with rfl | ⟨rfl, x25, x26⟩
          ·
            refine V_istore_n 108 B (lv2 := [(3, .int 0), (2, .int (nI (5 * k15))), (1, .int j0), (0, .ref h0)]) dX12_readPlayed_108 (by decide) rfl ?_
            refine V_aload_n 109 B dX12_readPlayed_109 3 rfl ?_
            refine V_get 110 B gf_RX12_28 0 rfl rfl dX12_readPlayed_110 ?_
            refine V_iload_n 113 B dX12_readPlayed_113 1 rfl ?_
            refine V_iconst 114 B (v := 1) dX12_readPlayed_114 (by decide +kernel) ?_
            refine V_iadd 115 B (v := (nI (1 + 5 * k15))) dX12_readPlayed_115 (nI_addE (a := 5 * k15) (b := 1) (by omega)) ?_
            refine V_aload_n 116 B dX12_readPlayed_116 3 rfl ?_
            refine V_get 117 B gf_RX12_294 0 rfl rfl dX12_readPlayed_117 ?_
            have x27 : PLV (upd (upd (upd f13 (5 * k15) j0) (3 + 5 * k15) (nI k16)) (1 + 5 * k15) (u18.2.1 3)) := PLV_fr x15 (by omega)
            refine V_iast 120 B 5 rfl (vp_in_nI (n := 1 + 5 * k15) (by omega) (by decide)) dX12_readPlayed_120 [(h0, oC 13 [.ref h1, .ref h2, .int p2, .ref h3, .ref h4, .int (nI k5), .int (nI (u18.1 0)), .int (u18.2.1 0), .int (u18.2.1 1), .int (u18.2.1 2), .int (nI (u18.1 1)), .int (u18.2.1 3), .long (u18.2.2.1 0), .ref h5, .ref h6, .int (nI k15), .int (nI k16)]), (h1, aI Y 3640 f0), (h2, aZ Y 2 f1), (h3, aZ Y 80 f3), (h4, aB Y 1600 f4), (h5, aI Y 200 (upd (upd (upd f13 (5 * k15) j0) (3 + 5 * k15) (nI k16)) (1 + 5 * k15) (u18.2.1 3))), (h6, aI Y 800 f14)] (by rw [nI_clamp (show 1 + 5 * k15 < 2 ^ 31 by omega)]; rfl) ?_
            refine V_goto 121 B 170 dX12_readPlayed_121 (by decide) ?_
            refine V_aload_n 170 B dX12_readPlayed_170 3 rfl ?_
            refine V_dup 171 B dX12_readPlayed_171 rfl ?_
            refine V_get 172 B gf_RX12_361 0 rfl rfl dX12_readPlayed_172 ?_
            refine V_iconst 175 B (v := 1) dX12_readPlayed_175 (by decide +kernel) ?_
            refine V_iadd 176 B (v := (nI (1 + k15))) dX12_readPlayed_176 (nI_addE (a := k15) (b := 1) (by omega)) ?_
            refine V_put 177 B gp_RX12_361 0 rfl (Nat.le_of_ble_eq_true rfl) rfl rfl dX12_readPlayed_177 [(h0, oC 13 [.ref h1, .ref h2, .int p2, .ref h3, .ref h4, .int (nI k5), .int (nI (u18.1 0)), .int (u18.2.1 0), .int (u18.2.1 1), .int (u18.2.1 2), .int (nI (u18.1 1)), .int (u18.2.1 3), .long (u18.2.2.1 0), .ref h5, .ref h6, .int (nI (1 + k15)), .int (nI k16)]), (h1, aI Y 3640 f0), (h2, aZ Y 2 f1), (h3, aZ Y 80 f3), (h4, aB Y 1600 f4), (h5, aI Y 200 (upd (upd (upd f13 (5 * k15) j0) (3 + 5 * k15) (nI k16)) (1 + 5 * k15) (u18.2.1 3))), (h6, aI Y 800 f14)] rfl ?_
            refine V_iload_n 180 B dX12_readPlayed_180 0 rfl ?_
            refine V_if_eq_t 181 B 195 dX12_readPlayed_181 (by decide) (by decide +kernel) ?_
            refine V_iconst 195 B (v := 0) dX12_readPlayed_195 (by decide +kernel) ?_
            exact V_zret 196 B rfl dX12_readPlayed_196 (mkW [(u18.1 0), (u18.1 1), 1 + k15, k16] [(u18.2.1 0), (u18.2.1 1), (u18.2.1 2), (u18.2.1 3)] [(u18.2.2.1 0)] [(upd (upd (upd f13 (5 * k15) j0) (3 + 5 * k15) (nI k16)) (1 + 5 * k15) (u18.2.1 3)), f14] [] []) ⟨(Or.inl rfl), x27, (show k10 ≤ (u18.1 1) by omega), (show (u18.1 1) ≤ (u18.1 0) by omega), (show (u18.1 0) ≤ k5 by omega), (show ((u18.2.1 2) = 0 ∨ (u18.1 1) < (u18.1 0)) by first | assumption | exact Or.inr (by omega)), (show 1 + k15 ≤ 40 by omega), (show k16 ≤ 4 * (1 + k15) by omega)⟩ rfl
          ·
            generalize u18.2.1 3 = j28 at *
            refine V_istore_n 108 B (lv2 := [(3, .int 1), (2, .int (nI (5 * k15))), (1, .int j0), (0, .ref h0)]) dX12_readPlayed_108 (by decide) rfl ?_
            refine V_aload_n 109 B dX12_readPlayed_109 3 rfl ?_
            refine V_get 110 B gf_RX12_28 0 rfl rfl dX12_readPlayed_110 ?_
            refine V_iload_n 113 B dX12_readPlayed_113 1 rfl ?_
            refine V_iconst 114 B (v := 1) dX12_readPlayed_114 (by decide +kernel) ?_
            refine V_iadd 115 B (v := (nI (1 + 5 * k15))) dX12_readPlayed_115 (nI_addE (a := 5 * k15) (b := 1) (by omega)) ?_
            refine V_aload_n 116 B dX12_readPlayed_116 3 rfl ?_
            refine V_get 117 B gf_RX12_294 0 rfl rfl dX12_readPlayed_117 ?_
            have x29 : PLV (upd (upd (upd f13 (5 * k15) j0) (3 + 5 * k15) (nI k16)) (1 + 5 * k15) j28) := PLV_fr x15 (by omega)
            refine V_iast 120 B 5 rfl (vp_in_nI (n := 1 + 5 * k15) (by omega) (by decide)) dX12_readPlayed_120 [(h0, oC 13 [.ref h1, .ref h2, .int p2, .ref h3, .ref h4, .int (nI k5), .int (nI (u18.1 0)), .int (u18.2.1 0), .int (u18.2.1 1), .int (u18.2.1 2), .int (nI (u18.1 1)), .int j28, .long (u18.2.2.1 0), .ref h5, .ref h6, .int (nI k15), .int (nI k16)]), (h1, aI Y 3640 f0), (h2, aZ Y 2 f1), (h3, aZ Y 80 f3), (h4, aB Y 1600 f4), (h5, aI Y 200 (upd (upd (upd f13 (5 * k15) j0) (3 + 5 * k15) (nI k16)) (1 + 5 * k15) j28)), (h6, aI Y 800 f14)] (by rw [nI_clamp (show 1 + 5 * k15 < 2 ^ 31 by omega)]; rfl) ?_
            refine V_goto 121 B 170 dX12_readPlayed_121 (by decide) ?_
            refine V_aload_n 170 B dX12_readPlayed_170 3 rfl ?_
            refine V_dup 171 B dX12_readPlayed_171 rfl ?_
            refine V_get 172 B gf_RX12_361 0 rfl rfl dX12_readPlayed_172 ?_
            refine V_iconst 175 B (v := 1) dX12_readPlayed_175 (by decide +kernel) ?_
            refine V_iadd 176 B (v := (nI (1 + k15))) dX12_readPlayed_176 (nI_addE (a := k15) (b := 1) (by omega)) ?_
            refine V_put 177 B gp_RX12_361 0 rfl (Nat.le_of_ble_eq_true rfl) rfl rfl dX12_readPlayed_177 [(h0, oC 13 [.ref h1, .ref h2, .int p2, .ref h3, .ref h4, .int (nI k5), .int (nI (u18.1 0)), .int (u18.2.1 0), .int (u18.2.1 1), .int (u18.2.1 2), .int (nI (u18.1 1)), .int j28, .long (u18.2.2.1 0), .ref h5, .ref h6, .int (nI (1 + k15)), .int (nI k16)]), (h1, aI Y 3640 f0), (h2, aZ Y 2 f1), (h3, aZ Y 80 f3), (h4, aB Y 1600 f4), (h5, aI Y 200 (upd (upd (upd f13 (5 * k15) j0) (3 + 5 * k15) (nI k16)) (1 + 5 * k15) j28)), (h6, aI Y 800 f14)] rfl ?_
            refine V_iload_n 180 B dX12_readPlayed_180 0 rfl ?_
            refine V_if_eq_f 181 B 195 dX12_readPlayed_181 (by decide) (by decide +kernel) ?_
            refine V_aload_n 184 B dX12_readPlayed_184 3 rfl ?_
            refine V_cvi 185 B (st := []) (As := []) (fun sz => rX12_readEnd l D Y h0 h1 h2 h3 h4 h5 h6 p2 k5 (u18.1 0) (u18.2.1 0) (u18.2.1 1) (u18.2.1 2) (u18.1 1) j28 (u18.2.2.1 0) (1 + k15) k16 f0 f1 f3 f4 (upd (upd (upd f13 (5 * k15) j0) (3 + 5 * k15) (nI k16)) (1 + 5 * k15) j28) f14 HI (by omega) x29 (by omega) (by omega) (by first | assumption | exact Or.inl rfl | exact Or.inr (by omega)) sz) glV_RX12_304 ⟨rfl, rfl⟩ ⟨(Nat.le_of_ble_eq_true rfl), (Nat.le_of_ble_eq_true rfl)⟩ ⟨(Nat.le_of_ble_eq_true rfl), (Nat.le_of_ble_eq_true rfl)⟩ [0, 0, 0, 0, 0, 0, 0] rfl 13 0 rfl rfl rfl rfl (Nat.le_of_ble_eq_true rfl) rfl (fun _ _ _ => rfl) dX12_readPlayed_185 (fun j30 u31 w32 => ?_)
            refine V_ws [(h0, oC 13 [.ref h1, .ref h2, .int p2, .ref h3, .ref h4, .int (nI k5), .int (nI (u31.1 0)), .int (u31.2.1 0), .int (u31.2.1 1), .int (u31.2.1 2), .int (nI (u31.1 1)), .int j28, .long (u31.2.2.1 0), .ref h5, .ref h6, .int (nI (1 + k15)), .int (nI k16)]), (h1, aI Y 3640 f0), (h2, aZ Y 2 f1), (h3, aZ Y 80 f3), (h4, aB Y 1600 f4), (h5, aI Y 200 (upd (upd (upd f13 (5 * k15) j0) (3 + 5 * k15) (nI k16)) (1 + 5 * k15) j28)), (h6, aI Y 800 f14)] rfl ?_
            obtain ⟨x33, x34, x35, x36, x37⟩ := w32
            rcases x33 with rfl | ⟨rfl, x38⟩
            ·
              refine V_if_eq_t 188 B 195 dX12_readPlayed_188 (by decide) (by decide +kernel) ?_
              refine V_iconst 195 B (v := 0) dX12_readPlayed_195 (by decide +kernel) ?_
              exact V_zret 196 B rfl dX12_readPlayed_196 (mkW [(u31.1 0), (u31.1 1), 1 + k15, k16] [(u31.2.1 0), (u31.2.1 1), (u31.2.1 2), j28] [(u31.2.2.1 0)] [(upd (upd (upd f13 (5 * k15) j0) (3 + 5 * k15) (nI k16)) (1 + 5 * k15) j28), f14] [] []) ⟨(Or.inl rfl), x29, (show k10 ≤ (u31.1 1) by omega), (show (u31.1 1) ≤ (u31.1 0) by omega), (show (u31.1 0) ≤ k5 by omega), (show ((u31.2.1 2) = 0 ∨ (u31.1 1) < (u31.1 0)) by first | assumption | exact Or.inr (by omega)), (show 1 + k15 ≤ 40 by omega), (show k16 ≤ 4 * (1 + k15) by omega)⟩ rfl
            ·
              refine V_if_eq_f 188 B 195 dX12_readPlayed_188 (by decide) (by decide +kernel) ?_
              refine V_iconst 191 B (v := 1) dX12_readPlayed_191 (by decide +kernel) ?_
              refine V_goto 192 B 196 dX12_readPlayed_192 (by decide) ?_
              exact V_zret 196 B rfl dX12_readPlayed_196 (mkW [(u31.1 0), (u31.1 1), 1 + k15, k16] [(u31.2.1 0), (u31.2.1 1), (u31.2.1 2), j28] [(u31.2.2.1 0)] [(upd (upd (upd f13 (5 * k15) j0) (3 + 5 * k15) (nI k16)) (1 + 5 * k15) j28), f14] [] []) ⟨(Or.inr ⟨rfl, (show k10 < (u31.1 1) by omega)⟩), x29, (show k10 ≤ (u31.1 1) by omega), (show (u31.1 1) ≤ (u31.1 0) by omega), (show (u31.1 0) ≤ k5 by omega), (show ((u31.2.1 2) = 0 ∨ (u31.1 1) < (u31.1 0)) by first | assumption | exact Or.inr (by omega)), (show 1 + k15 ≤ 40 by omega), (show k16 ≤ 4 * (1 + k15) by omega)⟩ rfl
        ·
          by_cases kk39 : j0 = 1
          ·
            refine V_eqi _ 1 kk39 ?_
            refine V_tableIn 64 B 104 dX12_readPlayed_64 (by decide +kernel) (by decide +kernel) (off := 40) (by decide +kernel) (by decide) ?_
            refine V_aload_n 104 B dX12_readPlayed_104 3 rfl ?_
            refine V_cvi 105 B (st := []) (As := []) (fun sz => rX12_readKey l D Y h0 h1 h2 h3 h4 h5 h6 p2 k5 (u8.1 0) p7 p8 (u8.2.1 0) (u8.1 1) p11 (u8.2.2.1 0) k15 k16 f0 f1 f3 f4 (upd (upd f13 (5 * k15) j0) (3 + 5 * k15) (nI k16)) f14 HI (by omega) x15 (by omega) (by omega) (by first | assumption | exact Or.inl rfl | exact Or.inr (by omega)) sz) glV_RX12_316 ⟨rfl, rfl⟩ ⟨(Nat.le_of_ble_eq_true rfl), (Nat.le_of_ble_eq_true rfl)⟩ ⟨(Nat.le_of_ble_eq_true rfl), (Nat.le_of_ble_eq_true rfl)⟩ [0, 0, 0, 0, 0, 0, 0] rfl 13 0 rfl rfl rfl rfl (Nat.le_of_ble_eq_true rfl) rfl (fun _ _ _ => rfl) dX12_readPlayed_105 (fun j40 u41 w42 => ?_)
            refine V_ws [(h0, oC 13 [.ref h1, .ref h2, .int p2, .ref h3, .ref h4, .int (nI k5), .int (nI (u41.1 0)), .int (u41.2.1 0), .int (u41.2.1 1), .int (u41.2.1 2), .int (nI (u41.1 1)), .int (u41.2.1 3), .long (u41.2.2.1 0), .ref h5, .ref h6, .int (nI k15), .int (nI k16)]), (h1, aI Y 3640 f0), (h2, aZ Y 2 f1), (h3, aZ Y 80 f3), (h4, aB Y 1600 f4), (h5, aI Y 200 (upd (upd f13 (5 * k15) j0) (3 + 5 * k15) (nI k16))), (h6, aI Y 800 f14)] rfl ?_
            obtain ⟨x43, x44, x45, x46, x47⟩ := w42
            rcases x43 with rfl | ⟨rfl, x48, x49⟩
            ·
              refine V_istore_n 108 B (lv2 := [(3, .int 0), (2, .int (nI (5 * k15))), (1, .int j0), (0, .ref h0)]) dX12_readPlayed_108 (by decide) rfl ?_
              refine V_aload_n 109 B dX12_readPlayed_109 3 rfl ?_
              refine V_get 110 B gf_RX12_28 0 rfl rfl dX12_readPlayed_110 ?_
              refine V_iload_n 113 B dX12_readPlayed_113 1 rfl ?_
              refine V_iconst 114 B (v := 1) dX12_readPlayed_114 (by decide +kernel) ?_
              refine V_iadd 115 B (v := (nI (1 + 5 * k15))) dX12_readPlayed_115 (nI_addE (a := 5 * k15) (b := 1) (by omega)) ?_
              refine V_aload_n 116 B dX12_readPlayed_116 3 rfl ?_
              refine V_get 117 B gf_RX12_294 0 rfl rfl dX12_readPlayed_117 ?_
              have x50 : PLV (upd (upd (upd f13 (5 * k15) j0) (3 + 5 * k15) (nI k16)) (1 + 5 * k15) (u41.2.1 3)) := PLV_fr x15 (by omega)
              refine V_iast 120 B 5 rfl (vp_in_nI (n := 1 + 5 * k15) (by omega) (by decide)) dX12_readPlayed_120 [(h0, oC 13 [.ref h1, .ref h2, .int p2, .ref h3, .ref h4, .int (nI k5), .int (nI (u41.1 0)), .int (u41.2.1 0), .int (u41.2.1 1), .int (u41.2.1 2), .int (nI (u41.1 1)), .int (u41.2.1 3), .long (u41.2.2.1 0), .ref h5, .ref h6, .int (nI k15), .int (nI k16)]), (h1, aI Y 3640 f0), (h2, aZ Y 2 f1), (h3, aZ Y 80 f3), (h4, aB Y 1600 f4), (h5, aI Y 200 (upd (upd (upd f13 (5 * k15) j0) (3 + 5 * k15) (nI k16)) (1 + 5 * k15) (u41.2.1 3))), (h6, aI Y 800 f14)] (by rw [nI_clamp (show 1 + 5 * k15 < 2 ^ 31 by omega)]; rfl) ?_
              refine V_goto 121 B 170 dX12_readPlayed_121 (by decide) ?_
              refine V_aload_n 170 B dX12_readPlayed_170 3 rfl ?_
              refine V_dup 171 B dX12_readPlayed_171 rfl ?_
              refine V_get 172 B gf_RX12_361 0 rfl rfl dX12_readPlayed_172 ?_
              refine V_iconst 175 B (v := 1) dX12_readPlayed_175 (by decide +kernel) ?_
              refine V_iadd 176 B (v := (nI (1 + k15))) dX12_readPlayed_176 (nI_addE (a := k15) (b := 1) (by omega)) ?_
              refine V_put 177 B gp_RX12_361 0 rfl (Nat.le_of_ble_eq_true rfl) rfl rfl dX12_readPlayed_177 [(h0, oC 13 [.ref h1, .ref h2, .int p2, .ref h3, .ref h4, .int (nI k5), .int (nI (u41.1 0)), .int (u41.2.1 0), .int (u41.2.1 1), .int (u41.2.1 2), .int (nI (u41.1 1)), .int (u41.2.1 3), .long (u41.2.2.1 0), .ref h5, .ref h6, .int (nI (1 + k15)), .int (nI k16)]), (h1, aI Y 3640 f0), (h2, aZ Y 2 f1), (h3, aZ Y 80 f3), (h4, aB Y 1600 f4), (h5, aI Y 200 (upd (upd (upd f13 (5 * k15) j0) (3 + 5 * k15) (nI k16)) (1 + 5 * k15) (u41.2.1 3))), (h6, aI Y 800 f14)] rfl ?_
              refine V_iload_n 180 B dX12_readPlayed_180 0 rfl ?_
              refine V_if_eq_t 181 B 195 dX12_readPlayed_181 (by decide) (by decide +kernel) ?_
              refine V_iconst 195 B (v := 0) dX12_readPlayed_195 (by decide +kernel) ?_
              exact V_zret 196 B rfl dX12_readPlayed_196 (mkW [(u41.1 0), (u41.1 1), 1 + k15, k16] [(u41.2.1 0), (u41.2.1 1), (u41.2.1 2), (u41.2.1 3)] [(u41.2.2.1 0)] [(upd (upd (upd f13 (5 * k15) j0) (3 + 5 * k15) (nI k16)) (1 + 5 * k15) (u41.2.1 3)), f14] [] []) ⟨(Or.inl rfl), x50, (show k10 ≤ (u41.1 1) by omega), (show (u41.1 1) ≤ (u41.1 0) by omega), (show (u41.1 0) ≤ k5 by omega), (show ((u41.2.1 2) = 0 ∨ (u41.1 1) < (u41.1 0)) by first | assumption | exact Or.inr (by omega)), (show 1 + k15 ≤ 40 by omega), (show k16 ≤ 4 * (1 + k15) by omega)⟩ rfl
            ·
              generalize u41.2.1 3 = j51 at *
              refine V_istore_n 108 B (lv2 := [(3, .int 1), (2, .int (nI (5 * k15))), (1, .int j0), (0, .ref h0)]) dX12_readPlayed_108 (by decide) rfl ?_
              refine V_aload_n 109 B dX12_readPlayed_109 3 rfl ?_
              refine V_get 110 B gf_RX12_28 0 rfl rfl dX12_readPlayed_110 ?_
              refine V_iload_n 113 B dX12_readPlayed_113 1 rfl ?_
              refine V_iconst 114 B (v := 1) dX12_readPlayed_114 (by decide +kernel) ?_
              refine V_iadd 115 B (v := (nI (1 + 5 * k15))) dX12_readPlayed_115 (nI_addE (a := 5 * k15) (b := 1) (by omega)) ?_
              refine V_aload_n 116 B dX12_readPlayed_116 3 rfl ?_
              refine V_get 117 B gf_RX12_294 0 rfl rfl dX12_readPlayed_117 ?_
              have x52 : PLV (upd (upd (upd f13 (5 * k15) j0) (3 + 5 * k15) (nI k16)) (1 + 5 * k15) j51) := PLV_fr x15 (by omega)
              refine V_iast 120 B 5 rfl (vp_in_nI (n := 1 + 5 * k15) (by omega) (by decide)) dX12_readPlayed_120 [(h0, oC 13 [.ref h1, .ref h2, .int p2, .ref h3, .ref h4, .int (nI k5), .int (nI (u41.1 0)), .int (u41.2.1 0), .int (u41.2.1 1), .int (u41.2.1 2), .int (nI (u41.1 1)), .int j51, .long (u41.2.2.1 0), .ref h5, .ref h6, .int (nI k15), .int (nI k16)]), (h1, aI Y 3640 f0), (h2, aZ Y 2 f1), (h3, aZ Y 80 f3), (h4, aB Y 1600 f4), (h5, aI Y 200 (upd (upd (upd f13 (5 * k15) j0) (3 + 5 * k15) (nI k16)) (1 + 5 * k15) j51)), (h6, aI Y 800 f14)] (by rw [nI_clamp (show 1 + 5 * k15 < 2 ^ 31 by omega)]; rfl) ?_
              refine V_goto 121 B 170 dX12_readPlayed_121 (by decide) ?_
              refine V_aload_n 170 B dX12_readPlayed_170 3 rfl ?_
              refine V_dup 171 B dX12_readPlayed_171 rfl ?_
              refine V_get 172 B gf_RX12_361 0 rfl rfl dX12_readPlayed_172 ?_
              refine V_iconst 175 B (v := 1) dX12_readPlayed_175 (by decide +kernel) ?_
              refine V_iadd 176 B (v := (nI (1 + k15))) dX12_readPlayed_176 (nI_addE (a := k15) (b := 1) (by omega)) ?_
              refine V_put 177 B gp_RX12_361 0 rfl (Nat.le_of_ble_eq_true rfl) rfl rfl dX12_readPlayed_177 [(h0, oC 13 [.ref h1, .ref h2, .int p2, .ref h3, .ref h4, .int (nI k5), .int (nI (u41.1 0)), .int (u41.2.1 0), .int (u41.2.1 1), .int (u41.2.1 2), .int (nI (u41.1 1)), .int j51, .long (u41.2.2.1 0), .ref h5, .ref h6, .int (nI (1 + k15)), .int (nI k16)]), (h1, aI Y 3640 f0), (h2, aZ Y 2 f1), (h3, aZ Y 80 f3), (h4, aB Y 1600 f4), (h5, aI Y 200 (upd (upd (upd f13 (5 * k15) j0) (3 + 5 * k15) (nI k16)) (1 + 5 * k15) j51)), (h6, aI Y 800 f14)] rfl ?_
              refine V_iload_n 180 B dX12_readPlayed_180 0 rfl ?_
              refine V_if_eq_f 181 B 195 dX12_readPlayed_181 (by decide) (by decide +kernel) ?_
              refine V_aload_n 184 B dX12_readPlayed_184 3 rfl ?_
              refine V_cvi 185 B (st := []) (As := []) (fun sz => rX12_readEnd l D Y h0 h1 h2 h3 h4 h5 h6 p2 k5 (u41.1 0) (u41.2.1 0) (u41.2.1 1) (u41.2.1 2) (u41.1 1) j51 (u41.2.2.1 0) (1 + k15) k16 f0 f1 f3 f4 (upd (upd (upd f13 (5 * k15) j0) (3 + 5 * k15) (nI k16)) (1 + 5 * k15) j51) f14 HI (by omega) x52 (by omega) (by omega) (by first | assumption | exact Or.inl rfl | exact Or.inr (by omega)) sz) glV_RX12_304 ⟨rfl, rfl⟩ ⟨(Nat.le_of_ble_eq_true rfl), (Nat.le_of_ble_eq_true rfl)⟩ ⟨(Nat.le_of_ble_eq_true rfl), (Nat.le_of_ble_eq_true rfl)⟩ [0, 0, 0, 0, 0, 0, 0] rfl 13 0 rfl rfl rfl rfl (Nat.le_of_ble_eq_true rfl) rfl (fun _ _ _ => rfl) dX12_readPlayed_185 (fun j53 u54 w55 => ?_)
              refine V_ws [(h0, oC 13 [.ref h1, .ref h2, .int p2, .ref h3, .ref h4, .int (nI k5), .int (nI (u54.1 0)), .int (u54.2.1 0), .int (u54.2.1 1), .int (u54.2.1 2), .int (nI (u54.1 1)), .int j51, .long (u54.2.2.1 0), .ref h5, .ref h6, .int (nI (1 + k15)), .int (nI k16)]), (h1, aI Y 3640 f0), (h2, aZ Y 2 f1), (h3, aZ Y 80 f3), (h4, aB Y 1600 f4), (h5, aI Y 200 (upd (upd (upd f13 (5 * k15) j0) (3 + 5 * k15) (nI k16)) (1 + 5 * k15) j51)), (h6, aI Y 800 f14)] rfl ?_
              obtain ⟨x56, x57, x58, x59, x60⟩ := w55
              rcases x56 with rfl | ⟨rfl, x61⟩
              ·
                refine V_if_eq_t 188 B 195 dX12_readPlayed_188 (by decide) (by decide +kernel) ?_
                refine V_iconst 195 B (v := 0) dX12_readPlayed_195 (by decide +kernel) ?_
                exact V_zret 196 B rfl dX12_readPlayed_196 (mkW [(u54.1 0), (u54.1 1), 1 + k15, k16] [(u54.2.1 0), (u54.2.1 1), (u54.2.1 2), j51] [(u54.2.2.1 0)] [(upd (upd (upd f13 (5 * k15) j0) (3 + 5 * k15) (nI k16)) (1 + 5 * k15) j51), f14] [] []) ⟨(Or.inl rfl), x52, (show k10 ≤ (u54.1 1) by omega), (show (u54.1 1) ≤ (u54.1 0) by omega), (show (u54.1 0) ≤ k5 by omega), (show ((u54.2.1 2) = 0 ∨ (u54.1 1) < (u54.1 0)) by first | assumption | exact Or.inr (by omega)), (show 1 + k15 ≤ 40 by omega), (show k16 ≤ 4 * (1 + k15) by omega)⟩ rfl
              ·
                refine V_if_eq_f 188 B 195 dX12_readPlayed_188 (by decide) (by decide +kernel) ?_
                refine V_iconst 191 B (v := 1) dX12_readPlayed_191 (by decide +kernel) ?_
                refine V_goto 192 B 196 dX12_readPlayed_192 (by decide) ?_
                exact V_zret 196 B rfl dX12_readPlayed_196 (mkW [(u54.1 0), (u54.1 1), 1 + k15, k16] [(u54.2.1 0), (u54.2.1 1), (u54.2.1 2), j51] [(u54.2.2.1 0)] [(upd (upd (upd f13 (5 * k15) j0) (3 + 5 * k15) (nI k16)) (1 + 5 * k15) j51), f14] [] []) ⟨(Or.inr ⟨rfl, (show k10 < (u54.1 1) by omega)⟩), x52, (show k10 ≤ (u54.1 1) by omega), (show (u54.1 1) ≤ (u54.1 0) by omega), (show (u54.1 0) ≤ k5 by omega), (show ((u54.2.1 2) = 0 ∨ (u54.1 1) < (u54.1 0)) by first | assumption | exact Or.inr (by omega)), (show 1 + k15 ≤ 40 by omega), (show k16 ≤ 4 * (1 + k15) by omega)⟩ rfl
          ·
            by_cases kk62 : j0 = 2
            ·
              refine V_eqi _ 2 kk62 ?_
              refine V_tableIn 64 B 124 dX12_readPlayed_64 (by decide +kernel) (by decide +kernel) (off := 60) (by decide +kernel) (by decide) ?_
              refine V_aload_n 124 B dX12_readPlayed_124 3 rfl ?_
              refine V_iconst 125 B (v := 1) dX12_readPlayed_125 (by decide +kernel) ?_
              refine V_cvi 126 B (st := []) (As := [.int 1]) (fun sz => rX12_readNumberOf_1 l D Y h0 h1 h2 h3 h4 h5 h6 p2 k5 (u8.1 0) p7 p8 (u8.2.1 0) (u8.1 1) p11 (u8.2.2.1 0) k15 k16 f0 f1 f3 f4 (upd (upd f13 (5 * k15) j0) (3 + 5 * k15) (nI k16)) f14 HI (by omega) x15 (by omega) (by omega) (by first | assumption | exact Or.inl rfl | exact Or.inr (by omega)) (by omega) sz) glV_RX12_367 ⟨rfl, rfl⟩ ⟨(Nat.le_of_ble_eq_true rfl), (Nat.le_of_ble_eq_true rfl)⟩ ⟨(Nat.le_of_ble_eq_true rfl), (Nat.le_of_ble_eq_true rfl)⟩ [0, 0, 0, 0, 0, 0, 0] rfl 13 0 rfl rfl rfl rfl (Nat.le_of_ble_eq_true rfl) rfl (fun _ _ _ => rfl) dX12_readPlayed_126 (fun j63 u64 w65 => ?_)
              refine V_ws [(h0, oC 13 [.ref h1, .ref h2, .int p2, .ref h3, .ref h4, .int (nI k5), .int (nI (u64.1 0)), .int (u64.2.1 0), .int (u64.2.1 1), .int (u64.2.1 2), .int (nI (u64.1 1)), .int (u64.2.1 3), .long (u64.2.2.1 0), .ref h5, .ref h6, .int (nI k15), .int (nI k16)]), (h1, aI Y 3640 f0), (h2, aZ Y 2 f1), (h3, aZ Y 80 f3), (h4, aB Y 1600 f4), (h5, aI Y 200 (u64.2.2.2.1 0)), (h6, aI Y 800 f14)] rfl ?_
              obtain ⟨x66, x67, x68, x69, x70, x71⟩ := w65
              rcases x66 with rfl | ⟨rfl, x72⟩
              ·
                refine V_istore_n 129 B (lv2 := [(3, .int 0), (2, .int (nI (5 * k15))), (1, .int j0), (0, .ref h0)]) dX12_readPlayed_129 (by decide) rfl ?_
                refine V_goto 130 B 170 dX12_readPlayed_130 (by decide) ?_
                refine V_aload_n 170 B dX12_readPlayed_170 3 rfl ?_
                refine V_dup 171 B dX12_readPlayed_171 rfl ?_
                refine V_get 172 B gf_RX12_361 0 rfl rfl dX12_readPlayed_172 ?_
                refine V_iconst 175 B (v := 1) dX12_readPlayed_175 (by decide +kernel) ?_
                refine V_iadd 176 B (v := (nI (1 + k15))) dX12_readPlayed_176 (nI_addE (a := k15) (b := 1) (by omega)) ?_
                refine V_put 177 B gp_RX12_361 0 rfl (Nat.le_of_ble_eq_true rfl) rfl rfl dX12_readPlayed_177 [(h0, oC 13 [.ref h1, .ref h2, .int p2, .ref h3, .ref h4, .int (nI k5), .int (nI (u64.1 0)), .int (u64.2.1 0), .int (u64.2.1 1), .int (u64.2.1 2), .int (nI (u64.1 1)), .int (u64.2.1 3), .long (u64.2.2.1 0), .ref h5, .ref h6, .int (nI (1 + k15)), .int (nI k16)]), (h1, aI Y 3640 f0), (h2, aZ Y 2 f1), (h3, aZ Y 80 f3), (h4, aB Y 1600 f4), (h5, aI Y 200 (u64.2.2.2.1 0)), (h6, aI Y 800 f14)] rfl ?_
                refine V_iload_n 180 B dX12_readPlayed_180 0 rfl ?_
                refine V_if_eq_t 181 B 195 dX12_readPlayed_181 (by decide) (by decide +kernel) ?_
                refine V_iconst 195 B (v := 0) dX12_readPlayed_195 (by decide +kernel) ?_
                exact V_zret 196 B rfl dX12_readPlayed_196 (mkW [(u64.1 0), (u64.1 1), 1 + k15, k16] [(u64.2.1 0), (u64.2.1 1), (u64.2.1 2), (u64.2.1 3)] [(u64.2.2.1 0)] [(u64.2.2.2.1 0), f14] [] []) ⟨(Or.inl rfl), x67, (show k10 ≤ (u64.1 1) by omega), (show (u64.1 1) ≤ (u64.1 0) by omega), (show (u64.1 0) ≤ k5 by omega), (show ((u64.2.1 2) = 0 ∨ (u64.1 1) < (u64.1 0)) by first | assumption | exact Or.inr (by omega)), (show 1 + k15 ≤ 40 by omega), (show k16 ≤ 4 * (1 + k15) by omega)⟩ rfl
              ·
                have e73 : (1 : Int32).toInt = 1 := by decide +kernel
                refine V_istore_n 129 B (lv2 := [(3, .int 1), (2, .int (nI (5 * k15))), (1, .int j0), (0, .ref h0)]) dX12_readPlayed_129 (by decide) rfl ?_
                refine V_goto 130 B 170 dX12_readPlayed_130 (by decide) ?_
                refine V_aload_n 170 B dX12_readPlayed_170 3 rfl ?_
                refine V_dup 171 B dX12_readPlayed_171 rfl ?_
                refine V_get 172 B gf_RX12_361 0 rfl rfl dX12_readPlayed_172 ?_
                refine V_iconst 175 B (v := 1) dX12_readPlayed_175 (by decide +kernel) ?_
                refine V_iadd 176 B (v := (nI (1 + k15))) dX12_readPlayed_176 (nI_addE (a := k15) (b := 1) (by omega)) ?_
                refine V_put 177 B gp_RX12_361 0 rfl (Nat.le_of_ble_eq_true rfl) rfl rfl dX12_readPlayed_177 [(h0, oC 13 [.ref h1, .ref h2, .int p2, .ref h3, .ref h4, .int (nI k5), .int (nI (u64.1 0)), .int (u64.2.1 0), .int (u64.2.1 1), .int (u64.2.1 2), .int (nI (u64.1 1)), .int (u64.2.1 3), .long (u64.2.2.1 0), .ref h5, .ref h6, .int (nI (1 + k15)), .int (nI k16)]), (h1, aI Y 3640 f0), (h2, aZ Y 2 f1), (h3, aZ Y 80 f3), (h4, aB Y 1600 f4), (h5, aI Y 200 (u64.2.2.2.1 0)), (h6, aI Y 800 f14)] rfl ?_
                refine V_iload_n 180 B dX12_readPlayed_180 0 rfl ?_
                refine V_if_eq_f 181 B 195 dX12_readPlayed_181 (by decide) (by decide +kernel) ?_
                refine V_aload_n 184 B dX12_readPlayed_184 3 rfl ?_
                refine V_cvi 185 B (st := []) (As := []) (fun sz => rX12_readEnd l D Y h0 h1 h2 h3 h4 h5 h6 p2 k5 (u64.1 0) (u64.2.1 0) (u64.2.1 1) (u64.2.1 2) (u64.1 1) (u64.2.1 3) (u64.2.2.1 0) (1 + k15) k16 f0 f1 f3 f4 (u64.2.2.2.1 0) f14 HI (by omega) x67 (by omega) (by omega) (by first | assumption | exact Or.inl rfl | exact Or.inr (by omega)) sz) glV_RX12_304 ⟨rfl, rfl⟩ ⟨(Nat.le_of_ble_eq_true rfl), (Nat.le_of_ble_eq_true rfl)⟩ ⟨(Nat.le_of_ble_eq_true rfl), (Nat.le_of_ble_eq_true rfl)⟩ [0, 0, 0, 0, 0, 0, 0] rfl 13 0 rfl rfl rfl rfl (Nat.le_of_ble_eq_true rfl) rfl (fun _ _ _ => rfl) dX12_readPlayed_185 (fun j74 u75 w76 => ?_)
                refine V_ws [(h0, oC 13 [.ref h1, .ref h2, .int p2, .ref h3, .ref h4, .int (nI k5), .int (nI (u75.1 0)), .int (u75.2.1 0), .int (u75.2.1 1), .int (u75.2.1 2), .int (nI (u75.1 1)), .int (u64.2.1 3), .long (u75.2.2.1 0), .ref h5, .ref h6, .int (nI (1 + k15)), .int (nI k16)]), (h1, aI Y 3640 f0), (h2, aZ Y 2 f1), (h3, aZ Y 80 f3), (h4, aB Y 1600 f4), (h5, aI Y 200 (u64.2.2.2.1 0)), (h6, aI Y 800 f14)] rfl ?_
                obtain ⟨x77, x78, x79, x80, x81⟩ := w76
                rcases x77 with rfl | ⟨rfl, x82⟩
                ·
                  refine V_if_eq_t 188 B 195 dX12_readPlayed_188 (by decide) (by decide +kernel) ?_
                  refine V_iconst 195 B (v := 0) dX12_readPlayed_195 (by decide +kernel) ?_
                  exact V_zret 196 B rfl dX12_readPlayed_196 (mkW [(u75.1 0), (u75.1 1), 1 + k15, k16] [(u75.2.1 0), (u75.2.1 1), (u75.2.1 2), (u64.2.1 3)] [(u75.2.2.1 0)] [(u64.2.2.2.1 0), f14] [] []) ⟨(Or.inl rfl), x67, (show k10 ≤ (u75.1 1) by omega), (show (u75.1 1) ≤ (u75.1 0) by omega), (show (u75.1 0) ≤ k5 by omega), (show ((u75.2.1 2) = 0 ∨ (u75.1 1) < (u75.1 0)) by first | assumption | exact Or.inr (by omega)), (show 1 + k15 ≤ 40 by omega), (show k16 ≤ 4 * (1 + k15) by omega)⟩ rfl
                ·
                  refine V_if_eq_f 188 B 195 dX12_readPlayed_188 (by decide) (by decide +kernel) ?_
                  refine V_iconst 191 B (v := 1) dX12_readPlayed_191 (by decide +kernel) ?_
                  refine V_goto 192 B 196 dX12_readPlayed_192 (by decide) ?_
                  exact V_zret 196 B rfl dX12_readPlayed_196 (mkW [(u75.1 0), (u75.1 1), 1 + k15, k16] [(u75.2.1 0), (u75.2.1 1), (u75.2.1 2), (u64.2.1 3)] [(u75.2.2.1 0)] [(u64.2.2.2.1 0), f14] [] []) ⟨(Or.inr ⟨rfl, (show k10 < (u75.1 1) by omega)⟩), x67, (show k10 ≤ (u75.1 1) by omega), (show (u75.1 1) ≤ (u75.1 0) by omega), (show (u75.1 0) ≤ k5 by omega), (show ((u75.2.1 2) = 0 ∨ (u75.1 1) < (u75.1 0)) by first | assumption | exact Or.inr (by omega)), (show 1 + k15 ≤ 40 by omega), (show k16 ≤ 4 * (1 + k15) by omega)⟩ rfl
            ·
              by_cases kk83 : j0 = 3
              ·
                refine V_eqi _ 3 kk83 ?_
                refine V_tableIn 64 B 124 dX12_readPlayed_64 (by decide +kernel) (by decide +kernel) (off := 60) (by decide +kernel) (by decide) ?_
                refine V_aload_n 124 B dX12_readPlayed_124 3 rfl ?_
                refine V_iconst 125 B (v := 1) dX12_readPlayed_125 (by decide +kernel) ?_
                refine V_cvi 126 B (st := []) (As := [.int 1]) (fun sz => rX12_readNumberOf_1 l D Y h0 h1 h2 h3 h4 h5 h6 p2 k5 (u8.1 0) p7 p8 (u8.2.1 0) (u8.1 1) p11 (u8.2.2.1 0) k15 k16 f0 f1 f3 f4 (upd (upd f13 (5 * k15) j0) (3 + 5 * k15) (nI k16)) f14 HI (by omega) x15 (by omega) (by omega) (by first | assumption | exact Or.inl rfl | exact Or.inr (by omega)) (by omega) sz) glV_RX12_367 ⟨rfl, rfl⟩ ⟨(Nat.le_of_ble_eq_true rfl), (Nat.le_of_ble_eq_true rfl)⟩ ⟨(Nat.le_of_ble_eq_true rfl), (Nat.le_of_ble_eq_true rfl)⟩ [0, 0, 0, 0, 0, 0, 0] rfl 13 0 rfl rfl rfl rfl (Nat.le_of_ble_eq_true rfl) rfl (fun _ _ _ => rfl) dX12_readPlayed_126 (fun j84 u85 w86 => ?_)
                refine V_ws [(h0, oC 13 [.ref h1, .ref h2, .int p2, .ref h3, .ref h4, .int (nI k5), .int (nI (u85.1 0)), .int (u85.2.1 0), .int (u85.2.1 1), .int (u85.2.1 2), .int (nI (u85.1 1)), .int (u85.2.1 3), .long (u85.2.2.1 0), .ref h5, .ref h6, .int (nI k15), .int (nI k16)]), (h1, aI Y 3640 f0), (h2, aZ Y 2 f1), (h3, aZ Y 80 f3), (h4, aB Y 1600 f4), (h5, aI Y 200 (u85.2.2.2.1 0)), (h6, aI Y 800 f14)] rfl ?_
                obtain ⟨x87, x88, x89, x90, x91, x92⟩ := w86
                rcases x87 with rfl | ⟨rfl, x93⟩
                ·
                  refine V_istore_n 129 B (lv2 := [(3, .int 0), (2, .int (nI (5 * k15))), (1, .int j0), (0, .ref h0)]) dX12_readPlayed_129 (by decide) rfl ?_
                  refine V_goto 130 B 170 dX12_readPlayed_130 (by decide) ?_
                  refine V_aload_n 170 B dX12_readPlayed_170 3 rfl ?_
                  refine V_dup 171 B dX12_readPlayed_171 rfl ?_
                  refine V_get 172 B gf_RX12_361 0 rfl rfl dX12_readPlayed_172 ?_
                  refine V_iconst 175 B (v := 1) dX12_readPlayed_175 (by decide +kernel) ?_
                  refine V_iadd 176 B (v := (nI (1 + k15))) dX12_readPlayed_176 (nI_addE (a := k15) (b := 1) (by omega)) ?_
                  refine V_put 177 B gp_RX12_361 0 rfl (Nat.le_of_ble_eq_true rfl) rfl rfl dX12_readPlayed_177 [(h0, oC 13 [.ref h1, .ref h2, .int p2, .ref h3, .ref h4, .int (nI k5), .int (nI (u85.1 0)), .int (u85.2.1 0), .int (u85.2.1 1), .int (u85.2.1 2), .int (nI (u85.1 1)), .int (u85.2.1 3), .long (u85.2.2.1 0), .ref h5, .ref h6, .int (nI (1 + k15)), .int (nI k16)]), (h1, aI Y 3640 f0), (h2, aZ Y 2 f1), (h3, aZ Y 80 f3), (h4, aB Y 1600 f4), (h5, aI Y 200 (u85.2.2.2.1 0)), (h6, aI Y 800 f14)] rfl ?_
                  refine V_iload_n 180 B dX12_readPlayed_180 0 rfl ?_
                  refine V_if_eq_t 181 B 195 dX12_readPlayed_181 (by decide) (by decide +kernel) ?_
                  refine V_iconst 195 B (v := 0) dX12_readPlayed_195 (by decide +kernel) ?_
                  exact V_zret 196 B rfl dX12_readPlayed_196 (mkW [(u85.1 0), (u85.1 1), 1 + k15, k16] [(u85.2.1 0), (u85.2.1 1), (u85.2.1 2), (u85.2.1 3)] [(u85.2.2.1 0)] [(u85.2.2.2.1 0), f14] [] []) ⟨(Or.inl rfl), x88, (show k10 ≤ (u85.1 1) by omega), (show (u85.1 1) ≤ (u85.1 0) by omega), (show (u85.1 0) ≤ k5 by omega), (show ((u85.2.1 2) = 0 ∨ (u85.1 1) < (u85.1 0)) by first | assumption | exact Or.inr (by omega)), (show 1 + k15 ≤ 40 by omega), (show k16 ≤ 4 * (1 + k15) by omega)⟩ rfl
                ·
                  have e94 : (1 : Int32).toInt = 1 := by decide +kernel
                  refine V_istore_n 129 B (lv2 := [(3, .int 1), (2, .int (nI (5 * k15))), (1, .int j0), (0, .ref h0)]) dX12_readPlayed_129 (by decide) rfl ?_
                  refine V_goto 130 B 170 dX12_readPlayed_130 (by decide) ?_
                  refine V_aload_n 170 B dX12_readPlayed_170 3 rfl ?_
                  refine V_dup 171 B dX12_readPlayed_171 rfl ?_
                  refine V_get 172 B gf_RX12_361 0 rfl rfl dX12_readPlayed_172 ?_
                  refine V_iconst 175 B (v := 1) dX12_readPlayed_175 (by decide +kernel) ?_
                  refine V_iadd 176 B (v := (nI (1 + k15))) dX12_readPlayed_176 (nI_addE (a := k15) (b := 1) (by omega)) ?_
                  refine V_put 177 B gp_RX12_361 0 rfl (Nat.le_of_ble_eq_true rfl) rfl rfl dX12_readPlayed_177 [(h0, oC 13 [.ref h1, .ref h2, .int p2, .ref h3, .ref h4, .int (nI k5), .int (nI (u85.1 0)), .int (u85.2.1 0), .int (u85.2.1 1), .int (u85.2.1 2), .int (nI (u85.1 1)), .int (u85.2.1 3), .long (u85.2.2.1 0), .ref h5, .ref h6, .int (nI (1 + k15)), .int (nI k16)]), (h1, aI Y 3640 f0), (h2, aZ Y 2 f1), (h3, aZ Y 80 f3), (h4, aB Y 1600 f4), (h5, aI Y 200 (u85.2.2.2.1 0)), (h6, aI Y 800 f14)] rfl ?_
                  refine V_iload_n 180 B dX12_readPlayed_180 0 rfl ?_
                  refine V_if_eq_f 181 B 195 dX12_readPlayed_181 (by decide) (by decide +kernel) ?_
                  refine V_aload_n 184 B dX12_readPlayed_184 3 rfl ?_
                  refine V_cvi 185 B (st := []) (As := []) (fun sz => rX12_readEnd l D Y h0 h1 h2 h3 h4 h5 h6 p2 k5 (u85.1 0) (u85.2.1 0) (u85.2.1 1) (u85.2.1 2) (u85.1 1) (u85.2.1 3) (u85.2.2.1 0) (1 + k15) k16 f0 f1 f3 f4 (u85.2.2.2.1 0) f14 HI (by omega) x88 (by omega) (by omega) (by first | assumption | exact Or.inl rfl | exact Or.inr (by omega)) sz) glV_RX12_304 ⟨rfl, rfl⟩ ⟨(Nat.le_of_ble_eq_true rfl), (Nat.le_of_ble_eq_true rfl)⟩ ⟨(Nat.le_of_ble_eq_true rfl), (Nat.le_of_ble_eq_true rfl)⟩ [0, 0, 0, 0, 0, 0, 0] rfl 13 0 rfl rfl rfl rfl (Nat.le_of_ble_eq_true rfl) rfl (fun _ _ _ => rfl) dX12_readPlayed_185 (fun j95 u96 w97 => ?_)
                  refine V_ws [(h0, oC 13 [.ref h1, .ref h2, .int p2, .ref h3, .ref h4, .int (nI k5), .int (nI (u96.1 0)), .int (u96.2.1 0), .int (u96.2.1 1), .int (u96.2.1 2), .int (nI (u96.1 1)), .int (u85.2.1 3), .long (u96.2.2.1 0), .ref h5, .ref h6, .int (nI (1 + k15)), .int (nI k16)]), (h1, aI Y 3640 f0), (h2, aZ Y 2 f1), (h3, aZ Y 80 f3), (h4, aB Y 1600 f4), (h5, aI Y 200 (u85.2.2.2.1 0)), (h6, aI Y 800 f14)] rfl ?_
                  obtain ⟨x98, x99, x100, x101, x102⟩ := w97
                  rcases x98 with rfl | ⟨rfl, x103⟩
                  ·
                    refine V_if_eq_t 188 B 195 dX12_readPlayed_188 (by decide) (by decide +kernel) ?_
                    refine V_iconst 195 B (v := 0) dX12_readPlayed_195 (by decide +kernel) ?_
                    exact V_zret 196 B rfl dX12_readPlayed_196 (mkW [(u96.1 0), (u96.1 1), 1 + k15, k16] [(u96.2.1 0), (u96.2.1 1), (u96.2.1 2), (u85.2.1 3)] [(u96.2.2.1 0)] [(u85.2.2.2.1 0), f14] [] []) ⟨(Or.inl rfl), x88, (show k10 ≤ (u96.1 1) by omega), (show (u96.1 1) ≤ (u96.1 0) by omega), (show (u96.1 0) ≤ k5 by omega), (show ((u96.2.1 2) = 0 ∨ (u96.1 1) < (u96.1 0)) by first | assumption | exact Or.inr (by omega)), (show 1 + k15 ≤ 40 by omega), (show k16 ≤ 4 * (1 + k15) by omega)⟩ rfl
                  ·
                    refine V_if_eq_f 188 B 195 dX12_readPlayed_188 (by decide) (by decide +kernel) ?_
                    refine V_iconst 191 B (v := 1) dX12_readPlayed_191 (by decide +kernel) ?_
                    refine V_goto 192 B 196 dX12_readPlayed_192 (by decide) ?_
                    exact V_zret 196 B rfl dX12_readPlayed_196 (mkW [(u96.1 0), (u96.1 1), 1 + k15, k16] [(u96.2.1 0), (u96.2.1 1), (u96.2.1 2), (u85.2.1 3)] [(u96.2.2.1 0)] [(u85.2.2.2.1 0), f14] [] []) ⟨(Or.inr ⟨rfl, (show k10 < (u96.1 1) by omega)⟩), x88, (show k10 ≤ (u96.1 1) by omega), (show (u96.1 1) ≤ (u96.1 0) by omega), (show (u96.1 0) ≤ k5 by omega), (show ((u96.2.1 2) = 0 ∨ (u96.1 1) < (u96.1 0)) by first | assumption | exact Or.inr (by omega)), (show 1 + k15 ≤ 40 by omega), (show k16 ≤ 4 * (1 + k15) by omega)⟩ rfl
              ·
                by_cases kk104 : j0 = 4
                ·
                  refine V_eqi _ 4 kk104 ?_
                  refine V_tableIn 64 B 124 dX12_readPlayed_64 (by decide +kernel) (by decide +kernel) (off := 60) (by decide +kernel) (by decide) ?_
                  refine V_aload_n 124 B dX12_readPlayed_124 3 rfl ?_
                  refine V_iconst 125 B (v := 1) dX12_readPlayed_125 (by decide +kernel) ?_
                  refine V_cvi 126 B (st := []) (As := [.int 1]) (fun sz => rX12_readNumberOf_1 l D Y h0 h1 h2 h3 h4 h5 h6 p2 k5 (u8.1 0) p7 p8 (u8.2.1 0) (u8.1 1) p11 (u8.2.2.1 0) k15 k16 f0 f1 f3 f4 (upd (upd f13 (5 * k15) j0) (3 + 5 * k15) (nI k16)) f14 HI (by omega) x15 (by omega) (by omega) (by first | assumption | exact Or.inl rfl | exact Or.inr (by omega)) (by omega) sz) glV_RX12_367 ⟨rfl, rfl⟩ ⟨(Nat.le_of_ble_eq_true rfl), (Nat.le_of_ble_eq_true rfl)⟩ ⟨(Nat.le_of_ble_eq_true rfl), (Nat.le_of_ble_eq_true rfl)⟩ [0, 0, 0, 0, 0, 0, 0] rfl 13 0 rfl rfl rfl rfl (Nat.le_of_ble_eq_true rfl) rfl (fun _ _ _ => rfl) dX12_readPlayed_126 (fun j105 u106 w107 => ?_)
                  refine V_ws [(h0, oC 13 [.ref h1, .ref h2, .int p2, .ref h3, .ref h4, .int (nI k5), .int (nI (u106.1 0)), .int (u106.2.1 0), .int (u106.2.1 1), .int (u106.2.1 2), .int (nI (u106.1 1)), .int (u106.2.1 3), .long (u106.2.2.1 0), .ref h5, .ref h6, .int (nI k15), .int (nI k16)]), (h1, aI Y 3640 f0), (h2, aZ Y 2 f1), (h3, aZ Y 80 f3), (h4, aB Y 1600 f4), (h5, aI Y 200 (u106.2.2.2.1 0)), (h6, aI Y 800 f14)] rfl ?_
                  obtain ⟨x108, x109, x110, x111, x112, x113⟩ := w107
                  rcases x108 with rfl | ⟨rfl, x114⟩
                  ·
                    refine V_istore_n 129 B (lv2 := [(3, .int 0), (2, .int (nI (5 * k15))), (1, .int j0), (0, .ref h0)]) dX12_readPlayed_129 (by decide) rfl ?_
                    refine V_goto 130 B 170 dX12_readPlayed_130 (by decide) ?_
                    refine V_aload_n 170 B dX12_readPlayed_170 3 rfl ?_
                    refine V_dup 171 B dX12_readPlayed_171 rfl ?_
                    refine V_get 172 B gf_RX12_361 0 rfl rfl dX12_readPlayed_172 ?_
                    refine V_iconst 175 B (v := 1) dX12_readPlayed_175 (by decide +kernel) ?_
                    refine V_iadd 176 B (v := (nI (1 + k15))) dX12_readPlayed_176 (nI_addE (a := k15) (b := 1) (by omega)) ?_
                    refine V_put 177 B gp_RX12_361 0 rfl (Nat.le_of_ble_eq_true rfl) rfl rfl dX12_readPlayed_177 [(h0, oC 13 [.ref h1, .ref h2, .int p2, .ref h3, .ref h4, .int (nI k5), .int (nI (u106.1 0)), .int (u106.2.1 0), .int (u106.2.1 1), .int (u106.2.1 2), .int (nI (u106.1 1)), .int (u106.2.1 3), .long (u106.2.2.1 0), .ref h5, .ref h6, .int (nI (1 + k15)), .int (nI k16)]), (h1, aI Y 3640 f0), (h2, aZ Y 2 f1), (h3, aZ Y 80 f3), (h4, aB Y 1600 f4), (h5, aI Y 200 (u106.2.2.2.1 0)), (h6, aI Y 800 f14)] rfl ?_
                    refine V_iload_n 180 B dX12_readPlayed_180 0 rfl ?_
                    refine V_if_eq_t 181 B 195 dX12_readPlayed_181 (by decide) (by decide +kernel) ?_
                    refine V_iconst 195 B (v := 0) dX12_readPlayed_195 (by decide +kernel) ?_
                    exact V_zret 196 B rfl dX12_readPlayed_196 (mkW [(u106.1 0), (u106.1 1), 1 + k15, k16] [(u106.2.1 0), (u106.2.1 1), (u106.2.1 2), (u106.2.1 3)] [(u106.2.2.1 0)] [(u106.2.2.2.1 0), f14] [] []) ⟨(Or.inl rfl), x109, (show k10 ≤ (u106.1 1) by omega), (show (u106.1 1) ≤ (u106.1 0) by omega), (show (u106.1 0) ≤ k5 by omega), (show ((u106.2.1 2) = 0 ∨ (u106.1 1) < (u106.1 0)) by first | assumption | exact Or.inr (by omega)), (show 1 + k15 ≤ 40 by omega), (show k16 ≤ 4 * (1 + k15) by omega)⟩ rfl
                  ·
                    have e115 : (1 : Int32).toInt = 1 := by decide +kernel
                    refine V_istore_n 129 B (lv2 := [(3, .int 1), (2, .int (nI (5 * k15))), (1, .int j0), (0, .ref h0)]) dX12_readPlayed_129 (by decide) rfl ?_
                    refine V_goto 130 B 170 dX12_readPlayed_130 (by decide) ?_
                    refine V_aload_n 170 B dX12_readPlayed_170 3 rfl ?_
                    refine V_dup 171 B dX12_readPlayed_171 rfl ?_
                    refine V_get 172 B gf_RX12_361 0 rfl rfl dX12_readPlayed_172 ?_
                    refine V_iconst 175 B (v := 1) dX12_readPlayed_175 (by decide +kernel) ?_
                    refine V_iadd 176 B (v := (nI (1 + k15))) dX12_readPlayed_176 (nI_addE (a := k15) (b := 1) (by omega)) ?_
                    refine V_put 177 B gp_RX12_361 0 rfl (Nat.le_of_ble_eq_true rfl) rfl rfl dX12_readPlayed_177 [(h0, oC 13 [.ref h1, .ref h2, .int p2, .ref h3, .ref h4, .int (nI k5), .int (nI (u106.1 0)), .int (u106.2.1 0), .int (u106.2.1 1), .int (u106.2.1 2), .int (nI (u106.1 1)), .int (u106.2.1 3), .long (u106.2.2.1 0), .ref h5, .ref h6, .int (nI (1 + k15)), .int (nI k16)]), (h1, aI Y 3640 f0), (h2, aZ Y 2 f1), (h3, aZ Y 80 f3), (h4, aB Y 1600 f4), (h5, aI Y 200 (u106.2.2.2.1 0)), (h6, aI Y 800 f14)] rfl ?_
                    refine V_iload_n 180 B dX12_readPlayed_180 0 rfl ?_
                    refine V_if_eq_f 181 B 195 dX12_readPlayed_181 (by decide) (by decide +kernel) ?_
                    refine V_aload_n 184 B dX12_readPlayed_184 3 rfl ?_
                    refine V_cvi 185 B (st := []) (As := []) (fun sz => rX12_readEnd l D Y h0 h1 h2 h3 h4 h5 h6 p2 k5 (u106.1 0) (u106.2.1 0) (u106.2.1 1) (u106.2.1 2) (u106.1 1) (u106.2.1 3) (u106.2.2.1 0) (1 + k15) k16 f0 f1 f3 f4 (u106.2.2.2.1 0) f14 HI (by omega) x109 (by omega) (by omega) (by first | assumption | exact Or.inl rfl | exact Or.inr (by omega)) sz) glV_RX12_304 ⟨rfl, rfl⟩ ⟨(Nat.le_of_ble_eq_true rfl), (Nat.le_of_ble_eq_true rfl)⟩ ⟨(Nat.le_of_ble_eq_true rfl), (Nat.le_of_ble_eq_true rfl)⟩ [0, 0, 0, 0, 0, 0, 0] rfl 13 0 rfl rfl rfl rfl (Nat.le_of_ble_eq_true rfl) rfl (fun _ _ _ => rfl) dX12_readPlayed_185 (fun j116 u117 w118 => ?_)
                    refine V_ws [(h0, oC 13 [.ref h1, .ref h2, .int p2, .ref h3, .ref h4, .int (nI k5), .int (nI (u117.1 0)), .int (u117.2.1 0), .int (u117.2.1 1), .int (u117.2.1 2), .int (nI (u117.1 1)), .int (u106.2.1 3), .long (u117.2.2.1 0), .ref h5, .ref h6, .int (nI (1 + k15)), .int (nI k16)]), (h1, aI Y 3640 f0), (h2, aZ Y 2 f1), (h3, aZ Y 80 f3), (h4, aB Y 1600 f4), (h5, aI Y 200 (u106.2.2.2.1 0)), (h6, aI Y 800 f14)] rfl ?_
                    obtain ⟨x119, x120, x121, x122, x123⟩ := w118
                    rcases x119 with rfl | ⟨rfl, x124⟩
                    ·
                      refine V_if_eq_t 188 B 195 dX12_readPlayed_188 (by decide) (by decide +kernel) ?_
                      refine V_iconst 195 B (v := 0) dX12_readPlayed_195 (by decide +kernel) ?_
                      exact V_zret 196 B rfl dX12_readPlayed_196 (mkW [(u117.1 0), (u117.1 1), 1 + k15, k16] [(u117.2.1 0), (u117.2.1 1), (u117.2.1 2), (u106.2.1 3)] [(u117.2.2.1 0)] [(u106.2.2.2.1 0), f14] [] []) ⟨(Or.inl rfl), x109, (show k10 ≤ (u117.1 1) by omega), (show (u117.1 1) ≤ (u117.1 0) by omega), (show (u117.1 0) ≤ k5 by omega), (show ((u117.2.1 2) = 0 ∨ (u117.1 1) < (u117.1 0)) by first | assumption | exact Or.inr (by omega)), (show 1 + k15 ≤ 40 by omega), (show k16 ≤ 4 * (1 + k15) by omega)⟩ rfl
                    ·
                      refine V_if_eq_f 188 B 195 dX12_readPlayed_188 (by decide) (by decide +kernel) ?_
                      refine V_iconst 191 B (v := 1) dX12_readPlayed_191 (by decide +kernel) ?_
                      refine V_goto 192 B 196 dX12_readPlayed_192 (by decide) ?_
                      exact V_zret 196 B rfl dX12_readPlayed_196 (mkW [(u117.1 0), (u117.1 1), 1 + k15, k16] [(u117.2.1 0), (u117.2.1 1), (u117.2.1 2), (u106.2.1 3)] [(u117.2.2.1 0)] [(u106.2.2.2.1 0), f14] [] []) ⟨(Or.inr ⟨rfl, (show k10 < (u117.1 1) by omega)⟩), x109, (show k10 ≤ (u117.1 1) by omega), (show (u117.1 1) ≤ (u117.1 0) by omega), (show (u117.1 0) ≤ k5 by omega), (show ((u117.2.1 2) = 0 ∨ (u117.1 1) < (u117.1 0)) by first | assumption | exact Or.inr (by omega)), (show 1 + k15 ≤ 40 by omega), (show k16 ≤ 4 * (1 + k15) by omega)⟩ rfl
                ·
                  by_cases kk125 : j0 = 5
                  ·
                    refine V_eqi _ 5 kk125 ?_
                    refine V_tableIn 64 B 133 dX12_readPlayed_64 (by decide +kernel) (by decide +kernel) (off := 69) (by decide +kernel) (by decide) ?_
                    refine V_aload_n 133 B dX12_readPlayed_133 3 rfl ?_
                    refine V_cvi 134 B (st := []) (As := []) (fun sz => rX12_readStrokes l D Y h0 h1 h2 h3 h4 h5 h6 p2 k5 (u8.1 0) p7 p8 (u8.2.1 0) (u8.1 1) p11 (u8.2.2.1 0) k15 k16 f0 f1 f3 f4 (upd (upd f13 (5 * k15) j0) (3 + 5 * k15) (nI k16)) f14 HI (by omega) x15 (by omega) (by omega) (by first | assumption | exact Or.inl rfl | exact Or.inr (by omega)) (by omega) (by omega) sz) glV_RX12_370 ⟨rfl, rfl⟩ ⟨(Nat.le_of_ble_eq_true rfl), (Nat.le_of_ble_eq_true rfl)⟩ ⟨(Nat.le_of_ble_eq_true rfl), (Nat.le_of_ble_eq_true rfl)⟩ [0, 0, 0, 0, 0, 0, 0] rfl 13 0 rfl rfl rfl rfl (Nat.le_of_ble_eq_true rfl) rfl (fun _ _ _ => rfl) dX12_readPlayed_134 (fun j126 u127 w128 => ?_)
                    refine V_ws [(h0, oC 13 [.ref h1, .ref h2, .int p2, .ref h3, .ref h4, .int (nI k5), .int (nI (u127.1 0)), .int (u127.2.1 0), .int (u127.2.1 1), .int (u127.2.1 2), .int (nI (u127.1 1)), .int p11, .long (u127.2.2.1 0), .ref h5, .ref h6, .int (nI k15), .int (nI (u127.1 2))]), (h1, aI Y 3640 f0), (h2, aZ Y 2 f1), (h3, aZ Y 80 f3), (h4, aB Y 1600 f4), (h5, aI Y 200 (u127.2.2.2.1 0)), (h6, aI Y 800 (u127.2.2.2.1 1))] rfl ?_
                    obtain ⟨x129, x130, x131, x132, x133, x134, x135⟩ := w128
                    rcases x129 with rfl | ⟨rfl, x136⟩
                    ·
                      refine V_istore_n 137 B (lv2 := [(3, .int 0), (2, .int (nI (5 * k15))), (1, .int j0), (0, .ref h0)]) dX12_readPlayed_137 (by decide) rfl ?_
                      refine V_goto 138 B 170 dX12_readPlayed_138 (by decide) ?_
                      refine V_aload_n 170 B dX12_readPlayed_170 3 rfl ?_
                      refine V_dup 171 B dX12_readPlayed_171 rfl ?_
                      refine V_get 172 B gf_RX12_361 0 rfl rfl dX12_readPlayed_172 ?_
                      refine V_iconst 175 B (v := 1) dX12_readPlayed_175 (by decide +kernel) ?_
                      refine V_iadd 176 B (v := (nI (1 + k15))) dX12_readPlayed_176 (nI_addE (a := k15) (b := 1) (by omega)) ?_
                      refine V_put 177 B gp_RX12_361 0 rfl (Nat.le_of_ble_eq_true rfl) rfl rfl dX12_readPlayed_177 [(h0, oC 13 [.ref h1, .ref h2, .int p2, .ref h3, .ref h4, .int (nI k5), .int (nI (u127.1 0)), .int (u127.2.1 0), .int (u127.2.1 1), .int (u127.2.1 2), .int (nI (u127.1 1)), .int p11, .long (u127.2.2.1 0), .ref h5, .ref h6, .int (nI (1 + k15)), .int (nI (u127.1 2))]), (h1, aI Y 3640 f0), (h2, aZ Y 2 f1), (h3, aZ Y 80 f3), (h4, aB Y 1600 f4), (h5, aI Y 200 (u127.2.2.2.1 0)), (h6, aI Y 800 (u127.2.2.2.1 1))] rfl ?_
                      refine V_iload_n 180 B dX12_readPlayed_180 0 rfl ?_
                      refine V_if_eq_t 181 B 195 dX12_readPlayed_181 (by decide) (by decide +kernel) ?_
                      refine V_iconst 195 B (v := 0) dX12_readPlayed_195 (by decide +kernel) ?_
                      exact V_zret 196 B rfl dX12_readPlayed_196 (mkW [(u127.1 0), (u127.1 1), 1 + k15, (u127.1 2)] [(u127.2.1 0), (u127.2.1 1), (u127.2.1 2), p11] [(u127.2.2.1 0)] [(u127.2.2.2.1 0), (u127.2.2.2.1 1)] [] []) ⟨(Or.inl rfl), x130, (show k10 ≤ (u127.1 1) by omega), (show (u127.1 1) ≤ (u127.1 0) by omega), (show (u127.1 0) ≤ k5 by omega), (show ((u127.2.1 2) = 0 ∨ (u127.1 1) < (u127.1 0)) by first | assumption | exact Or.inr (by omega)), (show 1 + k15 ≤ 40 by omega), (show (u127.1 2) ≤ 4 * (1 + k15) by omega)⟩ rfl
                    ·
                      refine V_istore_n 137 B (lv2 := [(3, .int 1), (2, .int (nI (5 * k15))), (1, .int j0), (0, .ref h0)]) dX12_readPlayed_137 (by decide) rfl ?_
                      refine V_goto 138 B 170 dX12_readPlayed_138 (by decide) ?_
                      refine V_aload_n 170 B dX12_readPlayed_170 3 rfl ?_
                      refine V_dup 171 B dX12_readPlayed_171 rfl ?_
                      refine V_get 172 B gf_RX12_361 0 rfl rfl dX12_readPlayed_172 ?_
                      refine V_iconst 175 B (v := 1) dX12_readPlayed_175 (by decide +kernel) ?_
                      refine V_iadd 176 B (v := (nI (1 + k15))) dX12_readPlayed_176 (nI_addE (a := k15) (b := 1) (by omega)) ?_
                      refine V_put 177 B gp_RX12_361 0 rfl (Nat.le_of_ble_eq_true rfl) rfl rfl dX12_readPlayed_177 [(h0, oC 13 [.ref h1, .ref h2, .int p2, .ref h3, .ref h4, .int (nI k5), .int (nI (u127.1 0)), .int (u127.2.1 0), .int (u127.2.1 1), .int (u127.2.1 2), .int (nI (u127.1 1)), .int p11, .long (u127.2.2.1 0), .ref h5, .ref h6, .int (nI (1 + k15)), .int (nI (u127.1 2))]), (h1, aI Y 3640 f0), (h2, aZ Y 2 f1), (h3, aZ Y 80 f3), (h4, aB Y 1600 f4), (h5, aI Y 200 (u127.2.2.2.1 0)), (h6, aI Y 800 (u127.2.2.2.1 1))] rfl ?_
                      refine V_iload_n 180 B dX12_readPlayed_180 0 rfl ?_
                      refine V_if_eq_f 181 B 195 dX12_readPlayed_181 (by decide) (by decide +kernel) ?_
                      refine V_aload_n 184 B dX12_readPlayed_184 3 rfl ?_
                      refine V_cvi 185 B (st := []) (As := []) (fun sz => rX12_readEnd l D Y h0 h1 h2 h3 h4 h5 h6 p2 k5 (u127.1 0) (u127.2.1 0) (u127.2.1 1) (u127.2.1 2) (u127.1 1) p11 (u127.2.2.1 0) (1 + k15) (u127.1 2) f0 f1 f3 f4 (u127.2.2.2.1 0) (u127.2.2.2.1 1) HI (by omega) x130 (by omega) (by omega) (by first | assumption | exact Or.inl rfl | exact Or.inr (by omega)) sz) glV_RX12_304 ⟨rfl, rfl⟩ ⟨(Nat.le_of_ble_eq_true rfl), (Nat.le_of_ble_eq_true rfl)⟩ ⟨(Nat.le_of_ble_eq_true rfl), (Nat.le_of_ble_eq_true rfl)⟩ [0, 0, 0, 0, 0, 0, 0] rfl 13 0 rfl rfl rfl rfl (Nat.le_of_ble_eq_true rfl) rfl (fun _ _ _ => rfl) dX12_readPlayed_185 (fun j137 u138 w139 => ?_)
                      refine V_ws [(h0, oC 13 [.ref h1, .ref h2, .int p2, .ref h3, .ref h4, .int (nI k5), .int (nI (u138.1 0)), .int (u138.2.1 0), .int (u138.2.1 1), .int (u138.2.1 2), .int (nI (u138.1 1)), .int p11, .long (u138.2.2.1 0), .ref h5, .ref h6, .int (nI (1 + k15)), .int (nI (u127.1 2))]), (h1, aI Y 3640 f0), (h2, aZ Y 2 f1), (h3, aZ Y 80 f3), (h4, aB Y 1600 f4), (h5, aI Y 200 (u127.2.2.2.1 0)), (h6, aI Y 800 (u127.2.2.2.1 1))] rfl ?_
                      obtain ⟨x140, x141, x142, x143, x144⟩ := w139
                      rcases x140 with rfl | ⟨rfl, x145⟩
                      ·
                        refine V_if_eq_t 188 B 195 dX12_readPlayed_188 (by decide) (by decide +kernel) ?_
                        refine V_iconst 195 B (v := 0) dX12_readPlayed_195 (by decide +kernel) ?_
                        exact V_zret 196 B rfl dX12_readPlayed_196 (mkW [(u138.1 0), (u138.1 1), 1 + k15, (u127.1 2)] [(u138.2.1 0), (u138.2.1 1), (u138.2.1 2), p11] [(u138.2.2.1 0)] [(u127.2.2.2.1 0), (u127.2.2.2.1 1)] [] []) ⟨(Or.inl rfl), x130, (show k10 ≤ (u138.1 1) by omega), (show (u138.1 1) ≤ (u138.1 0) by omega), (show (u138.1 0) ≤ k5 by omega), (show ((u138.2.1 2) = 0 ∨ (u138.1 1) < (u138.1 0)) by first | assumption | exact Or.inr (by omega)), (show 1 + k15 ≤ 40 by omega), (show (u127.1 2) ≤ 4 * (1 + k15) by omega)⟩ rfl
                      ·
                        refine V_if_eq_f 188 B 195 dX12_readPlayed_188 (by decide) (by decide +kernel) ?_
                        refine V_iconst 191 B (v := 1) dX12_readPlayed_191 (by decide +kernel) ?_
                        refine V_goto 192 B 196 dX12_readPlayed_192 (by decide) ?_
                        exact V_zret 196 B rfl dX12_readPlayed_196 (mkW [(u138.1 0), (u138.1 1), 1 + k15, (u127.1 2)] [(u138.2.1 0), (u138.2.1 1), (u138.2.1 2), p11] [(u138.2.2.1 0)] [(u127.2.2.2.1 0), (u127.2.2.2.1 1)] [] []) ⟨(Or.inr ⟨rfl, (show k10 < (u138.1 1) by omega)⟩), x130, (show k10 ≤ (u138.1 1) by omega), (show (u138.1 1) ≤ (u138.1 0) by omega), (show (u138.1 0) ≤ k5 by omega), (show ((u138.2.1 2) = 0 ∨ (u138.1 1) < (u138.1 0)) by first | assumption | exact Or.inr (by omega)), (show 1 + k15 ≤ 40 by omega), (show (u127.1 2) ≤ 4 * (1 + k15) by omega)⟩ rfl
                  ·
                    refine V_tableOut 64 B 141 dX12_readPlayed_64 (sw_out_0_5 kk16 kk39 kk62 kk83 kk104 kk125) (by decide) ?_
                    refine V_aload_n 141 B dX12_readPlayed_141 3 rfl ?_
                    refine V_iconst 142 B (v := 1) dX12_readPlayed_142 (by decide +kernel) ?_
                    refine V_cvi 143 B (st := []) (As := [.int 1]) (fun sz => rX12_readNumberOf_1 l D Y h0 h1 h2 h3 h4 h5 h6 p2 k5 (u8.1 0) p7 p8 (u8.2.1 0) (u8.1 1) p11 (u8.2.2.1 0) k15 k16 f0 f1 f3 f4 (upd (upd f13 (5 * k15) j0) (3 + 5 * k15) (nI k16)) f14 HI (by omega) x15 (by omega) (by omega) (by first | assumption | exact Or.inl rfl | exact Or.inr (by omega)) (by omega) sz) glV_RX12_367 ⟨rfl, rfl⟩ ⟨(Nat.le_of_ble_eq_true rfl), (Nat.le_of_ble_eq_true rfl)⟩ ⟨(Nat.le_of_ble_eq_true rfl), (Nat.le_of_ble_eq_true rfl)⟩ [0, 0, 0, 0, 0, 0, 0] rfl 13 0 rfl rfl rfl rfl (Nat.le_of_ble_eq_true rfl) rfl (fun _ _ _ => rfl) dX12_readPlayed_143 (fun j146 u147 w148 => ?_)
                    refine V_ws [(h0, oC 13 [.ref h1, .ref h2, .int p2, .ref h3, .ref h4, .int (nI k5), .int (nI (u147.1 0)), .int (u147.2.1 0), .int (u147.2.1 1), .int (u147.2.1 2), .int (nI (u147.1 1)), .int (u147.2.1 3), .long (u147.2.2.1 0), .ref h5, .ref h6, .int (nI k15), .int (nI k16)]), (h1, aI Y 3640 f0), (h2, aZ Y 2 f1), (h3, aZ Y 80 f3), (h4, aB Y 1600 f4), (h5, aI Y 200 (u147.2.2.2.1 0)), (h6, aI Y 800 f14)] rfl ?_
                    obtain ⟨x149, x150, x151, x152, x153, x154⟩ := w148
                    rcases x149 with rfl | ⟨rfl, x155⟩
                    ·
                      refine V_if_eq_t 146 B 168 dX12_readPlayed_146 (by decide) (by decide +kernel) ?_
                      refine V_iconst 168 B (v := 0) dX12_readPlayed_168 (by decide +kernel) ?_
                      refine V_istore_n 169 B (lv2 := [(3, .int 0), (2, .int (nI (5 * k15))), (1, .int j0), (0, .ref h0)]) dX12_readPlayed_169 (by decide) rfl ?_
                      refine V_aload_n 170 B dX12_readPlayed_170 3 rfl ?_
                      refine V_dup 171 B dX12_readPlayed_171 rfl ?_
                      refine V_get 172 B gf_RX12_361 0 rfl rfl dX12_readPlayed_172 ?_
                      refine V_iconst 175 B (v := 1) dX12_readPlayed_175 (by decide +kernel) ?_
                      refine V_iadd 176 B (v := (nI (1 + k15))) dX12_readPlayed_176 (nI_addE (a := k15) (b := 1) (by omega)) ?_
                      refine V_put 177 B gp_RX12_361 0 rfl (Nat.le_of_ble_eq_true rfl) rfl rfl dX12_readPlayed_177 [(h0, oC 13 [.ref h1, .ref h2, .int p2, .ref h3, .ref h4, .int (nI k5), .int (nI (u147.1 0)), .int (u147.2.1 0), .int (u147.2.1 1), .int (u147.2.1 2), .int (nI (u147.1 1)), .int (u147.2.1 3), .long (u147.2.2.1 0), .ref h5, .ref h6, .int (nI (1 + k15)), .int (nI k16)]), (h1, aI Y 3640 f0), (h2, aZ Y 2 f1), (h3, aZ Y 80 f3), (h4, aB Y 1600 f4), (h5, aI Y 200 (u147.2.2.2.1 0)), (h6, aI Y 800 f14)] rfl ?_
                      refine V_iload_n 180 B dX12_readPlayed_180 0 rfl ?_
                      refine V_if_eq_t 181 B 195 dX12_readPlayed_181 (by decide) (by decide +kernel) ?_
                      refine V_iconst 195 B (v := 0) dX12_readPlayed_195 (by decide +kernel) ?_
                      exact V_zret 196 B rfl dX12_readPlayed_196 (mkW [(u147.1 0), (u147.1 1), 1 + k15, k16] [(u147.2.1 0), (u147.2.1 1), (u147.2.1 2), (u147.2.1 3)] [(u147.2.2.1 0)] [(u147.2.2.2.1 0), f14] [] []) ⟨(Or.inl rfl), x150, (show k10 ≤ (u147.1 1) by omega), (show (u147.1 1) ≤ (u147.1 0) by omega), (show (u147.1 0) ≤ k5 by omega), (show ((u147.2.1 2) = 0 ∨ (u147.1 1) < (u147.1 0)) by first | assumption | exact Or.inr (by omega)), (show 1 + k15 ≤ 40 by omega), (show k16 ≤ 4 * (1 + k15) by omega)⟩ rfl
                    ·
                      have e156 : (1 : Int32).toInt = 1 := by decide +kernel
                      refine V_if_eq_f 146 B 168 dX12_readPlayed_146 (by decide) (by decide +kernel) ?_
                      refine V_aload_n 149 B dX12_readPlayed_149 3 rfl ?_
                      refine V_iconst 150 B (v := 2) dX12_readPlayed_150 (by decide +kernel) ?_
                      refine V_cvi 151 B (st := []) (As := [.int 2]) (fun sz => rX12_readNumberOf_2 l D Y h0 h1 h2 h3 h4 h5 h6 p2 k5 (u147.1 0) (u147.2.1 0) (u147.2.1 1) (u147.2.1 2) (u147.1 1) (u147.2.1 3) (u147.2.2.1 0) k15 k16 f0 f1 f3 f4 (u147.2.2.2.1 0) f14 HI (by omega) x150 (by omega) (by omega) (by first | assumption | exact Or.inl rfl | exact Or.inr (by omega)) (by omega) sz) glV_RX12_367 ⟨rfl, rfl⟩ ⟨(Nat.le_of_ble_eq_true rfl), (Nat.le_of_ble_eq_true rfl)⟩ ⟨(Nat.le_of_ble_eq_true rfl), (Nat.le_of_ble_eq_true rfl)⟩ [0, 0, 0, 0, 0, 0, 0] rfl 13 0 rfl rfl rfl rfl (Nat.le_of_ble_eq_true rfl) rfl (fun _ _ _ => rfl) dX12_readPlayed_151 (fun j157 u158 w159 => ?_)
                      refine V_ws [(h0, oC 13 [.ref h1, .ref h2, .int p2, .ref h3, .ref h4, .int (nI k5), .int (nI (u158.1 0)), .int (u158.2.1 0), .int (u158.2.1 1), .int (u158.2.1 2), .int (nI (u158.1 1)), .int (u158.2.1 3), .long (u158.2.2.1 0), .ref h5, .ref h6, .int (nI k15), .int (nI k16)]), (h1, aI Y 3640 f0), (h2, aZ Y 2 f1), (h3, aZ Y 80 f3), (h4, aB Y 1600 f4), (h5, aI Y 200 (u158.2.2.2.1 0)), (h6, aI Y 800 f14)] rfl ?_
                      obtain ⟨x160, x161, x162, x163, x164, x165⟩ := w159
                      rcases x160 with rfl | ⟨rfl, x166⟩
                      ·
                        refine V_if_eq_t 154 B 168 dX12_readPlayed_154 (by decide) (by decide +kernel) ?_
                        refine V_iconst 168 B (v := 0) dX12_readPlayed_168 (by decide +kernel) ?_
                        refine V_istore_n 169 B (lv2 := [(3, .int 0), (2, .int (nI (5 * k15))), (1, .int j0), (0, .ref h0)]) dX12_readPlayed_169 (by decide) rfl ?_
                        refine V_aload_n 170 B dX12_readPlayed_170 3 rfl ?_
                        refine V_dup 171 B dX12_readPlayed_171 rfl ?_
                        refine V_get 172 B gf_RX12_361 0 rfl rfl dX12_readPlayed_172 ?_
                        refine V_iconst 175 B (v := 1) dX12_readPlayed_175 (by decide +kernel) ?_
                        refine V_iadd 176 B (v := (nI (1 + k15))) dX12_readPlayed_176 (nI_addE (a := k15) (b := 1) (by omega)) ?_
                        refine V_put 177 B gp_RX12_361 0 rfl (Nat.le_of_ble_eq_true rfl) rfl rfl dX12_readPlayed_177 [(h0, oC 13 [.ref h1, .ref h2, .int p2, .ref h3, .ref h4, .int (nI k5), .int (nI (u158.1 0)), .int (u158.2.1 0), .int (u158.2.1 1), .int (u158.2.1 2), .int (nI (u158.1 1)), .int (u158.2.1 3), .long (u158.2.2.1 0), .ref h5, .ref h6, .int (nI (1 + k15)), .int (nI k16)]), (h1, aI Y 3640 f0), (h2, aZ Y 2 f1), (h3, aZ Y 80 f3), (h4, aB Y 1600 f4), (h5, aI Y 200 (u158.2.2.2.1 0)), (h6, aI Y 800 f14)] rfl ?_
                        refine V_iload_n 180 B dX12_readPlayed_180 0 rfl ?_
                        refine V_if_eq_t 181 B 195 dX12_readPlayed_181 (by decide) (by decide +kernel) ?_
                        refine V_iconst 195 B (v := 0) dX12_readPlayed_195 (by decide +kernel) ?_
                        exact V_zret 196 B rfl dX12_readPlayed_196 (mkW [(u158.1 0), (u158.1 1), 1 + k15, k16] [(u158.2.1 0), (u158.2.1 1), (u158.2.1 2), (u158.2.1 3)] [(u158.2.2.1 0)] [(u158.2.2.2.1 0), f14] [] []) ⟨(Or.inl rfl), x161, (show k10 ≤ (u158.1 1) by omega), (show (u158.1 1) ≤ (u158.1 0) by omega), (show (u158.1 0) ≤ k5 by omega), (show ((u158.2.1 2) = 0 ∨ (u158.1 1) < (u158.1 0)) by first | assumption | exact Or.inr (by omega)), (show 1 + k15 ≤ 40 by omega), (show k16 ≤ 4 * (1 + k15) by omega)⟩ rfl
                      ·
                        have e167 : (2 : Int32).toInt = 2 := by decide +kernel
                        refine V_if_eq_f 154 B 168 dX12_readPlayed_154 (by decide) (by decide +kernel) ?_
                        refine V_aload_n 157 B dX12_readPlayed_157 3 rfl ?_
                        refine V_cvi 158 B (st := []) (As := []) (fun sz => rX12_readStrokes l D Y h0 h1 h2 h3 h4 h5 h6 p2 k5 (u158.1 0) (u158.2.1 0) (u158.2.1 1) (u158.2.1 2) (u158.1 1) (u158.2.1 3) (u158.2.2.1 0) k15 k16 f0 f1 f3 f4 (u158.2.2.2.1 0) f14 HI (by omega) x161 (by omega) (by omega) (by first | assumption | exact Or.inl rfl | exact Or.inr (by omega)) (by omega) (by omega) sz) glV_RX12_370 ⟨rfl, rfl⟩ ⟨(Nat.le_of_ble_eq_true rfl), (Nat.le_of_ble_eq_true rfl)⟩ ⟨(Nat.le_of_ble_eq_true rfl), (Nat.le_of_ble_eq_true rfl)⟩ [0, 0, 0, 0, 0, 0, 0] rfl 13 0 rfl rfl rfl rfl (Nat.le_of_ble_eq_true rfl) rfl (fun _ _ _ => rfl) dX12_readPlayed_158 (fun j168 u169 w170 => ?_)
                        refine V_ws [(h0, oC 13 [.ref h1, .ref h2, .int p2, .ref h3, .ref h4, .int (nI k5), .int (nI (u169.1 0)), .int (u169.2.1 0), .int (u169.2.1 1), .int (u169.2.1 2), .int (nI (u169.1 1)), .int (u158.2.1 3), .long (u169.2.2.1 0), .ref h5, .ref h6, .int (nI k15), .int (nI (u169.1 2))]), (h1, aI Y 3640 f0), (h2, aZ Y 2 f1), (h3, aZ Y 80 f3), (h4, aB Y 1600 f4), (h5, aI Y 200 (u169.2.2.2.1 0)), (h6, aI Y 800 (u169.2.2.2.1 1))] rfl ?_
                        obtain ⟨x171, x172, x173, x174, x175, x176, x177⟩ := w170
                        rcases x171 with rfl | ⟨rfl, x178⟩
                        ·
                          refine V_if_eq_t 161 B 168 dX12_readPlayed_161 (by decide) (by decide +kernel) ?_
                          refine V_iconst 168 B (v := 0) dX12_readPlayed_168 (by decide +kernel) ?_
                          refine V_istore_n 169 B (lv2 := [(3, .int 0), (2, .int (nI (5 * k15))), (1, .int j0), (0, .ref h0)]) dX12_readPlayed_169 (by decide) rfl ?_
                          refine V_aload_n 170 B dX12_readPlayed_170 3 rfl ?_
                          refine V_dup 171 B dX12_readPlayed_171 rfl ?_
                          refine V_get 172 B gf_RX12_361 0 rfl rfl dX12_readPlayed_172 ?_
                          refine V_iconst 175 B (v := 1) dX12_readPlayed_175 (by decide +kernel) ?_
                          refine V_iadd 176 B (v := (nI (1 + k15))) dX12_readPlayed_176 (nI_addE (a := k15) (b := 1) (by omega)) ?_
                          refine V_put 177 B gp_RX12_361 0 rfl (Nat.le_of_ble_eq_true rfl) rfl rfl dX12_readPlayed_177 [(h0, oC 13 [.ref h1, .ref h2, .int p2, .ref h3, .ref h4, .int (nI k5), .int (nI (u169.1 0)), .int (u169.2.1 0), .int (u169.2.1 1), .int (u169.2.1 2), .int (nI (u169.1 1)), .int (u158.2.1 3), .long (u169.2.2.1 0), .ref h5, .ref h6, .int (nI (1 + k15)), .int (nI (u169.1 2))]), (h1, aI Y 3640 f0), (h2, aZ Y 2 f1), (h3, aZ Y 80 f3), (h4, aB Y 1600 f4), (h5, aI Y 200 (u169.2.2.2.1 0)), (h6, aI Y 800 (u169.2.2.2.1 1))] rfl ?_
                          refine V_iload_n 180 B dX12_readPlayed_180 0 rfl ?_
                          refine V_if_eq_t 181 B 195 dX12_readPlayed_181 (by decide) (by decide +kernel) ?_
                          refine V_iconst 195 B (v := 0) dX12_readPlayed_195 (by decide +kernel) ?_
                          exact V_zret 196 B rfl dX12_readPlayed_196 (mkW [(u169.1 0), (u169.1 1), 1 + k15, (u169.1 2)] [(u169.2.1 0), (u169.2.1 1), (u169.2.1 2), (u158.2.1 3)] [(u169.2.2.1 0)] [(u169.2.2.2.1 0), (u169.2.2.2.1 1)] [] []) ⟨(Or.inl rfl), x172, (show k10 ≤ (u169.1 1) by omega), (show (u169.1 1) ≤ (u169.1 0) by omega), (show (u169.1 0) ≤ k5 by omega), (show ((u169.2.1 2) = 0 ∨ (u169.1 1) < (u169.1 0)) by first | assumption | exact Or.inr (by omega)), (show 1 + k15 ≤ 40 by omega), (show (u169.1 2) ≤ 4 * (1 + k15) by omega)⟩ rfl
                        ·
                          refine V_if_eq_f 161 B 168 dX12_readPlayed_161 (by decide) (by decide +kernel) ?_
                          refine V_iconst 164 B (v := 1) dX12_readPlayed_164 (by decide +kernel) ?_
                          refine V_goto 165 B 169 dX12_readPlayed_165 (by decide) ?_
                          refine V_istore_n 169 B (lv2 := [(3, .int 1), (2, .int (nI (5 * k15))), (1, .int j0), (0, .ref h0)]) dX12_readPlayed_169 (by decide) rfl ?_
                          refine V_aload_n 170 B dX12_readPlayed_170 3 rfl ?_
                          refine V_dup 171 B dX12_readPlayed_171 rfl ?_
                          refine V_get 172 B gf_RX12_361 0 rfl rfl dX12_readPlayed_172 ?_
                          refine V_iconst 175 B (v := 1) dX12_readPlayed_175 (by decide +kernel) ?_
                          refine V_iadd 176 B (v := (nI (1 + k15))) dX12_readPlayed_176 (nI_addE (a := k15) (b := 1) (by omega)) ?_
                          refine V_put 177 B gp_RX12_361 0 rfl (Nat.le_of_ble_eq_true rfl) rfl rfl dX12_readPlayed_177 [(h0, oC 13 [.ref h1, .ref h2, .int p2, .ref h3, .ref h4, .int (nI k5), .int (nI (u169.1 0)), .int (u169.2.1 0), .int (u169.2.1 1), .int (u169.2.1 2), .int (nI (u169.1 1)), .int (u158.2.1 3), .long (u169.2.2.1 0), .ref h5, .ref h6, .int (nI (1 + k15)), .int (nI (u169.1 2))]), (h1, aI Y 3640 f0), (h2, aZ Y 2 f1), (h3, aZ Y 80 f3), (h4, aB Y 1600 f4), (h5, aI Y 200 (u169.2.2.2.1 0)), (h6, aI Y 800 (u169.2.2.2.1 1))] rfl ?_
                          refine V_iload_n 180 B dX12_readPlayed_180 0 rfl ?_
                          refine V_if_eq_f 181 B 195 dX12_readPlayed_181 (by decide) (by decide +kernel) ?_
                          refine V_aload_n 184 B dX12_readPlayed_184 3 rfl ?_
                          refine V_cvi 185 B (st := []) (As := []) (fun sz => rX12_readEnd l D Y h0 h1 h2 h3 h4 h5 h6 p2 k5 (u169.1 0) (u169.2.1 0) (u169.2.1 1) (u169.2.1 2) (u169.1 1) (u158.2.1 3) (u169.2.2.1 0) (1 + k15) (u169.1 2) f0 f1 f3 f4 (u169.2.2.2.1 0) (u169.2.2.2.1 1) HI (by omega) x172 (by omega) (by omega) (by first | assumption | exact Or.inl rfl | exact Or.inr (by omega)) sz) glV_RX12_304 ⟨rfl, rfl⟩ ⟨(Nat.le_of_ble_eq_true rfl), (Nat.le_of_ble_eq_true rfl)⟩ ⟨(Nat.le_of_ble_eq_true rfl), (Nat.le_of_ble_eq_true rfl)⟩ [0, 0, 0, 0, 0, 0, 0] rfl 13 0 rfl rfl rfl rfl (Nat.le_of_ble_eq_true rfl) rfl (fun _ _ _ => rfl) dX12_readPlayed_185 (fun j179 u180 w181 => ?_)
                          refine V_ws [(h0, oC 13 [.ref h1, .ref h2, .int p2, .ref h3, .ref h4, .int (nI k5), .int (nI (u180.1 0)), .int (u180.2.1 0), .int (u180.2.1 1), .int (u180.2.1 2), .int (nI (u180.1 1)), .int (u158.2.1 3), .long (u180.2.2.1 0), .ref h5, .ref h6, .int (nI (1 + k15)), .int (nI (u169.1 2))]), (h1, aI Y 3640 f0), (h2, aZ Y 2 f1), (h3, aZ Y 80 f3), (h4, aB Y 1600 f4), (h5, aI Y 200 (u169.2.2.2.1 0)), (h6, aI Y 800 (u169.2.2.2.1 1))] rfl ?_
                          obtain ⟨x182, x183, x184, x185, x186⟩ := w181
                          rcases x182 with rfl | ⟨rfl, x187⟩
                          ·
                            refine V_if_eq_t 188 B 195 dX12_readPlayed_188 (by decide) (by decide +kernel) ?_
                            refine V_iconst 195 B (v := 0) dX12_readPlayed_195 (by decide +kernel) ?_
                            exact V_zret 196 B rfl dX12_readPlayed_196 (mkW [(u180.1 0), (u180.1 1), 1 + k15, (u169.1 2)] [(u180.2.1 0), (u180.2.1 1), (u180.2.1 2), (u158.2.1 3)] [(u180.2.2.1 0)] [(u169.2.2.2.1 0), (u169.2.2.2.1 1)] [] []) ⟨(Or.inl rfl), x172, (show k10 ≤ (u180.1 1) by omega), (show (u180.1 1) ≤ (u180.1 0) by omega), (show (u180.1 0) ≤ k5 by omega), (show ((u180.2.1 2) = 0 ∨ (u180.1 1) < (u180.1 0)) by first | assumption | exact Or.inr (by omega)), (show 1 + k15 ≤ 40 by omega), (show (u169.1 2) ≤ 4 * (1 + k15) by omega)⟩ rfl
                          ·
                            refine V_if_eq_f 188 B 195 dX12_readPlayed_188 (by decide) (by decide +kernel) ?_
                            refine V_iconst 191 B (v := 1) dX12_readPlayed_191 (by decide +kernel) ?_
                            refine V_goto 192 B 196 dX12_readPlayed_192 (by decide) ?_
                            exact V_zret 196 B rfl dX12_readPlayed_196 (mkW [(u180.1 0), (u180.1 1), 1 + k15, (u169.1 2)] [(u180.2.1 0), (u180.2.1 1), (u180.2.1 2), (u158.2.1 3)] [(u180.2.2.1 0)] [(u169.2.2.2.1 0), (u169.2.2.2.1 1)] [] []) ⟨(Or.inr ⟨rfl, (show k10 < (u180.1 1) by omega)⟩), x172, (show k10 ≤ (u180.1 1) by omega), (show (u180.1 1) ≤ (u180.1 0) by omega), (show (u180.1 0) ≤ k5 by omega), (show ((u180.2.1 2) = 0 ∨ (u180.1 1) < (u180.1 0)) by first | assumption | exact Or.inr (by omega)), (show 1 + k15 ≤ 40 by omega), (show (u169.1 2) ≤ 4 * (1 + k15) by omega)⟩ rfl
      ·
        have x188 := n_eq (a := k15) (b := 40) kk5 (by omega) (by omega)
        refine V_aload_n 25 B dX12_readPlayed_25 1 rfl ?_
        refine V_iconst 26 B (v := 3) dX12_readPlayed_26 (by decide +kernel) ?_
        refine V_cvi 27 B (st := []) (As := [.int 3]) (fun sz => rX12_fail l D Y h0 h1 h2 h3 h4 h5 h6 p2 k5 k6 p7 p8 p9 k10 p11 q12 k15 k16 f0 f1 f3 f4 f13 f14 HI (by omega) HP 3 sz) glV_RX12_291 ⟨rfl, rfl⟩ ⟨(Nat.le_of_ble_eq_true rfl), (Nat.le_of_ble_eq_true rfl)⟩ ⟨(Nat.le_of_ble_eq_true rfl), (Nat.le_of_ble_eq_true rfl)⟩ [0, 0, 0, 0, 0, 0, 0] rfl 13 0 rfl rfl rfl rfl (Nat.le_of_ble_eq_true rfl) rfl (fun _ _ _ => rfl) dX12_readPlayed_27 (fun j189 u190 w191 => ?_)
        refine V_ws [(h0, oC 13 [.ref h1, .ref h2, .int p2, .ref h3, .ref h4, .int (nI k5), .int (nI k6), .int (u190.2.1 0), .int (u190.2.1 1), .int p9, .int (nI k10), .int p11, .long q12, .ref h5, .ref h6, .int (nI k15), .int (nI k16)]), (h1, aI Y 3640 f0), (h2, aZ Y 2 f1), (h3, aZ Y 80 f3), (h4, aB Y 1600 f4), (h5, aI Y 200 f13), (h6, aI Y 800 f14)] rfl ?_
        have x192 := w191
        clear w191
        obtain rfl := x192
        exact V_zret 30 B rfl dX12_readPlayed_30 (mkW [k6, k10, k15, k16] [(u190.2.1 0), (u190.2.1 1), p9, p11] [q12] [f13, f14] [] []) ⟨(Or.inl rfl), HP, (show k10 ≤ k10 by omega), (show k10 ≤ k6 by omega), (show k6 ≤ k5 by omega), (show (p9 = 0 ∨ k10 < k6) by first | assumption | exact Or.inr (by omega)), (show k15 ≤ 40 by omega), (show k16 ≤ 4 * k15 by omega)⟩ rfl
    ·
      obtain rfl : j0 = (-1) := kk3
      have e194 : ((-1) : Int32).toInt = (-1) := by decide +kernel
      refine V_aload_n 10 B dX12_readPlayed_10 1 rfl ?_
      refine V_iconst 11 B (v := 1) dX12_readPlayed_11 (by decide +kernel) ?_
      refine V_cvi 12 B (st := []) (As := [.int 1]) (fun sz => rX12_fail l D Y h0 h1 h2 h3 h4 h5 h6 p2 k5 k6 p7 p8 p9 k10 p11 q12 k15 k16 f0 f1 f3 f4 f13 f14 HI (by omega) HP 1 sz) glV_RX12_291 ⟨rfl, rfl⟩ ⟨(Nat.le_of_ble_eq_true rfl), (Nat.le_of_ble_eq_true rfl)⟩ ⟨(Nat.le_of_ble_eq_true rfl), (Nat.le_of_ble_eq_true rfl)⟩ [0, 0, 0, 0, 0, 0, 0] rfl 13 0 rfl rfl rfl rfl (Nat.le_of_ble_eq_true rfl) rfl (fun _ _ _ => rfl) dX12_readPlayed_12 (fun j195 u196 w197 => ?_)
      refine V_ws [(h0, oC 13 [.ref h1, .ref h2, .int p2, .ref h3, .ref h4, .int (nI k5), .int (nI k6), .int (u196.2.1 0), .int (u196.2.1 1), .int p9, .int (nI k10), .int p11, .long q12, .ref h5, .ref h6, .int (nI k15), .int (nI k16)]), (h1, aI Y 3640 f0), (h2, aZ Y 2 f1), (h3, aZ Y 80 f3), (h4, aB Y 1600 f4), (h5, aI Y 200 f13), (h6, aI Y 800 f14)] rfl ?_
      have x198 := w197
      clear w197
      obtain rfl := x198
      exact V_zret 15 B rfl dX12_readPlayed_15 (mkW [k6, k10, k15, k16] [(u196.2.1 0), (u196.2.1 1), p9, p11] [q12] [f13, f14] [] []) ⟨(Or.inl rfl), HP, (show k10 ≤ k10 by omega), (show k10 ≤ k6 by omega), (show k6 ≤ k5 by omega), (show (p9 = 0 ∨ k10 < k6) by first | assumption | exact Or.inr (by omega)), (show k15 ≤ 40 by omega), (show k16 ≤ 4 * k15 by omega)⟩ rfl)
