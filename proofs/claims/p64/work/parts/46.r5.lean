theorem dX12_readPlayed_0 : decode cX12_readPlayed 0 = .ok (.aload_n 0, 1) := by decide +kernel
theorem dX12_readPlayed_1 : decode cX12_readPlayed 1 = .ok (.invokevirtual 364, 3) := by decide +kernel
theorem dX12_commandHere_0 : decode cX12_commandHere 0 = .ok (.aload_n 0, 1) := by decide +kernel
theorem dX12_commandHere_1 : decode cX12_commandHere 1 = .ok (.bipush 112, 2) := by decide +kernel
theorem dX12_commandHere_3 : decode cX12_commandHere 3 = .ok (.bipush 114, 2) := by decide +kernel
theorem dX12_commandHere_5 : decode cX12_commandHere 5 = .ok (.bipush 101, 2) := by decide +kernel
theorem dX12_commandHere_7 : decode cX12_commandHere 7 = .ok (.bipush 115, 2) := by decide +kernel
theorem dX12_commandHere_9 : decode cX12_commandHere 9 = .ok (.bipush 115, 2) := by decide +kernel
theorem dX12_commandHere_11 : decode cX12_commandHere 11 = .ok (.iconst 0, 1) := by decide +kernel
theorem dX12_commandHere_12 : decode cX12_commandHere 12 = .ok (.invokestatic 319, 3) := by decide +kernel
theorem dX12_commandHere_15 : decode cX12_commandHere 15 = .ok (.invokevirtual 323, 3) := by decide +kernel
theorem dX12_commandHere_18 : decode cX12_commandHere 18 = .ok (.ifCond .eq 5, 3) := by decide +kernel
theorem dX12_commandHere_23 : decode cX12_commandHere 23 = .ok (.aload_n 0, 1) := by decide +kernel
theorem dX12_commandHere_24 : decode cX12_commandHere 24 = .ok (.bipush 114, 2) := by decide +kernel
theorem dX12_commandHere_26 : decode cX12_commandHere 26 = .ok (.bipush 101, 2) := by decide +kernel
theorem dX12_commandHere_28 : decode cX12_commandHere 28 = .ok (.bipush 108, 2) := by decide +kernel
theorem dX12_commandHere_30 : decode cX12_commandHere 30 = .ok (.bipush 101, 2) := by decide +kernel
theorem dX12_commandHere_32 : decode cX12_commandHere 32 = .ok (.bipush 97, 2) := by decide +kernel
theorem dX12_commandHere_34 : decode cX12_commandHere 34 = .ok (.bipush 115, 2) := by decide +kernel
theorem dX12_commandHere_36 : decode cX12_commandHere 36 = .ok (.invokestatic 319, 3) := by decide +kernel
theorem dX12_commandHere_39 : decode cX12_commandHere 39 = .ok (.bipush 7, 2) := by decide +kernel
theorem dX12_commandHere_41 : decode cX12_commandHere 41 = .ok (.lshl, 1) := by decide +kernel
theorem dX12_commandHere_42 : decode cX12_commandHere 42 = .ok (.ldc2_w 333, 3) := by decide +kernel
theorem dX12_commandHere_45 : decode cX12_commandHere 45 = .ok (.lor, 1) := by decide +kernel
theorem dX12_commandHere_46 : decode cX12_commandHere 46 = .ok (.invokevirtual 323, 3) := by decide +kernel
theorem dX12_commandHere_49 : decode cX12_commandHere 49 = .ok (.ifCond .eq 5, 3) := by decide +kernel
theorem dX12_commandHere_54 : decode cX12_commandHere 54 = .ok (.aload_n 0, 1) := by decide +kernel
theorem dX12_commandHere_55 : decode cX12_commandHere 55 = .ok (.bipush 104, 2) := by decide +kernel
theorem dX12_commandHere_57 : decode cX12_commandHere 57 = .ok (.bipush 111, 2) := by decide +kernel
theorem dX12_commandHere_59 : decode cX12_commandHere 59 = .ok (.bipush 108, 2) := by decide +kernel
theorem dX12_commandHere_61 : decode cX12_commandHere 61 = .ok (.bipush 100, 2) := by decide +kernel
theorem dX12_commandHere_63 : decode cX12_commandHere 63 = .ok (.iconst 0, 1) := by decide +kernel
theorem dX12_commandHere_64 : decode cX12_commandHere 64 = .ok (.iconst 0, 1) := by decide +kernel
theorem dX12_commandHere_65 : decode cX12_commandHere 65 = .ok (.invokestatic 319, 3) := by decide +kernel
theorem dX12_commandHere_68 : decode cX12_commandHere 68 = .ok (.invokevirtual 323, 3) := by decide +kernel
theorem dX12_commandHere_71 : decode cX12_commandHere 71 = .ok (.ifCond .eq 5, 3) := by decide +kernel
theorem dX12_commandHere_76 : decode cX12_commandHere 76 = .ok (.aload_n 0, 1) := by decide +kernel
theorem dX12_commandHere_77 : decode cX12_commandHere 77 = .ok (.bipush 116, 2) := by decide +kernel
theorem dX12_commandHere_79 : decode cX12_commandHere 79 = .ok (.bipush 105, 2) := by decide +kernel
theorem dX12_commandHere_81 : decode cX12_commandHere 81 = .ok (.bipush 99, 2) := by decide +kernel
theorem dX12_commandHere_83 : decode cX12_commandHere 83 = .ok (.bipush 107, 2) := by decide +kernel
theorem dX12_commandHere_85 : decode cX12_commandHere 85 = .ok (.iconst 0, 1) := by decide +kernel
theorem dX12_commandHere_86 : decode cX12_commandHere 86 = .ok (.iconst 0, 1) := by decide +kernel
theorem dX12_commandHere_87 : decode cX12_commandHere 87 = .ok (.invokestatic 319, 3) := by decide +kernel
theorem dX12_commandHere_90 : decode cX12_commandHere 90 = .ok (.invokevirtual 323, 3) := by decide +kernel
theorem dX12_commandHere_93 : decode cX12_commandHere 93 = .ok (.ifCond .eq 5, 3) := by decide +kernel
theorem dX12_commandHere_98 : decode cX12_commandHere 98 = .ok (.aload_n 0, 1) := by decide +kernel
theorem dX12_commandHere_99 : decode cX12_commandHere 99 = .ok (.bipush 117, 2) := by decide +kernel
theorem dX12_commandHere_101 : decode cX12_commandHere 101 = .ok (.bipush 110, 2) := by decide +kernel
theorem dX12_commandHere_103 : decode cX12_commandHere 103 = .ok (.bipush 98, 2) := by decide +kernel
theorem dX12_commandHere_105 : decode cX12_commandHere 105 = .ok (.bipush 105, 2) := by decide +kernel
theorem dX12_commandHere_107 : decode cX12_commandHere 107 = .ok (.bipush 110, 2) := by decide +kernel
theorem dX12_commandHere_109 : decode cX12_commandHere 109 = .ok (.bipush 100, 2) := by decide +kernel
theorem dX12_commandHere_111 : decode cX12_commandHere 111 = .ok (.invokestatic 319, 3) := by decide +kernel
theorem dX12_commandHere_114 : decode cX12_commandHere 114 = .ok (.invokevirtual 323, 3) := by decide +kernel
theorem dX12_commandHere_117 : decode cX12_commandHere 117 = .ok (.ifCond .eq 5, 3) := by decide +kernel
theorem dX12_commandHere_122 : decode cX12_commandHere 122 = .ok (.aload_n 0, 1) := by decide +kernel
theorem dX12_commandHere_123 : decode cX12_commandHere 123 = .ok (.bipush 116, 2) := by decide +kernel
theorem dX12_commandHere_125 : decode cX12_commandHere 125 = .ok (.bipush 121, 2) := by decide +kernel
theorem dX12_commandHere_127 : decode cX12_commandHere 127 = .ok (.bipush 112, 2) := by decide +kernel
theorem dX12_commandHere_129 : decode cX12_commandHere 129 = .ok (.bipush 101, 2) := by decide +kernel
theorem dX12_commandHere_131 : decode cX12_commandHere 131 = .ok (.iconst 0, 1) := by decide +kernel
theorem dX12_commandHere_132 : decode cX12_commandHere 132 = .ok (.iconst 0, 1) := by decide +kernel
theorem dX12_commandHere_133 : decode cX12_commandHere 133 = .ok (.invokestatic 319, 3) := by decide +kernel
theorem dX12_commandHere_136 : decode cX12_commandHere 136 = .ok (.invokevirtual 323, 3) := by decide +kernel
theorem dX12_commandHere_139 : decode cX12_commandHere 139 = .ok (.ifCond .eq 5, 3) := by decide +kernel
theorem dX12_commandHere_144 : decode cX12_commandHere 144 = .ok (.aload_n 0, 1) := by decide +kernel
theorem dX12_commandHere_145 : decode cX12_commandHere 145 = .ok (.bipush 98, 2) := by decide +kernel
theorem dX12_commandHere_147 : decode cX12_commandHere 147 = .ok (.bipush 105, 2) := by decide +kernel
theorem dX12_commandHere_149 : decode cX12_commandHere 149 = .ok (.bipush 110, 2) := by decide +kernel
theorem dX12_commandHere_151 : decode cX12_commandHere 151 = .ok (.bipush 100, 2) := by decide +kernel
theorem dX12_commandHere_153 : decode cX12_commandHere 153 = .ok (.iconst 0, 1) := by decide +kernel
theorem dX12_commandHere_154 : decode cX12_commandHere 154 = .ok (.iconst 0, 1) := by decide +kernel
theorem dX12_commandHere_155 : decode cX12_commandHere 155 = .ok (.invokestatic 319, 3) := by decide +kernel
theorem dX12_commandHere_158 : decode cX12_commandHere 158 = .ok (.invokevirtual 323, 3) := by decide +kernel
theorem dX12_commandHere_161 : decode cX12_commandHere 161 = .ok (.ifCond .eq 6, 3) := by decide +kernel
theorem dX12_commandHere_167 : decode cX12_commandHere 167 = .ok (.aload_n 0, 1) := by decide +kernel
theorem dX12_commandHere_168 : decode cX12_commandHere 168 = .ok (.bipush 102, 2) := by decide +kernel
theorem dX12_commandHere_170 : decode cX12_commandHere 170 = .ok (.bipush 111, 2) := by decide +kernel
theorem dX12_commandHere_172 : decode cX12_commandHere 172 = .ok (.bipush 114, 2) := by decide +kernel
theorem dX12_commandHere_174 : decode cX12_commandHere 174 = .ok (.bipush 99, 2) := by decide +kernel
theorem dX12_commandHere_176 : decode cX12_commandHere 176 = .ok (.bipush 101, 2) := by decide +kernel
theorem dX12_commandHere_178 : decode cX12_commandHere 178 = .ok (.iconst 0, 1) := by decide +kernel
theorem dX12_commandHere_179 : decode cX12_commandHere 179 = .ok (.invokestatic 319, 3) := by decide +kernel
theorem dX12_commandHere_182 : decode cX12_commandHere 182 = .ok (.invokevirtual 323, 3) := by decide +kernel
theorem dX12_commandHere_185 : decode cX12_commandHere 185 = .ok (.ifCond .eq 8, 3) := by decide +kernel
theorem dX12_commandHere_193 : decode cX12_commandHere 193 = .ok (.iconst (-1), 1) := by decide +kernel
theorem dX12_commandHere_194 : decode cX12_commandHere 194 = .ok (.ireturn, 1) := by decide +kernel
theorem dX12_commandHere_188 : decode cX12_commandHere 188 = .ok (.bipush 7, 2) := by decide +kernel
theorem dX12_commandHere_190 : decode cX12_commandHere 190 = .ok (.goto 4, 3) := by decide +kernel
theorem dX12_commandHere_164 : decode cX12_commandHere 164 = .ok (.bipush 6, 2) := by decide +kernel
theorem dX12_commandHere_166 : decode cX12_commandHere 166 = .ok (.ireturn, 1) := by decide +kernel
theorem dX12_commandHere_142 : decode cX12_commandHere 142 = .ok (.iconst 5, 1) := by decide +kernel
theorem dX12_commandHere_143 : decode cX12_commandHere 143 = .ok (.ireturn, 1) := by decide +kernel
theorem dX12_commandHere_120 : decode cX12_commandHere 120 = .ok (.iconst 4, 1) := by decide +kernel
theorem dX12_commandHere_121 : decode cX12_commandHere 121 = .ok (.ireturn, 1) := by decide +kernel
theorem dX12_commandHere_96 : decode cX12_commandHere 96 = .ok (.iconst 3, 1) := by decide +kernel
theorem dX12_commandHere_97 : decode cX12_commandHere 97 = .ok (.ireturn, 1) := by decide +kernel
theorem dX12_commandHere_74 : decode cX12_commandHere 74 = .ok (.iconst 2, 1) := by decide +kernel
theorem dX12_commandHere_75 : decode cX12_commandHere 75 = .ok (.ireturn, 1) := by decide +kernel
theorem dX12_commandHere_52 : decode cX12_commandHere 52 = .ok (.iconst 1, 1) := by decide +kernel
theorem dX12_commandHere_53 : decode cX12_commandHere 53 = .ok (.ireturn, 1) := by decide +kernel
theorem dX12_commandHere_21 : decode cX12_commandHere 21 = .ok (.iconst 0, 1) := by decide +kernel
theorem dX12_commandHere_22 : decode cX12_commandHere 22 = .ok (.ireturn, 1) := by decide +kernel
set_option maxRecDepth 100000 in
set_option maxHeartbeats 4000000 in
theorem rX12_commandHere (l : Launch) (D : va_G) (Y : Nat → ClassId) (h0 : Nat) (h1 : Nat) (h2 : Nat) (h3 : Nat) (h4 : Nat) (h5 : Nat) (h6 : Nat) (p2 : Int32) (k5 : Nat) (k6 : Nat) (p7 : Int32) (p8 : Int32) (p9 : Int32) (k10 : Nat) (p11 : Int32) (q12 : Int64) (k15 : Nat) (k16 : Nat) (f0 : Nat → Int32) (f1 : Nat → Int32) (f3 : Nat → Int32) (f4 : Nat → Int32) (f13 : Nat → Int32) (f14 : Nat → Int32) (HI : INV f0) (HL : k5 ≤ 1600) (HP : PLV f13)   (sz : Nat) : Met l yX12_commandHere (WSm yX12_commandHere cX12_commandHere 1 (some .int)) (mkR 1 0 0 27) (PreC D Y [.ref h0] [(h0, oC 13 [.ref h1, .ref h2, .int p2, .ref h3, .ref h4, .int (nI k5), .int (nI k6), .int p7, .int p8, .int p9, .int (nI k10), .int p11, .long q12, .ref h5, .ref h6, .int (nI k15), .int (nI k16)]), (h1, aI Y 3640 f0), (h2, aZ Y 2 f1), (h3, aZ Y 80 f3), (h4, aB Y 1600 f4), (h5, aI Y 200 f13), (h6, aI Y 800 f14)] sz) (QI D (fun (r : Int32) (u : WU) => True) (fun (u : WU) => [(h0, oC 13 [.ref h1, .ref h2, .int p2, .ref h3, .ref h4, .int (nI k5), .int (nI k6), .int p7, .int p8, .int p9, .int (nI k10), .int p11, .long q12, .ref h5, .ref h6, .int (nI k15), .int (nI k16)]), (h1, aI Y 3640 f0), (h2, aZ Y 2 f1), (h3, aZ Y 80 f3), (h4, aB Y 1600 f4), (h5, aI Y 200 f13), (h6, aI Y 800 f14)]) (va_A [(h0, oC 13 [.ref h1, .ref h2, .int p2, .ref h3, .ref h4, .int (nI k5), .int (nI k6), .int p7, .int p8, .int p9, .int (nI k10), .int p11, .long q12, .ref h5, .ref h6, .int (nI k15), .int (nI k16)]), (h1, aI Y 3640 f0), (h2, aZ Y 2 f1), (h3, aZ Y 80 f3), (h4, aB Y 1600 f4), (h5, aI Y 200 f13), (h6, aI Y 800 f14)] sz)) 0 0 (va_A [(h0, oC 13 [.ref h1, .ref h2, .int p2, .ref h3, .ref h4, .int (nI k5), .int (nI k6), .int p7, .int p8, .int p9, .int (nI k10), .int p11, .long q12, .ref h5, .ref h6, .int (nI k15), .int (nI k16)]), (h1, aI Y 3640 f0), (h2, aZ Y 2 f1), (h3, aZ Y 80 f3), (h4, aB Y 1600 f4), (h5, aI Y 200 f13), (h6, aI Y 800 f14)] sz) :=
  met_of  (by decide +kernel) (Nat.le_of_ble_eq_true rfl) (fun p e s m args below meth c B hin hsz => by
    have B : VB p s m args meth c D Y (va_A [(h0, oC 13 [.ref h1, .ref h2, .int p2, .ref h3, .ref h4, .int (nI k5), .int (nI k6), .int p7, .int p8, .int p9, .int (nI k10), .int p11, .long q12, .ref h5, .ref h6, .int (nI k15), .int (nI k16)]), (h1, aI Y 3640 f0), (h2, aZ Y 2 f1), (h3, aZ Y 80 f3), (h4, aB Y 1600 f4), (h5, aI Y 200 f13), (h6, aI Y 800 f14)] sz) cX12_commandHere 1 RX12 (some .int) := B
    refine V_aload_n 0 B dX12_commandHere_0 0 rfl ?_
    refine V_bipush 1 B (v := 112) dX12_commandHere_1 (by decide +kernel) ?_
    refine V_bipush 3 B (v := 114) dX12_commandHere_3 (by decide +kernel) ?_
    refine V_bipush 5 B (v := 101) dX12_commandHere_5 (by decide +kernel) ?_
    refine V_bipush 7 B (v := 115) dX12_commandHere_7 (by decide +kernel) ?_
    refine V_bipush 9 B (v := 115) dX12_commandHere_9 (by decide +kernel) ?_
    refine V_iconst 11 B (v := 0) dX12_commandHere_11 (by decide +kernel) ?_
    refine V_csl 12 B (st := [.ref h0]) (As := [.int 112, .int 114, .int 101, .int 115, .int 115, .int 0]) (fun sz => rX12_pack l D Y 112 114 101 115 115 0 sz) glS_RX12_319 ⟨rfl, rfl⟩ ⟨(Nat.le_of_ble_eq_true rfl), (Nat.le_of_ble_eq_true rfl)⟩ ⟨(Nat.le_of_ble_eq_true rfl), (Nat.le_of_ble_eq_true rfl)⟩ [] rfl rfl (Nat.le_of_ble_eq_true rfl) rfl (fun _ _ _ => rfl) dX12_commandHere_12 (fun o0 u1 w2 => ?_)
    refine V_ws [(h0, oC 13 [.ref h1, .ref h2, .int p2, .ref h3, .ref h4, .int (nI k5), .int (nI k6), .int p7, .int p8, .int p9, .int (nI k10), .int p11, .long q12, .ref h5, .ref h6, .int (nI k15), .int (nI k16)]), (h1, aI Y 3640 f0), (h2, aZ Y 2 f1), (h3, aZ Y 80 f3), (h4, aB Y 1600 f4), (h5, aI Y 200 f13), (h6, aI Y 800 f14)] rfl ?_
    refine V_cvi 15 B (st := []) (As := [.long o0]) (fun sz => rX12_isWord l D Y h0 h1 h2 h3 h4 h5 h6 p2 k5 k6 p7 p8 p9 k10 p11 q12 k15 k16 f0 f1 f3 f4 f13 f14 HI (by omega) HP o0 sz) glV_RX12_323 ⟨rfl, rfl⟩ ⟨(Nat.le_of_ble_eq_true rfl), (Nat.le_of_ble_eq_true rfl)⟩ ⟨(Nat.le_of_ble_eq_true rfl), (Nat.le_of_ble_eq_true rfl)⟩ [0, 0, 0, 0, 0, 0, 0] rfl 13 0 rfl rfl rfl rfl (Nat.le_of_ble_eq_true rfl) rfl (fun _ _ _ => rfl) dX12_commandHere_15 (fun j3 u4 w5 => ?_)
    refine V_ws [(h0, oC 13 [.ref h1, .ref h2, .int p2, .ref h3, .ref h4, .int (nI k5), .int (nI k6), .int p7, .int p8, .int p9, .int (nI k10), .int p11, .long q12, .ref h5, .ref h6, .int (nI k15), .int (nI k16)]), (h1, aI Y 3640 f0), (h2, aZ Y 2 f1), (h3, aZ Y 80 f3), (h4, aB Y 1600 f4), (h5, aI Y 200 f13), (h6, aI Y 800 f14)] rfl ?_
    have x6 := w5
    clear w5
    rcases x6 with rfl | rfl
    ·
      refine V_if_eq_t 18 B 23 dX12_commandHere_18 (by decide) (by decide +kernel) ?_
      refine V_aload_n 23 B dX12_commandHere_23 0 rfl ?_
      refine V_bipush 24 B (v := 114) dX12_commandHere_24 (by decide +kernel) ?_
      refine V_bipush 26 B (v := 101) dX12_commandHere_26 (by decide +kernel) ?_
      refine V_bipush 28 B (v := 108) dX12_commandHere_28 (by decide +kernel) ?_
      refine V_bipush 30 B (v := 101) dX12_commandHere_30 (by decide +kernel) ?_
      refine V_bipush 32 B (v := 97) dX12_commandHere_32 (by decide +kernel) ?_
      refine V_bipush 34 B (v := 115) dX12_commandHere_34 (by decide +kernel) ?_
      refine V_csl 36 B (st := [.ref h0]) (As := [.int 114, .int 101, .int 108, .int 101, .int 97, .int 115]) (fun sz => rX12_pack l D Y 114 101 108 101 97 115 sz) glS_RX12_319 ⟨rfl, rfl⟩ ⟨(Nat.le_of_ble_eq_true rfl), (Nat.le_of_ble_eq_true rfl)⟩ ⟨(Nat.le_of_ble_eq_true rfl), (Nat.le_of_ble_eq_true rfl)⟩ [] rfl rfl (Nat.le_of_ble_eq_true rfl) rfl (fun _ _ _ => rfl) dX12_commandHere_36 (fun o7 u8 w9 => ?_)
      refine V_ws [(h0, oC 13 [.ref h1, .ref h2, .int p2, .ref h3, .ref h4, .int (nI k5), .int (nI k6), .int p7, .int p8, .int p9, .int (nI k10), .int p11, .long q12, .ref h5, .ref h6, .int (nI k15), .int (nI k16)]), (h1, aI Y 3640 f0), (h2, aZ Y 2 f1), (h3, aZ Y 80 f3), (h4, aB Y 1600 f4), (h5, aI Y 200 f13), (h6, aI Y 800 f14)] rfl ?_
      refine V_bipush 39 B (v := 7) dX12_commandHere_39 (by decide +kernel) ?_
      refine V_lshl 41 B dX12_commandHere_41 rfl ?_
      refine V_nml (fun o10 _ => ?_)
      refine V_ldc2 42 B (v := 101) dX12_commandHere_42 (mT10 12 rfl rfl) ?_
      refine V_lor 45 B dX12_commandHere_45 rfl ?_
      refine V_nml (fun o11 e12 => ?_)
      refine V_cvi 46 B (st := []) (As := [.long o11]) (fun sz => rX12_isWord l D Y h0 h1 h2 h3 h4 h5 h6 p2 k5 k6 p7 p8 p9 k10 p11 q12 k15 k16 f0 f1 f3 f4 f13 f14 HI (by omega) HP o11 sz) glV_RX12_323 ⟨rfl, rfl⟩ ⟨(Nat.le_of_ble_eq_true rfl), (Nat.le_of_ble_eq_true rfl)⟩ ⟨(Nat.le_of_ble_eq_true rfl), (Nat.le_of_ble_eq_true rfl)⟩ [0, 0, 0, 0, 0, 0, 0] rfl 13 0 rfl rfl rfl rfl (Nat.le_of_ble_eq_true rfl) rfl (fun _ _ _ => rfl) dX12_commandHere_46 (fun j13 u14 w15 => ?_)
      refine V_ws [(h0, oC 13 [.ref h1, .ref h2, .int p2, .ref h3, .ref h4, .int (nI k5), .int (nI k6), .int p7, .int p8, .int p9, .int (nI k10), .int p11, .long q12, .ref h5, .ref h6, .int (nI k15), .int (nI k16)]), (h1, aI Y 3640 f0), (h2, aZ Y 2 f1), (h3, aZ Y 80 f3), (h4, aB Y 1600 f4), (h5, aI Y 200 f13), (h6, aI Y 800 f14)] rfl ?_
      have x16 := w15
      clear w15
      rcases x16 with rfl | rfl
      ·
        refine V_if_eq_t 49 B 54 dX12_commandHere_49 (by decide) (by decide +kernel) ?_
        refine V_aload_n 54 B dX12_commandHere_54 0 rfl ?_
        refine V_bipush 55 B (v := 104) dX12_commandHere_55 (by decide +kernel) ?_
        refine V_bipush 57 B (v := 111) dX12_commandHere_57 (by decide +kernel) ?_
        refine V_bipush 59 B (v := 108) dX12_commandHere_59 (by decide +kernel) ?_
        refine V_bipush 61 B (v := 100) dX12_commandHere_61 (by decide +kernel) ?_
        refine V_iconst 63 B (v := 0) dX12_commandHere_63 (by decide +kernel) ?_
        refine V_iconst 64 B (v := 0) dX12_commandHere_64 (by decide +kernel) ?_
        refine V_csl 65 B (st := [.ref h0]) (As := [.int 104, .int 111, .int 108, .int 100, .int 0, .int 0]) (fun sz => rX12_pack l D Y 104 111 108 100 0 0 sz) glS_RX12_319 ⟨rfl, rfl⟩ ⟨(Nat.le_of_ble_eq_true rfl), (Nat.le_of_ble_eq_true rfl)⟩ ⟨(Nat.le_of_ble_eq_true rfl), (Nat.le_of_ble_eq_true rfl)⟩ [] rfl rfl (Nat.le_of_ble_eq_true rfl) rfl (fun _ _ _ => rfl) dX12_commandHere_65 (fun o17 u18 w19 => ?_)
        refine V_ws [(h0, oC 13 [.ref h1, .ref h2, .int p2, .ref h3, .ref h4, .int (nI k5), .int (nI k6), .int p7, .int p8, .int p9, .int (nI k10), .int p11, .long q12, .ref h5, .ref h6, .int (nI k15), .int (nI k16)]), (h1, aI Y 3640 f0), (h2, aZ Y 2 f1), (h3, aZ Y 80 f3), (h4, aB Y 1600 f4), (h5, aI Y 200 f13), (h6, aI Y 800 f14)] rfl ?_
        refine V_cvi 68 B (st := []) (As := [.long o17]) (fun sz => rX12_isWord l D Y h0 h1 h2 h3 h4 h5 h6 p2 k5 k6 p7 p8 p9 k10 p11 q12 k15 k16 f0 f1 f3 f4 f13 f14 HI (by omega) HP o17 sz) glV_RX12_323 ⟨rfl, rfl⟩ ⟨(Nat.le_of_ble_eq_true rfl), (Nat.le_of_ble_eq_true rfl)⟩ ⟨(Nat.le_of_ble_eq_true rfl), (Nat.le_of_ble_eq_true rfl)⟩ [0, 0, 0, 0, 0, 0, 0] rfl 13 0 rfl rfl rfl rfl (Nat.le_of_ble_eq_true rfl) rfl (fun _ _ _ => rfl) dX12_commandHere_68 (fun j20 u21 w22 => ?_)
        refine V_ws [(h0, oC 13 [.ref h1, .ref h2, .int p2, .ref h3, .ref h4, .int (nI k5), .int (nI k6), .int p7, .int p8, .int p9, .int (nI k10), .int p11, .long q12, .ref h5, .ref h6, .int (nI k15), .int (nI k16)]), (h1, aI Y 3640 f0), (h2, aZ Y 2 f1), (h3, aZ Y 80 f3), (h4, aB Y 1600 f4), (h5, aI Y 200 f13), (h6, aI Y 800 f14)] rfl ?_
        have x23 := w22
        clear w22
        rcases x23 with rfl | rfl
        ·
          refine V_if_eq_t 71 B 76 dX12_commandHere_71 (by decide) (by decide +kernel) ?_
          refine V_aload_n 76 B dX12_commandHere_76 0 rfl ?_
          refine V_bipush 77 B (v := 116) dX12_commandHere_77 (by decide +kernel) ?_
          refine V_bipush 79 B (v := 105) dX12_commandHere_79 (by decide +kernel) ?_
          refine V_bipush 81 B (v := 99) dX12_commandHere_81 (by decide +kernel) ?_
          refine V_bipush 83 B (v := 107) dX12_commandHere_83 (by decide +kernel) ?_
          refine V_iconst 85 B (v := 0) dX12_commandHere_85 (by decide +kernel) ?_
          refine V_iconst 86 B (v := 0) dX12_commandHere_86 (by decide +kernel) ?_
          refine V_csl 87 B (st := [.ref h0]) (As := [.int 116, .int 105, .int 99, .int 107, .int 0, .int 0]) (fun sz => rX12_pack l D Y 116 105 99 107 0 0 sz) glS_RX12_319 ⟨rfl, rfl⟩ ⟨(Nat.le_of_ble_eq_true rfl), (Nat.le_of_ble_eq_true rfl)⟩ ⟨(Nat.le_of_ble_eq_true rfl), (Nat.le_of_ble_eq_true rfl)⟩ [] rfl rfl (Nat.le_of_ble_eq_true rfl) rfl (fun _ _ _ => rfl) dX12_commandHere_87 (fun o24 u25 w26 => ?_)
          refine V_ws [(h0, oC 13 [.ref h1, .ref h2, .int p2, .ref h3, .ref h4, .int (nI k5), .int (nI k6), .int p7, .int p8, .int p9, .int (nI k10), .int p11, .long q12, .ref h5, .ref h6, .int (nI k15), .int (nI k16)]), (h1, aI Y 3640 f0), (h2, aZ Y 2 f1), (h3, aZ Y 80 f3), (h4, aB Y 1600 f4), (h5, aI Y 200 f13), (h6, aI Y 800 f14)] rfl ?_
          refine V_cvi 90 B (st := []) (As := [.long o24]) (fun sz => rX12_isWord l D Y h0 h1 h2 h3 h4 h5 h6 p2 k5 k6 p7 p8 p9 k10 p11 q12 k15 k16 f0 f1 f3 f4 f13 f14 HI (by omega) HP o24 sz) glV_RX12_323 ⟨rfl, rfl⟩ ⟨(Nat.le_of_ble_eq_true rfl), (Nat.le_of_ble_eq_true rfl)⟩ ⟨(Nat.le_of_ble_eq_true rfl), (Nat.le_of_ble_eq_true rfl)⟩ [0, 0, 0, 0, 0, 0, 0] rfl 13 0 rfl rfl rfl rfl (Nat.le_of_ble_eq_true rfl) rfl (fun _ _ _ => rfl) dX12_commandHere_90 (fun j27 u28 w29 => ?_)
          refine V_ws [(h0, oC 13 [.ref h1, .ref h2, .int p2, .ref h3, .ref h4, .int (nI k5), .int (nI k6), .int p7, .int p8, .int p9, .int (nI k10), .int p11, .long q12, .ref h5, .ref h6, .int (nI k15), .int (nI k16)]), (h1, aI Y 3640 f0), (h2, aZ Y 2 f1), (h3, aZ Y 80 f3), (h4, aB Y 1600 f4), (h5, aI Y 200 f13), (h6, aI Y 800 f14)] rfl ?_
          have x30 := w29
          clear w29
          rcases x30 with rfl | rfl
          ·
            refine V_if_eq_t 93 B 98 dX12_commandHere_93 (by decide) (by decide +kernel) ?_
            refine V_aload_n 98 B dX12_commandHere_98 0 rfl ?_
            refine V_bipush 99 B (v := 117) dX12_commandHere_99 (by decide +kernel) ?_
            refine V_bipush 101 B (v := 110) dX12_commandHere_101 (by decide +kernel) ?_
            refine V_bipush 103 B (v := 98) dX12_commandHere_103 (by decide +kernel) ?_
            refine V_bipush 105 B (v := 105) dX12_commandHere_105 (by decide +kernel) ?_
            refine V_bipush 107 B (v := 110) dX12_commandHere_107 (by decide +kernel) ?_
            refine V_bipush 109 B (v := 100) dX12_commandHere_109 (by decide +kernel) ?_
            refine V_csl 111 B (st := [.ref h0]) (As := [.int 117, .int 110, .int 98, .int 105, .int 110, .int 100]) (fun sz => rX12_pack l D Y 117 110 98 105 110 100 sz) glS_RX12_319 ⟨rfl, rfl⟩ ⟨(Nat.le_of_ble_eq_true rfl), (Nat.le_of_ble_eq_true rfl)⟩ ⟨(Nat.le_of_ble_eq_true rfl), (Nat.le_of_ble_eq_true rfl)⟩ [] rfl rfl (Nat.le_of_ble_eq_true rfl) rfl (fun _ _ _ => rfl) dX12_commandHere_111 (fun o31 u32 w33 => ?_)
            refine V_ws [(h0, oC 13 [.ref h1, .ref h2, .int p2, .ref h3, .ref h4, .int (nI k5), .int (nI k6), .int p7, .int p8, .int p9, .int (nI k10), .int p11, .long q12, .ref h5, .ref h6, .int (nI k15), .int (nI k16)]), (h1, aI Y 3640 f0), (h2, aZ Y 2 f1), (h3, aZ Y 80 f3), (h4, aB Y 1600 f4), (h5, aI Y 200 f13), (h6, aI Y 800 f14)] rfl ?_
            refine V_cvi 114 B (st := []) (As := [.long o31]) (fun sz => rX12_isWord l D Y h0 h1 h2 h3 h4 h5 h6 p2 k5 k6 p7 p8 p9 k10 p11 q12 k15 k16 f0 f1 f3 f4 f13 f14 HI (by omega) HP o31 sz) glV_RX12_323 ⟨rfl, rfl⟩ ⟨(Nat.le_of_ble_eq_true rfl), (Nat.le_of_ble_eq_true rfl)⟩ ⟨(Nat.le_of_ble_eq_true rfl), (Nat.le_of_ble_eq_true rfl)⟩ [0, 0, 0, 0, 0, 0, 0] rfl 13 0 rfl rfl rfl rfl (Nat.le_of_ble_eq_true rfl) rfl (fun _ _ _ => rfl) dX12_commandHere_114 (fun j34 u35 w36 => ?_)
            refine V_ws [(h0, oC 13 [.ref h1, .ref h2, .int p2, .ref h3, .ref h4, .int (nI k5), .int (nI k6), .int p7, .int p8, .int p9, .int (nI k10), .int p11, .long q12, .ref h5, .ref h6, .int (nI k15), .int (nI k16)]), (h1, aI Y 3640 f0), (h2, aZ Y 2 f1), (h3, aZ Y 80 f3), (h4, aB Y 1600 f4), (h5, aI Y 200 f13), (h6, aI Y 800 f14)] rfl ?_
            have x37 := w36
            clear w36
            rcases x37 with rfl | rfl
            ·
              refine V_if_eq_t 117 B 122 dX12_commandHere_117 (by decide) (by decide +kernel) ?_
              refine V_aload_n 122 B dX12_commandHere_122 0 rfl ?_
              refine V_bipush 123 B (v := 116) dX12_commandHere_123 (by decide +kernel) ?_
              refine V_bipush 125 B (v := 121) dX12_commandHere_125 (by decide +kernel) ?_
              refine V_bipush 127 B (v := 112) dX12_commandHere_127 (by decide +kernel) ?_
              refine V_bipush 129 B (v := 101) dX12_commandHere_129 (by decide +kernel) ?_
              refine V_iconst 131 B (v := 0) dX12_commandHere_131 (by decide +kernel) ?_
              refine V_iconst 132 B (v := 0) dX12_commandHere_132 (by decide +kernel) ?_
              refine V_csl 133 B (st := [.ref h0]) (As := [.int 116, .int 121, .int 112, .int 101, .int 0, .int 0]) (fun sz => rX12_pack l D Y 116 121 112 101 0 0 sz) glS_RX12_319 ⟨rfl, rfl⟩ ⟨(Nat.le_of_ble_eq_true rfl), (Nat.le_of_ble_eq_true rfl)⟩ ⟨(Nat.le_of_ble_eq_true rfl), (Nat.le_of_ble_eq_true rfl)⟩ [] rfl rfl (Nat.le_of_ble_eq_true rfl) rfl (fun _ _ _ => rfl) dX12_commandHere_133 (fun o38 u39 w40 => ?_)
              refine V_ws [(h0, oC 13 [.ref h1, .ref h2, .int p2, .ref h3, .ref h4, .int (nI k5), .int (nI k6), .int p7, .int p8, .int p9, .int (nI k10), .int p11, .long q12, .ref h5, .ref h6, .int (nI k15), .int (nI k16)]), (h1, aI Y 3640 f0), (h2, aZ Y 2 f1), (h3, aZ Y 80 f3), (h4, aB Y 1600 f4), (h5, aI Y 200 f13), (h6, aI Y 800 f14)] rfl ?_
              refine V_cvi 136 B (st := []) (As := [.long o38]) (fun sz => rX12_isWord l D Y h0 h1 h2 h3 h4 h5 h6 p2 k5 k6 p7 p8 p9 k10 p11 q12 k15 k16 f0 f1 f3 f4 f13 f14 HI (by omega) HP o38 sz) glV_RX12_323 ⟨rfl, rfl⟩ ⟨(Nat.le_of_ble_eq_true rfl), (Nat.le_of_ble_eq_true rfl)⟩ ⟨(Nat.le_of_ble_eq_true rfl), (Nat.le_of_ble_eq_true rfl)⟩ [0, 0, 0, 0, 0, 0, 0] rfl 13 0 rfl rfl rfl rfl (Nat.le_of_ble_eq_true rfl) rfl (fun _ _ _ => rfl) dX12_commandHere_136 (fun j41 u42 w43 => ?_)
              refine V_ws [(h0, oC 13 [.ref h1, .ref h2, .int p2, .ref h3, .ref h4, .int (nI k5), .int (nI k6), .int p7, .int p8, .int p9, .int (nI k10), .int p11, .long q12, .ref h5, .ref h6, .int (nI k15), .int (nI k16)]), (h1, aI Y 3640 f0), (h2, aZ Y 2 f1), (h3, aZ Y 80 f3), (h4, aB Y 1600 f4), (h5, aI Y 200 f13), (h6, aI Y 800 f14)] rfl ?_
              have x44 := w43
              clear w43
              rcases x44 with rfl | rfl
              ·
                refine V_if_eq_t 139 B 144 dX12_commandHere_139 (by decide) (by decide +kernel) ?_
                refine V_aload_n 144 B dX12_commandHere_144 0 rfl ?_
                refine V_bipush 145 B (v := 98) dX12_commandHere_145 (by decide +kernel) ?_
                refine V_bipush 147 B (v := 105) dX12_commandHere_147 (by decide +kernel) ?_
                refine V_bipush 149 B (v := 110) dX12_commandHere_149 (by decide +kernel) ?_
                refine V_bipush 151 B (v := 100) dX12_commandHere_151 (by decide +kernel) ?_
                refine V_iconst 153 B (v := 0) dX12_commandHere_153 (by decide +kernel) ?_
                refine V_iconst 154 B (v := 0) dX12_commandHere_154 (by decide +kernel) ?_
                refine V_csl 155 B (st := [.ref h0]) (As := [.int 98, .int 105, .int 110, .int 100, .int 0, .int 0]) (fun sz => rX12_pack l D Y 98 105 110 100 0 0 sz) glS_RX12_319 ⟨rfl, rfl⟩ ⟨(Nat.le_of_ble_eq_true rfl), (Nat.le_of_ble_eq_true rfl)⟩ ⟨(Nat.le_of_ble_eq_true rfl), (Nat.le_of_ble_eq_true rfl)⟩ [] rfl rfl (Nat.le_of_ble_eq_true rfl) rfl (fun _ _ _ => rfl) dX12_commandHere_155 (fun o45 u46 w47 => ?_)
                refine V_ws [(h0, oC 13 [.ref h1, .ref h2, .int p2, .ref h3, .ref h4, .int (nI k5), .int (nI k6), .int p7, .int p8, .int p9, .int (nI k10), .int p11, .long q12, .ref h5, .ref h6, .int (nI k15), .int (nI k16)]), (h1, aI Y 3640 f0), (h2, aZ Y 2 f1), (h3, aZ Y 80 f3), (h4, aB Y 1600 f4), (h5, aI Y 200 f13), (h6, aI Y 800 f14)] rfl ?_
                refine V_cvi 158 B (st := []) (As := [.long o45]) (fun sz => rX12_isWord l D Y h0 h1 h2 h3 h4 h5 h6 p2 k5 k6 p7 p8 p9 k10 p11 q12 k15 k16 f0 f1 f3 f4 f13 f14 HI (by omega) HP o45 sz) glV_RX12_323 ⟨rfl, rfl⟩ ⟨(Nat.le_of_ble_eq_true rfl), (Nat.le_of_ble_eq_true rfl)⟩ ⟨(Nat.le_of_ble_eq_true rfl), (Nat.le_of_ble_eq_true rfl)⟩ [0, 0, 0, 0, 0, 0, 0] rfl 13 0 rfl rfl rfl rfl (Nat.le_of_ble_eq_true rfl) rfl (fun _ _ _ => rfl) dX12_commandHere_158 (fun j48 u49 w50 => ?_)
                refine V_ws [(h0, oC 13 [.ref h1, .ref h2, .int p2, .ref h3, .ref h4, .int (nI k5), .int (nI k6), .int p7, .int p8, .int p9, .int (nI k10), .int p11, .long q12, .ref h5, .ref h6, .int (nI k15), .int (nI k16)]), (h1, aI Y 3640 f0), (h2, aZ Y 2 f1), (h3, aZ Y 80 f3), (h4, aB Y 1600 f4), (h5, aI Y 200 f13), (h6, aI Y 800 f14)] rfl ?_
                have x51 := w50
                clear w50
                rcases x51 with rfl | rfl
                ·
                  refine V_if_eq_t 161 B 167 dX12_commandHere_161 (by decide) (by decide +kernel) ?_
                  refine V_aload_n 167 B dX12_commandHere_167 0 rfl ?_
                  refine V_bipush 168 B (v := 102) dX12_commandHere_168 (by decide +kernel) ?_
                  refine V_bipush 170 B (v := 111) dX12_commandHere_170 (by decide +kernel) ?_
                  refine V_bipush 172 B (v := 114) dX12_commandHere_172 (by decide +kernel) ?_
                  refine V_bipush 174 B (v := 99) dX12_commandHere_174 (by decide +kernel) ?_
                  refine V_bipush 176 B (v := 101) dX12_commandHere_176 (by decide +kernel) ?_
                  refine V_iconst 178 B (v := 0) dX12_commandHere_178 (by decide +kernel) ?_
                  refine V_csl 179 B (st := [.ref h0]) (As := [.int 102, .int 111, .int 114, .int 99, .int 101, .int 0]) (fun sz => rX12_pack l D Y 102 111 114 99 101 0 sz) glS_RX12_319 ⟨rfl, rfl⟩ ⟨(Nat.le_of_ble_eq_true rfl), (Nat.le_of_ble_eq_true rfl)⟩ ⟨(Nat.le_of_ble_eq_true rfl), (Nat.le_of_ble_eq_true rfl)⟩ [] rfl rfl (Nat.le_of_ble_eq_true rfl) rfl (fun _ _ _ => rfl) dX12_commandHere_179 (fun o52 u53 w54 => ?_)
                  refine V_ws [(h0, oC 13 [.ref h1, .ref h2, .int p2, .ref h3, .ref h4, .int (nI k5), .int (nI k6), .int p7, .int p8, .int p9, .int (nI k10), .int p11, .long q12, .ref h5, .ref h6, .int (nI k15), .int (nI k16)]), (h1, aI Y 3640 f0), (h2, aZ Y 2 f1), (h3, aZ Y 80 f3), (h4, aB Y 1600 f4), (h5, aI Y 200 f13), (h6, aI Y 800 f14)] rfl ?_
                  refine V_cvi 182 B (st := []) (As := [.long o52]) (fun sz => rX12_isWord l D Y h0 h1 h2 h3 h4 h5 h6 p2 k5 k6 p7 p8 p9 k10 p11 q12 k15 k16 f0 f1 f3 f4 f13 f14 HI (by omega) HP o52 sz) glV_RX12_323 ⟨rfl, rfl⟩ ⟨(Nat.le_of_ble_eq_true rfl), (Nat.le_of_ble_eq_true rfl)⟩ ⟨(Nat.le_of_ble_eq_true rfl), (Nat.le_of_ble_eq_true rfl)⟩ [0, 0, 0, 0, 0, 0, 0] rfl 13 0 rfl rfl rfl rfl (Nat.le_of_ble_eq_true rfl) rfl (fun _ _ _ => rfl) dX12_commandHere_182 (fun j55 u56 w57 => ?_)
                  refine V_ws [(h0, oC 13 [.ref h1, .ref h2, .int p2, .ref h3, .ref h4, .int (nI k5), .int (nI k6), .int p7, .int p8, .int p9, .int (nI k10), .int p11, .long q12, .ref h5, .ref h6, .int (nI k15), .int (nI k16)]), (h1, aI Y 3640 f0), (h2, aZ Y 2 f1), (h3, aZ Y 80 f3), (h4, aB Y 1600 f4), (h5, aI Y 200 f13), (h6, aI Y 800 f14)] rfl ?_
                  have x58 := w57
                  clear w57
                  rcases x58 with rfl | rfl
                  ·
                    refine V_if_eq_t 185 B 193 dX12_commandHere_185 (by decide) (by decide +kernel) ?_
                    refine V_iconst 193 B (v := (-1)) dX12_commandHere_193 (by decide +kernel) ?_
                    exact V_iret 194 B dX12_commandHere_194 (mkW [] [] [] [] [] []) trivial rfl
                  ·
                    refine V_if_eq_f 185 B 193 dX12_commandHere_185 (by decide) (by decide +kernel) ?_
                    refine V_bipush 188 B (v := 7) dX12_commandHere_188 (by decide +kernel) ?_
                    refine V_goto 190 B 194 dX12_commandHere_190 (by decide) ?_
                    exact V_iret 194 B dX12_commandHere_194 (mkW [] [] [] [] [] []) trivial rfl
                ·
                  refine V_if_eq_f 161 B 167 dX12_commandHere_161 (by decide) (by decide +kernel) ?_
                  refine V_bipush 164 B (v := 6) dX12_commandHere_164 (by decide +kernel) ?_
                  exact V_iret 166 B dX12_commandHere_166 (mkW [] [] [] [] [] []) trivial rfl
              ·
                refine V_if_eq_f 139 B 144 dX12_commandHere_139 (by decide) (by decide +kernel) ?_
                refine V_iconst 142 B (v := 5) dX12_commandHere_142 (by decide +kernel) ?_
                exact V_iret 143 B dX12_commandHere_143 (mkW [] [] [] [] [] []) trivial rfl
            ·
              refine V_if_eq_f 117 B 122 dX12_commandHere_117 (by decide) (by decide +kernel) ?_
              refine V_iconst 120 B (v := 4) dX12_commandHere_120 (by decide +kernel) ?_
              exact V_iret 121 B dX12_commandHere_121 (mkW [] [] [] [] [] []) trivial rfl
          ·
            refine V_if_eq_f 93 B 98 dX12_commandHere_93 (by decide) (by decide +kernel) ?_
            refine V_iconst 96 B (v := 3) dX12_commandHere_96 (by decide +kernel) ?_
            exact V_iret 97 B dX12_commandHere_97 (mkW [] [] [] [] [] []) trivial rfl
        ·
          refine V_if_eq_f 71 B 76 dX12_commandHere_71 (by decide) (by decide +kernel) ?_
          refine V_iconst 74 B (v := 2) dX12_commandHere_74 (by decide +kernel) ?_
          exact V_iret 75 B dX12_commandHere_75 (mkW [] [] [] [] [] []) trivial rfl
      ·
        refine V_if_eq_f 49 B 54 dX12_commandHere_49 (by decide) (by decide +kernel) ?_
        refine V_iconst 52 B (v := 1) dX12_commandHere_52 (by decide +kernel) ?_
        exact V_iret 53 B dX12_commandHere_53 (mkW [] [] [] [] [] []) trivial rfl
    ·
      refine V_if_eq_f 18 B 23 dX12_commandHere_18 (by decide) (by decide +kernel) ?_
      refine V_iconst 21 B (v := 0) dX12_commandHere_21 (by decide +kernel) ?_
      exact V_iret 22 B dX12_commandHere_22 (mkW [] [] [] [] [] []) trivial rfl)
theorem glV_RX12_364 : GLV RX12 364 yX12_commandHere RX12 cX12_commandHere 1 (some .int) 0 := ⟨⟨(mT10 62 rfl rfl), (mT10 64 rfl rfl), (mTs 93 rfl rfl), (mT1 13 rfl rfl), (mT10 65 rfl rfl)⟩, by decide +kernel⟩
theorem dX12_readPlayed_4 : decode cX12_readPlayed 4 = .ok (.istore_n 1, 1) := by decide +kernel
theorem dX12_readPlayed_5 : decode cX12_readPlayed 5 = .ok (.iload_n 1, 1) := by decide +kernel
theorem dX12_readPlayed_6 : decode cX12_readPlayed 6 = .ok (.iconst (-1), 1) := by decide +kernel
theorem dX12_readPlayed_7 : decode cX12_readPlayed 7 = .ok (.if_icmp .ne 9, 3) := by decide +kernel
theorem dX12_readPlayed_16 : decode cX12_readPlayed 16 = .ok (.aload_n 0, 1) := by decide +kernel
theorem dX12_readPlayed_17 : decode cX12_readPlayed 17 = .ok (.getfield 361, 3) := by decide +kernel
theorem dX12_readPlayed_20 : decode cX12_readPlayed 20 = .ok (.bipush 40, 2) := by decide +kernel
theorem dX12_readPlayed_22 : decode cX12_readPlayed 22 = .ok (.if_icmp .ne 9, 3) := by decide +kernel
theorem dX12_readPlayed_31 : decode cX12_readPlayed 31 = .ok (.aload_n 0, 1) := by decide +kernel
theorem dX12_readPlayed_32 : decode cX12_readPlayed 32 = .ok (.invokevirtual 288, 3) := by decide +kernel
theorem dX12_readPlayed_35 : decode cX12_readPlayed 35 = .ok (.iconst 5, 1) := by decide +kernel
theorem dX12_readPlayed_36 : decode cX12_readPlayed 36 = .ok (.aload_n 0, 1) := by decide +kernel
theorem dX12_readPlayed_37 : decode cX12_readPlayed 37 = .ok (.getfield 361, 3) := by decide +kernel
theorem dX12_readPlayed_40 : decode cX12_readPlayed 40 = .ok (.imul, 1) := by decide +kernel
theorem dX12_readPlayed_41 : decode cX12_readPlayed 41 = .ok (.istore_n 2, 1) := by decide +kernel
theorem dX12_readPlayed_42 : decode cX12_readPlayed 42 = .ok (.aload_n 0, 1) := by decide +kernel
theorem dX12_readPlayed_43 : decode cX12_readPlayed 43 = .ok (.getfield 28, 3) := by decide +kernel
theorem dX12_readPlayed_46 : decode cX12_readPlayed 46 = .ok (.iload_n 2, 1) := by decide +kernel
theorem dX12_readPlayed_47 : decode cX12_readPlayed 47 = .ok (.iload_n 1, 1) := by decide +kernel
theorem dX12_readPlayed_48 : decode cX12_readPlayed 48 = .ok (.iastore, 1) := by decide +kernel
theorem dX12_readPlayed_49 : decode cX12_readPlayed 49 = .ok (.aload_n 0, 1) := by decide +kernel
theorem dX12_readPlayed_50 : decode cX12_readPlayed 50 = .ok (.getfield 28, 3) := by decide +kernel
theorem dX12_readPlayed_53 : decode cX12_readPlayed 53 = .ok (.iload_n 2, 1) := by decide +kernel
theorem dX12_readPlayed_54 : decode cX12_readPlayed 54 = .ok (.iconst 3, 1) := by decide +kernel
theorem dX12_readPlayed_55 : decode cX12_readPlayed 55 = .ok (.iadd, 1) := by decide +kernel
theorem dX12_readPlayed_56 : decode cX12_readPlayed 56 = .ok (.aload_n 0, 1) := by decide +kernel
theorem dX12_readPlayed_57 : decode cX12_readPlayed 57 = .ok (.getfield 358, 3) := by decide +kernel
theorem dX12_readPlayed_60 : decode cX12_readPlayed 60 = .ok (.iastore, 1) := by decide +kernel
theorem dX12_readPlayed_61 : decode cX12_readPlayed 61 = .ok (.iconst 1, 1) := by decide +kernel
theorem dX12_readPlayed_62 : decode cX12_readPlayed 62 = .ok (.istore_n 3, 1) := by decide +kernel
theorem dX12_readPlayed_63 : decode cX12_readPlayed 63 = .ok (.iload_n 1, 1) := by decide +kernel
theorem dX12_readPlayed_64 : decode cX12_readPlayed 64 = .ok (.tableswitch 77 0 5 #[40, 40, 60, 60, 60, 69], 40) := by decide +kernel
theorem dX12_readPlayed_104 : decode cX12_readPlayed 104 = .ok (.aload_n 0, 1) := by decide +kernel
theorem dX12_readPlayed_105 : decode cX12_readPlayed 105 = .ok (.invokevirtual 316, 3) := by decide +kernel
theorem dX12_readPlayed_108 : decode cX12_readPlayed 108 = .ok (.istore_n 3, 1) := by decide +kernel
theorem dX12_readPlayed_109 : decode cX12_readPlayed 109 = .ok (.aload_n 0, 1) := by decide +kernel
theorem dX12_readPlayed_110 : decode cX12_readPlayed 110 = .ok (.getfield 28, 3) := by decide +kernel
theorem dX12_readPlayed_113 : decode cX12_readPlayed 113 = .ok (.iload_n 2, 1) := by decide +kernel
theorem dX12_readPlayed_114 : decode cX12_readPlayed 114 = .ok (.iconst 1, 1) := by decide +kernel
theorem dX12_readPlayed_115 : decode cX12_readPlayed 115 = .ok (.iadd, 1) := by decide +kernel
theorem dX12_readPlayed_116 : decode cX12_readPlayed 116 = .ok (.aload_n 0, 1) := by decide +kernel
theorem dX12_readPlayed_117 : decode cX12_readPlayed 117 = .ok (.getfield 294, 3) := by decide +kernel
theorem dX12_readPlayed_120 : decode cX12_readPlayed 120 = .ok (.iastore, 1) := by decide +kernel
theorem dX12_readPlayed_121 : decode cX12_readPlayed 121 = .ok (.goto 49, 3) := by decide +kernel
theorem dX12_readPlayed_170 : decode cX12_readPlayed 170 = .ok (.aload_n 0, 1) := by decide +kernel
theorem dX12_readPlayed_171 : decode cX12_readPlayed 171 = .ok (.dup, 1) := by decide +kernel
theorem dX12_readPlayed_172 : decode cX12_readPlayed 172 = .ok (.getfield 361, 3) := by decide +kernel
theorem dX12_readPlayed_175 : decode cX12_readPlayed 175 = .ok (.iconst 1, 1) := by decide +kernel
theorem dX12_readPlayed_176 : decode cX12_readPlayed 176 = .ok (.iadd, 1) := by decide +kernel
theorem dX12_readPlayed_177 : decode cX12_readPlayed 177 = .ok (.putfield 361, 3) := by decide +kernel
theorem gp_RX12_361 : GP RX12 361 13 15 .int false := ⟨RX12, TX12, 17, ⟨rfl, inw_X12, Nat.le_of_ble_eq_true rfl, (mT7 152 rfl rfl)⟩, ⟨tyX12, tyX12_ok⟩, nmX12, rfl, by decide +kernel, fun h => nomatch h⟩
theorem dX12_readPlayed_180 : decode cX12_readPlayed 180 = .ok (.iload_n 3, 1) := by decide +kernel
theorem dX12_readPlayed_181 : decode cX12_readPlayed 181 = .ok (.ifCond .eq 14, 3) := by decide +kernel
theorem dX12_readPlayed_195 : decode cX12_readPlayed 195 = .ok (.iconst 0, 1) := by decide +kernel
theorem dX12_readPlayed_196 : decode cX12_readPlayed 196 = .ok (.ireturn, 1) := by decide +kernel
theorem dX12_readPlayed_184 : decode cX12_readPlayed 184 = .ok (.aload_n 0, 1) := by decide +kernel
theorem dX12_readPlayed_185 : decode cX12_readPlayed 185 = .ok (.invokevirtual 304, 3) := by decide +kernel
theorem dX12_readPlayed_188 : decode cX12_readPlayed 188 = .ok (.ifCond .eq 7, 3) := by decide +kernel
theorem dX12_readPlayed_191 : decode cX12_readPlayed 191 = .ok (.iconst 1, 1) := by decide +kernel
theorem dX12_readPlayed_192 : decode cX12_readPlayed 192 = .ok (.goto 4, 3) := by decide +kernel
theorem dX12_readPlayed_124 : decode cX12_readPlayed 124 = .ok (.aload_n 0, 1) := by decide +kernel
theorem dX12_readPlayed_125 : decode cX12_readPlayed 125 = .ok (.iconst 1, 1) := by decide +kernel
theorem dX12_readPlayed_126 : decode cX12_readPlayed 126 = .ok (.invokevirtual 367, 3) := by decide +kernel
theorem dX12_readNumberOf_0 : decode cX12_readNumberOf 0 = .ok (.aload_n 0, 1) := by decide +kernel
theorem dX12_readNumberOf_1 : decode cX12_readNumberOf 1 = .ok (.iconst 0, 1) := by decide +kernel
theorem dX12_readNumberOf_2 : decode cX12_readNumberOf 2 = .ok (.sipush 999, 3) := by decide +kernel
theorem dX12_readNumberOf_5 : decode cX12_readNumberOf 5 = .ok (.invokevirtual 301, 3) := by decide +kernel
theorem dX12_readNumberOf_8 : decode cX12_readNumberOf 8 = .ok (.ifCond .ne 5, 3) := by decide +kernel
theorem dX12_readNumberOf_11 : decode cX12_readNumberOf 11 = .ok (.iconst 0, 1) := by decide +kernel
theorem dX12_readNumberOf_12 : decode cX12_readNumberOf 12 = .ok (.ireturn, 1) := by decide +kernel
theorem dX12_isBound_0 : decode cX12_isBound 0 = .ok (.aload_n 0, 1) := by decide +kernel
theorem dX12_isBound_1 : decode cX12_isBound 1 = .ok (.getfield 28, 3) := by decide +kernel
theorem dX12_isBound_4 : decode cX12_isBound 4 = .ok (.iload_n 1, 1) := by decide +kernel
theorem dX12_isBound_5 : decode cX12_isBound 5 = .ok (.iconst 1, 1) := by decide +kernel
theorem dX12_isBound_6 : decode cX12_isBound 6 = .ok (.iadd, 1) := by decide +kernel
theorem dX12_isBound_7 : decode cX12_isBound 7 = .ok (.iaload, 1) := by decide +kernel
theorem dX12_isBound_8 : decode cX12_isBound 8 = .ok (.istore_n 2, 1) := by decide +kernel
theorem dX12_isBound_9 : decode cX12_isBound 9 = .ok (.aload_n 0, 1) := by decide +kernel
theorem dX12_isBound_10 : decode cX12_isBound 10 = .ok (.getfield 28, 3) := by decide +kernel
theorem dX12_isBound_13 : decode cX12_isBound 13 = .ok (.iload_n 1, 1) := by decide +kernel
theorem dX12_isBound_14 : decode cX12_isBound 14 = .ok (.iconst 2, 1) := by decide +kernel
theorem dX12_isBound_15 : decode cX12_isBound 15 = .ok (.iadd, 1) := by decide +kernel
theorem dX12_isBound_16 : decode cX12_isBound 16 = .ok (.iaload, 1) := by decide +kernel
theorem dX12_isBound_17 : decode cX12_isBound 17 = .ok (.istore_n 3, 1) := by decide +kernel
theorem dX12_isBound_18 : decode cX12_isBound 18 = .ok (.aload_n 0, 1) := by decide +kernel
theorem dX12_isBound_19 : decode cX12_isBound 19 = .ok (.iload_n 2, 1) := by decide +kernel
theorem dX12_isBound_20 : decode cX12_isBound 20 = .ok (.invokevirtual 91, 3) := by decide +kernel
theorem dX12_isMode_0 : decode cX12_isMode 0 = .ok (.iload_n 1, 1) := by decide +kernel
theorem dX12_isMode_1 : decode cX12_isMode 1 = .ok (.i2l, 1) := by decide +kernel
theorem dX12_isMode_2 : decode cX12_isMode 2 = .ok (.lconst 0, 1) := by decide +kernel
theorem dX12_isMode_3 : decode cX12_isMode 3 = .ok (.aload_n 0, 1) := by decide +kernel
theorem dX12_isMode_4 : decode cX12_isMode 4 = .ok (.getfield 9, 3) := by decide +kernel
theorem dX12_isMode_7 : decode cX12_isMode 7 = .ok (.iconst 0, 1) := by decide +kernel
theorem dX12_isMode_8 : decode cX12_isMode 8 = .ok (.iaload, 1) := by decide +kernel
theorem dX12_isMode_9 : decode cX12_isMode 9 = .ok (.iconst 1, 1) := by decide +kernel
theorem dX12_isMode_10 : decode cX12_isMode 10 = .ok (.isub, 1) := by decide +kernel
theorem dX12_isMode_11 : decode cX12_isMode 11 = .ok (.i2l, 1) := by decide +kernel
theorem dX12_isMode_12 : decode cX12_isMode 12 = .ok (.invokestatic 41, 3) := by decide +kernel
theorem dX12_isMode_15 : decode cX12_isMode 15 = .ok (.ireturn, 1) := by decide +kernel
set_option maxRecDepth 100000 in
set_option maxHeartbeats 4000000 in
theorem rX12_isMode (l : Launch) (D : va_G) (Y : Nat → ClassId) (h0 : Nat) (h1 : Nat) (h2 : Nat) (h3 : Nat) (h4 : Nat) (h5 : Nat) (h6 : Nat) (p2 : Int32) (k5 : Nat) (k6 : Nat) (p7 : Int32) (p8 : Int32) (p9 : Int32) (k10 : Nat) (p11 : Int32) (q12 : Int64) (k15 : Nat) (k16 : Nat) (f0 : Nat → Int32) (f1 : Nat → Int32) (f3 : Nat → Int32) (f4 : Nat → Int32) (f13 : Nat → Int32) (f14 : Nat → Int32) (HI : INV f0) (HL : k5 ≤ 1600) (HP : PLV f13) (s0 : Int32)  (sz : Nat) : Met l yX12_isMode (WSm yX12_isMode cX12_isMode 2 (some .boolean)) (mkR 1 0 0 25) (PreC D Y [.ref h0, .int s0] [(h0, oC 13 [.ref h1, .ref h2, .int p2, .ref h3, .ref h4, .int (nI k5), .int (nI k6), .int p7, .int p8, .int p9, .int (nI k10), .int p11, .long q12, .ref h5, .ref h6, .int (nI k15), .int (nI k16)]), (h1, aI Y 3640 f0), (h2, aZ Y 2 f1), (h3, aZ Y 80 f3), (h4, aB Y 1600 f4), (h5, aI Y 200 f13), (h6, aI Y 800 f14)] sz) (QI D (fun (r : Int32) (u : WU) => (r = 0 ∨ (r = 1 ∧ ∃ m : Nat, s0 = nI m ∧ m < gN f0 0))) (fun (u : WU) => [(h0, oC 13 [.ref h1, .ref h2, .int p2, .ref h3, .ref h4, .int (nI k5), .int (nI k6), .int p7, .int p8, .int p9, .int (nI k10), .int p11, .long q12, .ref h5, .ref h6, .int (nI k15), .int (nI k16)]), (h1, aI Y 3640 f0), (h2, aZ Y 2 f1), (h3, aZ Y 80 f3), (h4, aB Y 1600 f4), (h5, aI Y 200 f13), (h6, aI Y 800 f14)]) (va_A [(h0, oC 13 [.ref h1, .ref h2, .int p2, .ref h3, .ref h4, .int (nI k5), .int (nI k6), .int p7, .int p8, .int p9, .int (nI k10), .int p11, .long q12, .ref h5, .ref h6, .int (nI k15), .int (nI k16)]), (h1, aI Y 3640 f0), (h2, aZ Y 2 f1), (h3, aZ Y 80 f3), (h4, aB Y 1600 f4), (h5, aI Y 200 f13), (h6, aI Y 800 f14)] sz)) 0 0 (va_A [(h0, oC 13 [.ref h1, .ref h2, .int p2, .ref h3, .ref h4, .int (nI k5), .int (nI k6), .int p7, .int p8, .int p9, .int (nI k10), .int p11, .long q12, .ref h5, .ref h6, .int (nI k15), .int (nI k16)]), (h1, aI Y 3640 f0), (h2, aZ Y 2 f1), (h3, aZ Y 80 f3), (h4, aB Y 1600 f4), (h5, aI Y 200 f13), (h6, aI Y 800 f14)] sz) :=
  met_of  (by decide +kernel) (Nat.le_of_ble_eq_true rfl) (fun p e s m args below meth c B hin hsz => by
    have B : VB p s m args meth c D Y (va_A [(h0, oC 13 [.ref h1, .ref h2, .int p2, .ref h3, .ref h4, .int (nI k5), .int (nI k6), .int p7, .int p8, .int p9, .int (nI k10), .int p11, .long q12, .ref h5, .ref h6, .int (nI k15), .int (nI k16)]), (h1, aI Y 3640 f0), (h2, aZ Y 2 f1), (h3, aZ Y 80 f3), (h4, aB Y 1600 f4), (h5, aI Y 200 f13), (h6, aI Y 800 f14)] sz) cX12_isMode 2 RX12 (some .boolean) := B
    refine V_iload_n 0 B dX12_isMode_0 1 rfl ?_
    refine V_i2l 1 B dX12_isMode_1 rfl ?_
    refine V_nml (fun o0 e1 => ?_)
    have x2 : o0.toInt = s0.toInt := by rw [e1, Int32.toInt_toInt64]
    refine V_lconst 2 B (v := 0) dX12_isMode_2 (by decide +kernel) ?_
    refine V_aload_n 3 B dX12_isMode_3 0 rfl ?_
    refine V_get 4 B gf_RX12_9 0 rfl rfl dX12_isMode_4 ?_
    refine V_iconst 7 B (v := 0) dX12_isMode_7 (by decide +kernel) ?_
    have x3 : (gN f0 0) ≤ 6 := gN_le HI (by omega) (show bd 0 = (0, ((6 : Nat) : Int)) by decide +kernel)
    refine V_iald 8 B (v := (nI (gN f0 0))) 1 rfl (vpin _ _ (by decide +kernel)) dX12_isMode_8 (by show f0 0 = _; exact gN_eq HI (by omega) (show bd 0 = (0, ((6 : Nat) : Int)) by decide +kernel)) ?_
    refine V_iconst 9 B (v := 1) dX12_isMode_9 (by decide +kernel) ?_
    refine V_isub 10 B dX12_isMode_10 rfl ?_
    refine V_nmi (fun j4 e5 => ?_)
    have x6 : j4.toInt = (((gN f0 0) : Nat) : Int) - ((1 : Nat) : Int) := by rw [e5]; exact nI_subT (a := (gN f0 0)) (b := 1) (by omega) (by omega)
    refine V_i2l 11 B dX12_isMode_11 rfl ?_
    refine V_nml (fun o7 e8 => ?_)
    have x9 : o7.toInt = j4.toInt := by rw [e8, Int32.toInt_toInt64]
    refine V_csi 12 B (st := []) (As := [.long o0, .long 0, .long o7]) (fun sz => rX12_inRange l D Y o0 0 o7 sz) glS_RX12_41 ⟨rfl, rfl⟩ ⟨(Nat.le_of_ble_eq_true rfl), (Nat.le_of_ble_eq_true rfl)⟩ ⟨(Nat.le_of_ble_eq_true rfl), (Nat.le_of_ble_eq_true rfl)⟩ [] rfl rfl (Nat.le_of_ble_eq_true rfl) rfl (fun _ _ _ => rfl) dX12_isMode_12 (fun j10 u11 w12 => ?_)
    refine V_ws [(h0, oC 13 [.ref h1, .ref h2, .int p2, .ref h3, .ref h4, .int (nI k5), .int (nI k6), .int p7, .int p8, .int p9, .int (nI k10), .int p11, .long q12, .ref h5, .ref h6, .int (nI k15), .int (nI k16)]), (h1, aI Y 3640 f0), (h2, aZ Y 2 f1), (h3, aZ Y 80 f3), (h4, aB Y 1600 f4), (h5, aI Y 200 f13), (h6, aI Y 800 f14)] rfl ?_
    rcases w12 with ⟨rfl, x15⟩ | ⟨rfl, x13, x14⟩
    ·
      rw [show (0 : Int64).toInt = 0 by decide +kernel] at x15
      exact V_zret 15 B rfl dX12_isMode_15 (mkW [] [] [] [] [] []) (Or.inl rfl) rfl
    ·
      rw [show (0 : Int64).toInt = 0 by decide +kernel] at x13
      exact V_zret 15 B rfl dX12_isMode_15 (mkW [] [] [] [] [] []) (Or.inr ⟨rfl, nat_lt (by omega) (by omega)⟩) rfl)
theorem glV_RX12_91 : GLV RX12 91 yX12_isMode RX12 cX12_isMode 2 (some .boolean) 1 := ⟨⟨(mT8 29 rfl rfl), (mT8 31 rfl rfl), (mTs 34 rfl rfl), (mT1 13 rfl rfl), (mT8 32 rfl rfl)⟩, by decide +kernel⟩
theorem dX12_isBound_23 : decode cX12_isBound 23 = .ok (.ifCond .eq 11, 3) := by decide +kernel
theorem dX12_isBound_34 : decode cX12_isBound 34 = .ok (.iconst 0, 1) := by decide +kernel
theorem dX12_isBound_35 : decode cX12_isBound 35 = .ok (.ireturn, 1) := by decide +kernel
theorem dX12_isBound_26 : decode cX12_isBound 26 = .ok (.aload_n 0, 1) := by decide +kernel
theorem dX12_isBound_27 : decode cX12_isBound 27 = .ok (.iload_n 3, 1) := by decide +kernel
theorem dX12_isBound_28 : decode cX12_isBound 28 = .ok (.invokevirtual 99, 3) := by decide +kernel
theorem dX12_isCommand_0 : decode cX12_isCommand 0 = .ok (.iload_n 1, 1) := by decide +kernel
theorem dX12_isCommand_1 : decode cX12_isCommand 1 = .ok (.i2l, 1) := by decide +kernel
theorem dX12_isCommand_2 : decode cX12_isCommand 2 = .ok (.lconst 0, 1) := by decide +kernel
theorem dX12_isCommand_3 : decode cX12_isCommand 3 = .ok (.aload_n 0, 1) := by decide +kernel
theorem dX12_isCommand_4 : decode cX12_isCommand 4 = .ok (.getfield 9, 3) := by decide +kernel
theorem dX12_isCommand_7 : decode cX12_isCommand 7 = .ok (.iconst 1, 1) := by decide +kernel
theorem dX12_isCommand_8 : decode cX12_isCommand 8 = .ok (.iaload, 1) := by decide +kernel
theorem dX12_isCommand_9 : decode cX12_isCommand 9 = .ok (.iconst 1, 1) := by decide +kernel
theorem dX12_isCommand_10 : decode cX12_isCommand 10 = .ok (.isub, 1) := by decide +kernel
theorem dX12_isCommand_11 : decode cX12_isCommand 11 = .ok (.i2l, 1) := by decide +kernel
theorem dX12_isCommand_12 : decode cX12_isCommand 12 = .ok (.invokestatic 41, 3) := by decide +kernel
theorem dX12_isCommand_15 : decode cX12_isCommand 15 = .ok (.ireturn, 1) := by decide +kernel
set_option maxRecDepth 100000 in
set_option maxHeartbeats 4000000 in
theorem rX12_isCommand (l : Launch) (D : va_G) (Y : Nat → ClassId) (h0 : Nat) (h1 : Nat) (h2 : Nat) (h3 : Nat) (h4 : Nat) (h5 : Nat) (h6 : Nat) (p2 : Int32) (k5 : Nat) (k6 : Nat) (p7 : Int32) (p8 : Int32) (p9 : Int32) (k10 : Nat) (p11 : Int32) (q12 : Int64) (k15 : Nat) (k16 : Nat) (f0 : Nat → Int32) (f1 : Nat → Int32) (f3 : Nat → Int32) (f4 : Nat → Int32) (f13 : Nat → Int32) (f14 : Nat → Int32) (HI : INV f0) (HL : k5 ≤ 1600) (HP : PLV f13) (s0 : Int32)  (sz : Nat) : Met l yX12_isCommand (WSm yX12_isCommand cX12_isCommand 2 (some .boolean)) (mkR 1 0 0 25) (PreC D Y [.ref h0, .int s0] [(h0, oC 13 [.ref h1, .ref h2, .int p2, .ref h3, .ref h4, .int (nI k5), .int (nI k6), .int p7, .int p8, .int p9, .int (nI k10), .int p11, .long q12, .ref h5, .ref h6, .int (nI k15), .int (nI k16)]), (h1, aI Y 3640 f0), (h2, aZ Y 2 f1), (h3, aZ Y 80 f3), (h4, aB Y 1600 f4), (h5, aI Y 200 f13), (h6, aI Y 800 f14)] sz) (QI D (fun (r : Int32) (u : WU) => (r = 0 ∨ (r = 1 ∧ ∃ m : Nat, s0 = nI m ∧ m < gN f0 1))) (fun (u : WU) => [(h0, oC 13 [.ref h1, .ref h2, .int p2, .ref h3, .ref h4, .int (nI k5), .int (nI k6), .int p7, .int p8, .int p9, .int (nI k10), .int p11, .long q12, .ref h5, .ref h6, .int (nI k15), .int (nI k16)]), (h1, aI Y 3640 f0), (h2, aZ Y 2 f1), (h3, aZ Y 80 f3), (h4, aB Y 1600 f4), (h5, aI Y 200 f13), (h6, aI Y 800 f14)]) (va_A [(h0, oC 13 [.ref h1, .ref h2, .int p2, .ref h3, .ref h4, .int (nI k5), .int (nI k6), .int p7, .int p8, .int p9, .int (nI k10), .int p11, .long q12, .ref h5, .ref h6, .int (nI k15), .int (nI k16)]), (h1, aI Y 3640 f0), (h2, aZ Y 2 f1), (h3, aZ Y 80 f3), (h4, aB Y 1600 f4), (h5, aI Y 200 f13), (h6, aI Y 800 f14)] sz)) 0 0 (va_A [(h0, oC 13 [.ref h1, .ref h2, .int p2, .ref h3, .ref h4, .int (nI k5), .int (nI k6), .int p7, .int p8, .int p9, .int (nI k10), .int p11, .long q12, .ref h5, .ref h6, .int (nI k15), .int (nI k16)]), (h1, aI Y 3640 f0), (h2, aZ Y 2 f1), (h3, aZ Y 80 f3), (h4, aB Y 1600 f4), (h5, aI Y 200 f13), (h6, aI Y 800 f14)] sz) :=
  met_of  (by decide +kernel) (Nat.le_of_ble_eq_true rfl) (fun p e s m args below meth c B hin hsz => by
    have B : VB p s m args meth c D Y (va_A [(h0, oC 13 [.ref h1, .ref h2, .int p2, .ref h3, .ref h4, .int (nI k5), .int (nI k6), .int p7, .int p8, .int p9, .int (nI k10), .int p11, .long q12, .ref h5, .ref h6, .int (nI k15), .int (nI k16)]), (h1, aI Y 3640 f0), (h2, aZ Y 2 f1), (h3, aZ Y 80 f3), (h4, aB Y 1600 f4), (h5, aI Y 200 f13), (h6, aI Y 800 f14)] sz) cX12_isCommand 2 RX12 (some .boolean) := B
    refine V_iload_n 0 B dX12_isCommand_0 1 rfl ?_
    refine V_i2l 1 B dX12_isCommand_1 rfl ?_
    refine V_nml (fun o0 e1 => ?_)
    have x2 : o0.toInt = s0.toInt := by rw [e1, Int32.toInt_toInt64]
    refine V_lconst 2 B (v := 0) dX12_isCommand_2 (by decide +kernel) ?_
    refine V_aload_n 3 B dX12_isCommand_3 0 rfl ?_
    refine V_get 4 B gf_RX12_9 0 rfl rfl dX12_isCommand_4 ?_
    refine V_iconst 7 B (v := 1) dX12_isCommand_7 (by decide +kernel) ?_
    have x3 : (gN f0 1) ≤ 40 := gN_le HI (by omega) (show bd 1 = (0, ((40 : Nat) : Int)) by decide +kernel)
    refine V_iald 8 B (v := (nI (gN f0 1))) 1 rfl (vpin _ _ (by decide +kernel)) dX12_isCommand_8 (by show f0 1 = _; exact gN_eq HI (by omega) (show bd 1 = (0, ((40 : Nat) : Int)) by decide +kernel)) ?_
    refine V_iconst 9 B (v := 1) dX12_isCommand_9 (by decide +kernel) ?_
    refine V_isub 10 B dX12_isCommand_10 rfl ?_
    refine V_nmi (fun j4 e5 => ?_)
    have x6 : j4.toInt = (((gN f0 1) : Nat) : Int) - ((1 : Nat) : Int) := by rw [e5]; exact nI_subT (a := (gN f0 1)) (b := 1) (by omega) (by omega)
    refine V_i2l 11 B dX12_isCommand_11 rfl ?_
    refine V_nml (fun o7 e8 => ?_)
    have x9 : o7.toInt = j4.toInt := by rw [e8, Int32.toInt_toInt64]
    refine V_csi 12 B (st := []) (As := [.long o0, .long 0, .long o7]) (fun sz => rX12_inRange l D Y o0 0 o7 sz) glS_RX12_41 ⟨rfl, rfl⟩ ⟨(Nat.le_of_ble_eq_true rfl), (Nat.le_of_ble_eq_true rfl)⟩ ⟨(Nat.le_of_ble_eq_true rfl), (Nat.le_of_ble_eq_true rfl)⟩ [] rfl rfl (Nat.le_of_ble_eq_true rfl) rfl (fun _ _ _ => rfl) dX12_isCommand_12 (fun j10 u11 w12 => ?_)
    refine V_ws [(h0, oC 13 [.ref h1, .ref h2, .int p2, .ref h3, .ref h4, .int (nI k5), .int (nI k6), .int p7, .int p8, .int p9, .int (nI k10), .int p11, .long q12, .ref h5, .ref h6, .int (nI k15), .int (nI k16)]), (h1, aI Y 3640 f0), (h2, aZ Y 2 f1), (h3, aZ Y 80 f3), (h4, aB Y 1600 f4), (h5, aI Y 200 f13), (h6, aI Y 800 f14)] rfl ?_
    rcases w12 with ⟨rfl, x15⟩ | ⟨rfl, x13, x14⟩
    ·
      rw [show (0 : Int64).toInt = 0 by decide +kernel] at x15
      exact V_zret 15 B rfl dX12_isCommand_15 (mkW [] [] [] [] [] []) (Or.inl rfl) rfl
    ·
      rw [show (0 : Int64).toInt = 0 by decide +kernel] at x13
      exact V_zret 15 B rfl dX12_isCommand_15 (mkW [] [] [] [] [] []) (Or.inr ⟨rfl, nat_lt (by omega) (by omega)⟩) rfl)
theorem glV_RX12_99 : GLV RX12 99 yX12_isCommand RX12 cX12_isCommand 2 (some .boolean) 1 := ⟨⟨(mT8 46 rfl rfl), (mT8 48 rfl rfl), (mTs 35 rfl rfl), (mT1 13 rfl rfl), (mT8 49 rfl rfl)⟩, by decide +kernel⟩
theorem dX12_isBound_31 : decode cX12_isBound 31 = .ok (.ifCond .ne 5, 3) := by decide +kernel
theorem dX12_isBound_36 : decode cX12_isBound 36 = .ok (.aload_n 0, 1) := by decide +kernel
theorem dX12_isBound_37 : decode cX12_isBound 37 = .ok (.getfield 9, 3) := by decide +kernel
theorem dX12_isBound_40 : decode cX12_isBound 40 = .ok (.sipush 3629, 3) := by decide +kernel
theorem dX12_isBound_43 : decode cX12_isBound 43 = .ok (.aload_n 0, 1) := by decide +kernel
theorem dX12_isBound_44 : decode cX12_isBound 44 = .ok (.getfield 28, 3) := by decide +kernel
theorem dX12_isBound_47 : decode cX12_isBound 47 = .ok (.iload_n 1, 1) := by decide +kernel
theorem dX12_isBound_48 : decode cX12_isBound 48 = .ok (.iconst 4, 1) := by decide +kernel
theorem dX12_isBound_49 : decode cX12_isBound 49 = .ok (.iadd, 1) := by decide +kernel
theorem dX12_isBound_50 : decode cX12_isBound 50 = .ok (.iaload, 1) := by decide +kernel
theorem dX12_isBound_51 : decode cX12_isBound 51 = .ok (.iastore, 1) := by decide +kernel
theorem dX12_isBound_52 : decode cX12_isBound 52 = .ok (.iconst 0, 1) := by decide +kernel
theorem dX12_isBound_53 : decode cX12_isBound 53 = .ok (.istore 4, 2) := by decide +kernel
theorem dX12_isBound_55 : decode cX12_isBound 55 = .ok (.iload 4, 2) := by decide +kernel
theorem dX12_isBound_57 : decode cX12_isBound 57 = .ok (.aload_n 0, 1) := by decide +kernel
theorem dX12_isBound_58 : decode cX12_isBound 58 = .ok (.getfield 28, 3) := by decide +kernel
theorem dX12_isBound_61 : decode cX12_isBound 61 = .ok (.iload_n 1, 1) := by decide +kernel
theorem dX12_isBound_62 : decode cX12_isBound 62 = .ok (.iconst 4, 1) := by decide +kernel
theorem dX12_isBound_63 : decode cX12_isBound 63 = .ok (.iadd, 1) := by decide +kernel
theorem dX12_isBound_64 : decode cX12_isBound 64 = .ok (.iaload, 1) := by decide +kernel
theorem dX12_isBound_65 : decode cX12_isBound 65 = .ok (.if_icmp .ge 36, 3) := by decide +kernel
theorem dX12_isBound_101 : decode cX12_isBound 101 = .ok (.aload_n 0, 1) := by decide +kernel
theorem dX12_isBound_102 : decode cX12_isBound 102 = .ok (.getfield 28, 3) := by decide +kernel
theorem dX12_isBound_105 : decode cX12_isBound 105 = .ok (.iload_n 1, 1) := by decide +kernel
theorem dX12_isBound_106 : decode cX12_isBound 106 = .ok (.iaload, 1) := by decide +kernel
theorem dX12_isBound_107 : decode cX12_isBound 107 = .ok (.bipush 6, 2) := by decide +kernel
theorem dX12_isBound_109 : decode cX12_isBound 109 = .ok (.if_icmp .ne 15, 3) := by decide +kernel
theorem dX12_isBound_124 : decode cX12_isBound 124 = .ok (.aload_n 0, 1) := by decide +kernel
theorem dX12_isBound_125 : decode cX12_isBound 125 = .ok (.iload_n 2, 1) := by decide +kernel
theorem dX12_isBound_126 : decode cX12_isBound 126 = .ok (.iload_n 3, 1) := by decide +kernel
theorem dX12_isBound_127 : decode cX12_isBound 127 = .ok (.sipush 3629, 3) := by decide +kernel
theorem dX12_isBound_130 : decode cX12_isBound 130 = .ok (.invokevirtual 145, 3) := by decide +kernel
theorem dX12_forced_0 : decode cX12_forced 0 = .ok (.aload_n 0, 1) := by decide +kernel
theorem dX12_forced_1 : decode cX12_forced 1 = .ok (.iload_n 3, 1) := by decide +kernel
theorem dX12_forced_2 : decode cX12_forced 2 = .ok (.invokevirtual 118, 3) := by decide +kernel
theorem dX12_clashesReserved_0 : decode cX12_clashesReserved 0 = .ok (.iconst 0, 1) := by decide +kernel
theorem dX12_clashesReserved_1 : decode cX12_clashesReserved 1 = .ok (.istore_n 2, 1) := by decide +kernel
theorem dX12_clashesReserved_2 : decode cX12_clashesReserved 2 = .ok (.iconst 0, 1) := by decide +kernel
theorem dX12_clashesReserved_3 : decode cX12_clashesReserved 3 = .ok (.istore_n 3, 1) := by decide +kernel
theorem dX12_clashesReserved_4 : decode cX12_clashesReserved 4 = .ok (.iload_n 3, 1) := by decide +kernel
theorem dX12_clashesReserved_5 : decode cX12_clashesReserved 5 = .ok (.aload_n 0, 1) := by decide +kernel
theorem dX12_clashesReserved_6 : decode cX12_clashesReserved 6 = .ok (.getfield 9, 3) := by decide +kernel
theorem dX12_clashesReserved_9 : decode cX12_clashesReserved 9 = .ok (.iconst 2, 1) := by decide +kernel
theorem dX12_clashesReserved_10 : decode cX12_clashesReserved 10 = .ok (.iaload, 1) := by decide +kernel
theorem dX12_clashesReserved_11 : decode cX12_clashesReserved 11 = .ok (.if_icmp .ge 21, 3) := by decide +kernel
theorem dX12_clashesReserved_32 : decode cX12_clashesReserved 32 = .ok (.iload_n 2, 1) := by decide +kernel
theorem dX12_clashesReserved_33 : decode cX12_clashesReserved 33 = .ok (.ireturn, 1) := by decide +kernel
theorem dX12_clashesReserved_14 : decode cX12_clashesReserved 14 = .ok (.iload_n 2, 1) := by decide +kernel
theorem dX12_clashesReserved_15 : decode cX12_clashesReserved 15 = .ok (.aload_n 0, 1) := by decide +kernel
theorem dX12_clashesReserved_16 : decode cX12_clashesReserved 16 = .ok (.iload_n 3, 1) := by decide +kernel
theorem dX12_clashesReserved_17 : decode cX12_clashesReserved 17 = .ok (.invokestatic 108, 3) := by decide +kernel
theorem dX12_clashesReserved_20 : decode cX12_clashesReserved 20 = .ok (.iload_n 1, 1) := by decide +kernel
theorem dX12_clashesReserved_21 : decode cX12_clashesReserved 21 = .ok (.invokevirtual 111, 3) := by decide +kernel
theorem rl10 : ∀ z0, z0 < 6 → SQ (154 + 5 * z0) := by unfold SQ; decide +kernel
theorem dX12_clashesReserved_24 : decode cX12_clashesReserved 24 = .ok (.ior, 1) := by decide +kernel
theorem dX12_clashesReserved_25 : decode cX12_clashesReserved 25 = .ok (.istore_n 2, 1) := by decide +kernel
theorem dX12_clashesReserved_26 : decode cX12_clashesReserved 26 = .ok (.iinc 3 1, 3) := by decide +kernel
theorem dX12_clashesReserved_29 : decode cX12_clashesReserved 29 = .ok (.goto (-25), 3) := by decide +kernel
set_option maxRecDepth 100000 in
set_option maxHeartbeats 4000000 in
theorem rX12_clashesReserved (l : Launch) (D : va_G) (Y : Nat → ClassId) (h0 : Nat) (h1 : Nat) (h2 : Nat) (h3 : Nat) (h4 : Nat) (h5 : Nat) (h6 : Nat) (p2 : Int32) (k5 : Nat) (k6 : Nat) (p7 : Int32) (p8 : Int32) (p9 : Int32) (k10 : Nat) (p11 : Int32) (q12 : Int64) (k15 : Nat) (k16 : Nat) (f0 : Nat → Int32) (f1 : Nat → Int32) (f3 : Nat → Int32) (f4 : Nat → Int32) (f13 : Nat → Int32) (f14 : Nat → Int32) (HI : INV f0) (HL : k5 ≤ 1600) (HP : PLV f13) (s0 : Nat) (hs0 : SQ s0) (sz : Nat) : Met l yX12_clashesReserved (WSm yX12_clashesReserved cX12_clashesReserved 4 (some .boolean)) (mkR 3 0 0 66) (PreC D Y [.ref h0, .int (nI s0)] [(h0, oC 13 [.ref h1, .ref h2, .int p2, .ref h3, .ref h4, .int (nI k5), .int (nI k6), .int p7, .int p8, .int p9, .int (nI k10), .int p11, .long q12, .ref h5, .ref h6, .int (nI k15), .int (nI k16)]), (h1, aI Y 3640 f0), (h2, aZ Y 2 f1), (h3, aZ Y 80 f3), (h4, aB Y 1600 f4), (h5, aI Y 200 f13), (h6, aI Y 800 f14)] sz) (QI D (fun (r : Int32) (u : WU) => (r = 0 ∨ r = 1)) (fun (u : WU) => [(h0, oC 13 [.ref h1, .ref h2, .int p2, .ref h3, .ref h4, .int (nI k5), .int (nI k6), .int p7, .int p8, .int p9, .int (nI k10), .int p11, .long q12, .ref h5, .ref h6, .int (nI k15), .int (nI k16)]), (h1, aI Y 3640 f0), (h2, aZ Y 2 f1), (h3, aZ Y 80 f3), (h4, aB Y 1600 f4), (h5, aI Y 200 f13), (h6, aI Y 800 f14)]) (va_A [(h0, oC 13 [.ref h1, .ref h2, .int p2, .ref h3, .ref h4, .int (nI k5), .int (nI k6), .int p7, .int p8, .int p9, .int (nI k10), .int p11, .long q12, .ref h5, .ref h6, .int (nI k15), .int (nI k16)]), (h1, aI Y 3640 f0), (h2, aZ Y 2 f1), (h3, aZ Y 80 f3), (h4, aB Y 1600 f4), (h5, aI Y 200 f13), (h6, aI Y 800 f14)] sz)) 0 0 (va_A [(h0, oC 13 [.ref h1, .ref h2, .int p2, .ref h3, .ref h4, .int (nI k5), .int (nI k6), .int p7, .int p8, .int p9, .int (nI k10), .int p11, .long q12, .ref h5, .ref h6, .int (nI k15), .int (nI k16)]), (h1, aI Y 3640 f0), (h2, aZ Y 2 f1), (h3, aZ Y 80 f3), (h4, aB Y 1600 f4), (h5, aI Y 200 f13), (h6, aI Y 800 f14)] sz) :=
  met_of  (by decide +kernel) (Nat.le_of_ble_eq_true rfl) (fun p e s m args below meth c B hin hsz => by
    have B : VB p s m args meth c D Y (va_A [(h0, oC 13 [.ref h1, .ref h2, .int p2, .ref h3, .ref h4, .int (nI k5), .int (nI k6), .int p7, .int p8, .int p9, .int (nI k10), .int p11, .long q12, .ref h5, .ref h6, .int (nI k15), .int (nI k16)]), (h1, aI Y 3640 f0), (h2, aZ Y 2 f1), (h3, aZ Y 80 f3), (h4, aB Y 1600 f4), (h5, aI Y 200 f13), (h6, aI Y 800 f14)] sz) cX12_clashesReserved 4 RX12 (some .boolean) := B
    have hq_s0 := hs0.1
    refine V_iconst 0 B (v := 0) dX12_clashesReserved_0 (by decide +kernel) ?_
    refine V_istore_n 1 B (lv2 := [(2, .int 0), (0, .ref h0), (1, .int (nI s0))]) dX12_clashesReserved_1 (by decide) rfl ?_
    refine V_iconst 2 B (v := 0) dX12_clashesReserved_2 (by decide +kernel) ?_
    refine V_istore_n 3 B (lv2 := [(3, .int 0), (2, .int 0), (0, .ref h0), (1, .int (nI s0))]) dX12_clashesReserved_3 (by decide) rfl ?_
    refine V_wloop (α := WU) (fun a => 100000 - (a.1 0)) (fun a => (a.1 0) ≤ 6 ∧ ((a.2.1 0) = 0 ∨ (a.2.1 0) = 1)) (fun a => [(3, .int (nI (a.1 0))), (2, .int (a.2.1 0)), (0, .ref h0), (1, .int (nI s0))]) (fun a => [(h0, oC 13 [.ref h1, .ref h2, .int p2, .ref h3, .ref h4, .int (nI k5), .int (nI k6), .int p7, .int p8, .int p9, .int (nI k10), .int p11, .long q12, .ref h5, .ref h6, .int (nI k15), .int (nI k16)]), (h1, aI Y 3640 f0), (h2, aZ Y 2 f1), (h3, aZ Y 80 f3), (h4, aB Y 1600 f4), (h5, aI Y 200 f13), (h6, aI Y 800 f14)]) (mkW [0] [0] [] [] [] []) ⟨(show 0 ≤ 6 by omega), (Or.inl rfl)⟩ rfl rfl (fun a0 hI2 IH1 => ?_)
    refine V_lv [(3, .int (nI (a0.1 0))), (2, .int (a0.2.1 0)), (0, .ref h0), (1, .int (nI s0))] [0, 1, 2, 3] rfl ?_
    refine V_ws [(h0, oC 13 [.ref h1, .ref h2, .int p2, .ref h3, .ref h4, .int (nI k5), .int (nI k6), .int p7, .int p8, .int p9, .int (nI k10), .int p11, .long q12, .ref h5, .ref h6, .int (nI k15), .int (nI k16)]), (h1, aI Y 3640 f0), (h2, aZ Y 2 f1), (h3, aZ Y 80 f3), (h4, aB Y 1600 f4), (h5, aI Y 200 f13), (h6, aI Y 800 f14)] rfl ?_
    obtain ⟨x3, x4⟩ := hI2
    rcases x4 with e5 | e5
    ·
      refine V_lv [(3, .int (nI (a0.1 0))), (2, .int 0), (0, .ref h0), (1, .int (nI s0))] [0, 1, 2, 3] (by rw [e5]; rfl) ?_
      refine V_iload_n 4 B dX12_clashesReserved_4 0 rfl ?_
      refine V_aload_n 5 B dX12_clashesReserved_5 2 rfl ?_
      refine V_get 6 B gf_RX12_9 0 rfl rfl dX12_clashesReserved_6 ?_
      refine V_iconst 9 B (v := 2) dX12_clashesReserved_9 (by decide +kernel) ?_
      have x6 : (gN f0 2) ≤ 6 := gN_le HI (by omega) (show bd 2 = (0, ((6 : Nat) : Int)) by decide +kernel)
      refine V_iald 10 B (v := (nI (gN f0 2))) 1 rfl (vpin _ _ (by decide +kernel)) dX12_clashesReserved_10 (by show f0 2 = _; exact gN_eq HI (by omega) (show bd 2 = (0, ((6 : Nat) : Int)) by decide +kernel)) ?_
      refine V_icmp_ge 11 B 32 dX12_clashesReserved_11 (by decide) (fun kk7 => ?_) (fun kk7 => ?_)
      ·
        have x8 := n_le (a := (gN f0 2)) (b := (a0.1 0)) kk7 (by omega) (by omega)
        refine V_iload_n 32 B dX12_clashesReserved_32 1 rfl ?_
        exact V_zret 33 B rfl dX12_clashesReserved_33 (mkW [] [] [] [] [] []) (Or.inl rfl) rfl
      ·
        have x9 := n_nle (a := (gN f0 2)) (b := (a0.1 0)) kk7 (by omega) (by omega)
        refine V_iload_n 14 B dX12_clashesReserved_14 1 rfl ?_
        refine V_aload_n 15 B dX12_clashesReserved_15 2 rfl ?_
        refine V_iload_n 16 B dX12_clashesReserved_16 0 rfl ?_
        refine V_csi 17 B (st := [.ref h0, .int 0]) (As := [.int (nI (a0.1 0))]) (fun sz => rX12_reservedAt l D Y (a0.1 0) (by omega) sz) glS_RX12_108 ⟨rfl, rfl⟩ ⟨(Nat.le_of_ble_eq_true rfl), (Nat.le_of_ble_eq_true rfl)⟩ ⟨(Nat.le_of_ble_eq_true rfl), (Nat.le_of_ble_eq_true rfl)⟩ [] rfl rfl (Nat.le_of_ble_eq_true rfl) rfl (fun _ _ _ => rfl) dX12_clashesReserved_17 (fun j10 u11 w12 => ?_)
        refine V_ws [(h0, oC 13 [.ref h1, .ref h2, .int p2, .ref h3, .ref h4, .int (nI k5), .int (nI k6), .int p7, .int p8, .int p9, .int (nI k10), .int p11, .long q12, .ref h5, .ref h6, .int (nI k15), .int (nI k16)]), (h1, aI Y 3640 f0), (h2, aZ Y 2 f1), (h3, aZ Y 80 f3), (h4, aB Y 1600 f4), (h5, aI Y 200 f13), (h6, aI Y 800 f14)] rfl ?_
        have x13 := w12
        clear w12
        obtain rfl := x13
        refine V_iload_n 20 B dX12_clashesReserved_20 3 rfl ?_
        refine V_cvi 21 B (st := [.int 0]) (As := [.int (nI (154 + 5 * (a0.1 0))), .int (nI s0)]) (fun sz => rX12_doClash l D Y h0 h1 h2 h3 h4 h5 h6 p2 k5 k6 p7 p8 p9 k10 p11 q12 k15 k16 f0 f1 f3 f4 f13 f14 HI (by omega) HP (154 + 5 * (a0.1 0)) s0 (rl10 (a0.1 0) (by omega)) hs0 sz) glV_RX12_111 ⟨rfl, rfl⟩ ⟨(Nat.le_of_ble_eq_true rfl), (Nat.le_of_ble_eq_true rfl)⟩ ⟨(Nat.le_of_ble_eq_true rfl), (Nat.le_of_ble_eq_true rfl)⟩ [0, 0, 0, 0, 0, 0, 0] rfl 13 0 rfl rfl rfl rfl (Nat.le_of_ble_eq_true rfl) rfl (fun _ _ _ => rfl) dX12_clashesReserved_21 (fun j14 u15 w16 => ?_)
        refine V_ws [(h0, oC 13 [.ref h1, .ref h2, .int p2, .ref h3, .ref h4, .int (nI k5), .int (nI k6), .int p7, .int p8, .int p9, .int (nI k10), .int p11, .long q12, .ref h5, .ref h6, .int (nI k15), .int (nI k16)]), (h1, aI Y 3640 f0), (h2, aZ Y 2 f1), (h3, aZ Y 80 f3), (h4, aB Y 1600 f4), (h5, aI Y 200 f13), (h6, aI Y 800 f14)] rfl ?_
        have x17 := w16
        clear w16
        rcases x17 with ⟨rfl, x18⟩ | ⟨rfl, x18⟩
        ·
          refine V_ior 24 B (v := 0) dX12_clashesReserved_24 (by decide +kernel) ?_
          refine V_istore_n 25 B (lv2 := [(2, .int 0), (3, .int (nI (a0.1 0))), (0, .ref h0), (1, .int (nI s0))]) dX12_clashesReserved_25 (by decide) rfl ?_
          refine V_iinc 26 B (v := (nI (1 + (a0.1 0)))) (lv2 := [(3, .int (nI (1 + (a0.1 0)))), (2, .int 0), (0, .ref h0), (1, .int (nI s0))]) dX12_clashesReserved_26 1 rfl (nI_addE (a := (a0.1 0)) (b := 1) (by omega)) (by decide) rfl ?_
          refine V_goto 29 B 4 dX12_clashesReserved_29 (by decide) ?_
          refine V_lv [(3, .int (nI (1 + (a0.1 0)))), (2, .int 0), (0, .ref h0), (1, .int (nI s0))] [0, 1, 2, 3] rfl ?_
          exact IH1 (mkW [1 + (a0.1 0)] [0] [] [] [] []) ⟨(show 1 + (a0.1 0) ≤ 6 by omega), (Or.inl rfl)⟩ (by show 100000 - (1 + (a0.1 0)) < 100000 - (a0.1 0); omega)
        ·
          refine V_ior 24 B (v := 1) dX12_clashesReserved_24 (by decide +kernel) ?_
          refine V_istore_n 25 B (lv2 := [(2, .int 1), (3, .int (nI (a0.1 0))), (0, .ref h0), (1, .int (nI s0))]) dX12_clashesReserved_25 (by decide) rfl ?_
          refine V_iinc 26 B (v := (nI (1 + (a0.1 0)))) (lv2 := [(3, .int (nI (1 + (a0.1 0)))), (2, .int 1), (0, .ref h0), (1, .int (nI s0))]) dX12_clashesReserved_26 1 rfl (nI_addE (a := (a0.1 0)) (b := 1) (by omega)) (by decide) rfl ?_
          refine V_goto 29 B 4 dX12_clashesReserved_29 (by decide) ?_
          refine V_lv [(3, .int (nI (1 + (a0.1 0)))), (2, .int 1), (0, .ref h0), (1, .int (nI s0))] [0, 1, 2, 3] rfl ?_
          exact IH1 (mkW [1 + (a0.1 0)] [1] [] [] [] []) ⟨(show 1 + (a0.1 0) ≤ 6 by omega), (Or.inr rfl)⟩ (by show 100000 - (1 + (a0.1 0)) < 100000 - (a0.1 0); omega)
    ·
      refine V_lv [(3, .int (nI (a0.1 0))), (2, .int 1), (0, .ref h0), (1, .int (nI s0))] [0, 1, 2, 3] (by rw [e5]; rfl) ?_
      refine V_iload_n 4 B dX12_clashesReserved_4 0 rfl ?_
      refine V_aload_n 5 B dX12_clashesReserved_5 2 rfl ?_
      refine V_get 6 B gf_RX12_9 0 rfl rfl dX12_clashesReserved_6 ?_
      refine V_iconst 9 B (v := 2) dX12_clashesReserved_9 (by decide +kernel) ?_
      have x19 : (gN f0 2) ≤ 6 := gN_le HI (by omega) (show bd 2 = (0, ((6 : Nat) : Int)) by decide +kernel)
      refine V_iald 10 B (v := (nI (gN f0 2))) 1 rfl (vpin _ _ (by decide +kernel)) dX12_clashesReserved_10 (by show f0 2 = _; exact gN_eq HI (by omega) (show bd 2 = (0, ((6 : Nat) : Int)) by decide +kernel)) ?_
      refine V_icmp_ge 11 B 32 dX12_clashesReserved_11 (by decide) (fun kk20 => ?_) (fun kk20 => ?_)
      ·
        have x21 := n_le (a := (gN f0 2)) (b := (a0.1 0)) kk20 (by omega) (by omega)
        refine V_iload_n 32 B dX12_clashesReserved_32 1 rfl ?_
        exact V_zret 33 B rfl dX12_clashesReserved_33 (mkW [] [] [] [] [] []) (Or.inr rfl) rfl
      ·
        have x22 := n_nle (a := (gN f0 2)) (b := (a0.1 0)) kk20 (by omega) (by omega)
        refine V_iload_n 14 B dX12_clashesReserved_14 1 rfl ?_
        refine V_aload_n 15 B dX12_clashesReserved_15 2 rfl ?_
        refine V_iload_n 16 B dX12_clashesReserved_16 0 rfl ?_
        refine V_csi 17 B (st := [.ref h0, .int 1]) (As := [.int (nI (a0.1 0))]) (fun sz => rX12_reservedAt l D Y (a0.1 0) (by omega) sz) glS_RX12_108 ⟨rfl, rfl⟩ ⟨(Nat.le_of_ble_eq_true rfl), (Nat.le_of_ble_eq_true rfl)⟩ ⟨(Nat.le_of_ble_eq_true rfl), (Nat.le_of_ble_eq_true rfl)⟩ [] rfl rfl (Nat.le_of_ble_eq_true rfl) rfl (fun _ _ _ => rfl) dX12_clashesReserved_17 (fun j23 u24 w25 => ?_)
        refine V_ws [(h0, oC 13 [.ref h1, .ref h2, .int p2, .ref h3, .ref h4, .int (nI k5), .int (nI k6), .int p7, .int p8, .int p9, .int (nI k10), .int p11, .long q12, .ref h5, .ref h6, .int (nI k15), .int (nI k16)]), (h1, aI Y 3640 f0), (h2, aZ Y 2 f1), (h3, aZ Y 80 f3), (h4, aB Y 1600 f4), (h5, aI Y 200 f13), (h6, aI Y 800 f14)] rfl ?_
        have x26 := w25
        clear w25
        obtain rfl := x26
        refine V_iload_n 20 B dX12_clashesReserved_20 3 rfl ?_
        refine V_cvi 21 B (st := [.int 1]) (As := [.int (nI (154 + 5 * (a0.1 0))), .int (nI s0)]) (fun sz => rX12_doClash l D Y h0 h1 h2 h3 h4 h5 h6 p2 k5 k6 p7 p8 p9 k10 p11 q12 k15 k16 f0 f1 f3 f4 f13 f14 HI (by omega) HP (154 + 5 * (a0.1 0)) s0 (rl10 (a0.1 0) (by omega)) hs0 sz) glV_RX12_111 ⟨rfl, rfl⟩ ⟨(Nat.le_of_ble_eq_true rfl), (Nat.le_of_ble_eq_true rfl)⟩ ⟨(Nat.le_of_ble_eq_true rfl), (Nat.le_of_ble_eq_true rfl)⟩ [0, 0, 0, 0, 0, 0, 0] rfl 13 0 rfl rfl rfl rfl (Nat.le_of_ble_eq_true rfl) rfl (fun _ _ _ => rfl) dX12_clashesReserved_21 (fun j27 u28 w29 => ?_)
        refine V_ws [(h0, oC 13 [.ref h1, .ref h2, .int p2, .ref h3, .ref h4, .int (nI k5), .int (nI k6), .int p7, .int p8, .int p9, .int (nI k10), .int p11, .long q12, .ref h5, .ref h6, .int (nI k15), .int (nI k16)]), (h1, aI Y 3640 f0), (h2, aZ Y 2 f1), (h3, aZ Y 80 f3), (h4, aB Y 1600 f4), (h5, aI Y 200 f13), (h6, aI Y 800 f14)] rfl ?_
        have x30 := w29
        clear w29
        rcases x30 with ⟨rfl, x31⟩ | ⟨rfl, x31⟩
        ·
          refine V_ior 24 B (v := 1) dX12_clashesReserved_24 (by decide +kernel) ?_
          refine V_istore_n 25 B (lv2 := [(2, .int 1), (3, .int (nI (a0.1 0))), (0, .ref h0), (1, .int (nI s0))]) dX12_clashesReserved_25 (by decide) rfl ?_
          refine V_iinc 26 B (v := (nI (1 + (a0.1 0)))) (lv2 := [(3, .int (nI (1 + (a0.1 0)))), (2, .int 1), (0, .ref h0), (1, .int (nI s0))]) dX12_clashesReserved_26 1 rfl (nI_addE (a := (a0.1 0)) (b := 1) (by omega)) (by decide) rfl ?_
          refine V_goto 29 B 4 dX12_clashesReserved_29 (by decide) ?_
          refine V_lv [(3, .int (nI (1 + (a0.1 0)))), (2, .int 1), (0, .ref h0), (1, .int (nI s0))] [0, 1, 2, 3] rfl ?_
          exact IH1 (mkW [1 + (a0.1 0)] [1] [] [] [] []) ⟨(show 1 + (a0.1 0) ≤ 6 by omega), (Or.inr rfl)⟩ (by show 100000 - (1 + (a0.1 0)) < 100000 - (a0.1 0); omega)
        ·
          refine V_ior 24 B (v := 1) dX12_clashesReserved_24 (by decide +kernel) ?_
          refine V_istore_n 25 B (lv2 := [(2, .int 1), (3, .int (nI (a0.1 0))), (0, .ref h0), (1, .int (nI s0))]) dX12_clashesReserved_25 (by decide) rfl ?_
          refine V_iinc 26 B (v := (nI (1 + (a0.1 0)))) (lv2 := [(3, .int (nI (1 + (a0.1 0)))), (2, .int 1), (0, .ref h0), (1, .int (nI s0))]) dX12_clashesReserved_26 1 rfl (nI_addE (a := (a0.1 0)) (b := 1) (by omega)) (by decide) rfl ?_
          refine V_goto 29 B 4 dX12_clashesReserved_29 (by decide) ?_
          refine V_lv [(3, .int (nI (1 + (a0.1 0)))), (2, .int 1), (0, .ref h0), (1, .int (nI s0))] [0, 1, 2, 3] rfl ?_
          exact IH1 (mkW [1 + (a0.1 0)] [1] [] [] [] []) ⟨(show 1 + (a0.1 0) ≤ 6 by omega), (Or.inr rfl)⟩ (by show 100000 - (1 + (a0.1 0)) < 100000 - (a0.1 0); omega))
theorem glV_RX12_118 : GLV RX12 118 yX12_clashesReserved RX12 cX12_clashesReserved 4 (some .boolean) 1 := ⟨⟨(mT8 108 rfl rfl), (mT8 110 rfl rfl), (mTs 46 rfl rfl), (mT1 13 rfl rfl), (mT8 111 rfl rfl)⟩, by decide +kernel⟩
theorem dX12_forced_5 : decode cX12_forced 5 = .ok (.ifCond .eq 7, 3) := by decide +kernel
theorem dX12_forced_12 : decode cX12_forced 12 = .ok (.aload_n 0, 1) := by decide +kernel
theorem dX12_forced_13 : decode cX12_forced 13 = .ok (.iload_n 1, 1) := by decide +kernel
theorem dX12_forced_14 : decode cX12_forced 14 = .ok (.iload_n 3, 1) := by decide +kernel
theorem dX12_forced_15 : decode cX12_forced 15 = .ok (.invokevirtual 139, 3) := by decide +kernel
theorem dX12_clashCount_0 : decode cX12_clashCount 0 = .ok (.iconst 0, 1) := by decide +kernel
theorem dX12_clashCount_1 : decode cX12_clashCount 1 = .ok (.istore_n 3, 1) := by decide +kernel
theorem dX12_clashCount_2 : decode cX12_clashCount 2 = .ok (.iconst 0, 1) := by decide +kernel
theorem dX12_clashCount_3 : decode cX12_clashCount 3 = .ok (.istore 4, 2) := by decide +kernel
theorem dX12_clashCount_5 : decode cX12_clashCount 5 = .ok (.iload 4, 2) := by decide +kernel
theorem dX12_clashCount_7 : decode cX12_clashCount 7 = .ok (.aload_n 0, 1) := by decide +kernel
theorem dX12_clashCount_8 : decode cX12_clashCount 8 = .ok (.getfield 9, 3) := by decide +kernel
theorem dX12_clashCount_11 : decode cX12_clashCount 11 = .ok (.iconst 3, 1) := by decide +kernel
theorem dX12_clashCount_12 : decode cX12_clashCount 12 = .ok (.iaload, 1) := by decide +kernel
theorem dX12_clashCount_13 : decode cX12_clashCount 13 = .ok (.if_icmp .ge 40, 3) := by decide +kernel
theorem dX12_clashCount_53 : decode cX12_clashCount 53 = .ok (.iload_n 3, 1) := by decide +kernel
theorem dX12_clashCount_54 : decode cX12_clashCount 54 = .ok (.ireturn, 1) := by decide +kernel
theorem dX12_clashCount_16 : decode cX12_clashCount 16 = .ok (.iload_n 3, 1) := by decide +kernel
theorem dX12_clashCount_17 : decode cX12_clashCount 17 = .ok (.aload_n 0, 1) := by decide +kernel
theorem dX12_clashCount_18 : decode cX12_clashCount 18 = .ok (.iload 4, 2) := by decide +kernel
theorem dX12_clashCount_20 : decode cX12_clashCount 20 = .ok (.invokevirtual 115, 3) := by decide +kernel
theorem dX12_modeOf_0 : decode cX12_modeOf 0 = .ok (.aload_n 0, 1) := by decide +kernel
theorem dX12_modeOf_1 : decode cX12_modeOf 1 = .ok (.getfield 9, 3) := by decide +kernel
theorem dX12_modeOf_4 : decode cX12_modeOf 4 = .ok (.iload_n 1, 1) := by decide +kernel
theorem dX12_modeOf_5 : decode cX12_modeOf 5 = .ok (.invokestatic 79, 3) := by decide +kernel
theorem dX12_modeOf_8 : decode cX12_modeOf 8 = .ok (.iconst 0, 1) := by decide +kernel
theorem dX12_modeOf_9 : decode cX12_modeOf 9 = .ok (.iadd, 1) := by decide +kernel
theorem dX12_modeOf_10 : decode cX12_modeOf 10 = .ok (.iaload, 1) := by decide +kernel
theorem rl11 : ∀ z0, z0 < 80 → bd (184 + 7 * z0) = FREE := by decide +kernel
theorem dX12_modeOf_11 : decode cX12_modeOf 11 = .ok (.ireturn, 1) := by decide +kernel
set_option maxRecDepth 100000 in
set_option maxHeartbeats 4000000 in
theorem rX12_modeOf (l : Launch) (D : va_G) (Y : Nat → ClassId) (h0 : Nat) (h1 : Nat) (h2 : Nat) (h3 : Nat) (h4 : Nat) (h5 : Nat) (h6 : Nat) (p2 : Int32) (k5 : Nat) (k6 : Nat) (p7 : Int32) (p8 : Int32) (p9 : Int32) (k10 : Nat) (p11 : Int32) (q12 : Int64) (k15 : Nat) (k16 : Nat) (f0 : Nat → Int32) (f1 : Nat → Int32) (f3 : Nat → Int32) (f4 : Nat → Int32) (f13 : Nat → Int32) (f14 : Nat → Int32) (HI : INV f0) (HL : k5 ≤ 1600) (HP : PLV f13) (s0 : Nat) (hn0 : s0 < 80) (sz : Nat) : Met l yX12_modeOf (WSm yX12_modeOf cX12_modeOf 2 (some .int)) (mkR 1 0 0 20) (PreC D Y [.ref h0, .int (nI s0)] [(h0, oC 13 [.ref h1, .ref h2, .int p2, .ref h3, .ref h4, .int (nI k5), .int (nI k6), .int p7, .int p8, .int p9, .int (nI k10), .int p11, .long q12, .ref h5, .ref h6, .int (nI k15), .int (nI k16)]), (h1, aI Y 3640 f0), (h2, aZ Y 2 f1), (h3, aZ Y 80 f3), (h4, aB Y 1600 f4), (h5, aI Y 200 f13), (h6, aI Y 800 f14)] sz) (QI D (fun (r : Int32) (u : WU) => r = f0 (184 + 7 * s0)) (fun (u : WU) => [(h0, oC 13 [.ref h1, .ref h2, .int p2, .ref h3, .ref h4, .int (nI k5), .int (nI k6), .int p7, .int p8, .int p9, .int (nI k10), .int p11, .long q12, .ref h5, .ref h6, .int (nI k15), .int (nI k16)]), (h1, aI Y 3640 f0), (h2, aZ Y 2 f1), (h3, aZ Y 80 f3), (h4, aB Y 1600 f4), (h5, aI Y 200 f13), (h6, aI Y 800 f14)]) (va_A [(h0, oC 13 [.ref h1, .ref h2, .int p2, .ref h3, .ref h4, .int (nI k5), .int (nI k6), .int p7, .int p8, .int p9, .int (nI k10), .int p11, .long q12, .ref h5, .ref h6, .int (nI k15), .int (nI k16)]), (h1, aI Y 3640 f0), (h2, aZ Y 2 f1), (h3, aZ Y 80 f3), (h4, aB Y 1600 f4), (h5, aI Y 200 f13), (h6, aI Y 800 f14)] sz)) 0 0 (va_A [(h0, oC 13 [.ref h1, .ref h2, .int p2, .ref h3, .ref h4, .int (nI k5), .int (nI k6), .int p7, .int p8, .int p9, .int (nI k10), .int p11, .long q12, .ref h5, .ref h6, .int (nI k15), .int (nI k16)]), (h1, aI Y 3640 f0), (h2, aZ Y 2 f1), (h3, aZ Y 80 f3), (h4, aB Y 1600 f4), (h5, aI Y 200 f13), (h6, aI Y 800 f14)] sz) :=
  met_of  (by decide +kernel) (Nat.le_of_ble_eq_true rfl) (fun p e s m args below meth c B hin hsz => by
    have B : VB p s m args meth c D Y (va_A [(h0, oC 13 [.ref h1, .ref h2, .int p2, .ref h3, .ref h4, .int (nI k5), .int (nI k6), .int p7, .int p8, .int p9, .int (nI k10), .int p11, .long q12, .ref h5, .ref h6, .int (nI k15), .int (nI k16)]), (h1, aI Y 3640 f0), (h2, aZ Y 2 f1), (h3, aZ Y 80 f3), (h4, aB Y 1600 f4), (h5, aI Y 200 f13), (h6, aI Y 800 f14)] sz) cX12_modeOf 2 RX12 (some .int) := B
    refine V_aload_n 0 B dX12_modeOf_0 0 rfl ?_
    refine V_get 1 B gf_RX12_9 0 rfl rfl dX12_modeOf_1 ?_
    refine V_iload_n 4 B dX12_modeOf_4 1 rfl ?_
    refine V_csi 5 B (st := [.ref h1]) (As := [.int (nI s0)]) (fun sz => rX12_bindingAt l D Y s0 (by omega) sz) glS_RX12_79 ⟨rfl, rfl⟩ ⟨(Nat.le_of_ble_eq_true rfl), (Nat.le_of_ble_eq_true rfl)⟩ ⟨(Nat.le_of_ble_eq_true rfl), (Nat.le_of_ble_eq_true rfl)⟩ [] rfl rfl (Nat.le_of_ble_eq_true rfl) rfl (fun _ _ _ => rfl) dX12_modeOf_5 (fun j0 u1 w2 => ?_)
    refine V_ws [(h0, oC 13 [.ref h1, .ref h2, .int p2, .ref h3, .ref h4, .int (nI k5), .int (nI k6), .int p7, .int p8, .int p9, .int (nI k10), .int p11, .long q12, .ref h5, .ref h6, .int (nI k15), .int (nI k16)]), (h1, aI Y 3640 f0), (h2, aZ Y 2 f1), (h3, aZ Y 80 f3), (h4, aB Y 1600 f4), (h5, aI Y 200 f13), (h6, aI Y 800 f14)] rfl ?_
    have x3 := w2
    clear w2
    obtain rfl := x3
    refine V_iconst 8 B (v := 0) dX12_modeOf_8 (by decide +kernel) ?_
    refine V_iadd 9 B (v := (nI (184 + 7 * s0))) dX12_modeOf_9 (nI_addE (a := 184 + 7 * s0) (b := 0) (by omega)) ?_
    refine V_iald 10 B (v := f0 (184 + 7 * s0)) 1 rfl (vp_in_nI (n := 184 + 7 * s0) (by omega) (by decide)) dX12_modeOf_10 (by rw [nI_clamp (show 184 + 7 * s0 < 2 ^ 31 by omega)]) ?_
    refine V_nmi (fun j4 e5 => ?_)
    exact V_iret 11 B dX12_modeOf_11 (mkW [] [] [] [] [] []) e5 rfl)
theorem glV_RX12_115 : GLV RX12 115 yX12_modeOf RX12 cX12_modeOf 2 (some .int) 1 := ⟨⟨(mT8 74 rfl rfl), (mT8 76 rfl rfl), (mTs 41 rfl rfl), (mT1 13 rfl rfl), (mT8 77 rfl rfl)⟩, by decide +kernel⟩
theorem dX12_clashCount_23 : decode cX12_clashCount 23 = .ok (.iload_n 1, 1) := by decide +kernel
theorem dX12_clashCount_24 : decode cX12_clashCount 24 = .ok (.if_icmp .ne 20, 3) := by decide +kernel
theorem dX12_clashCount_44 : decode cX12_clashCount 44 = .ok (.iconst 0, 1) := by decide +kernel
theorem dX12_clashCount_45 : decode cX12_clashCount 45 = .ok (.iadd, 1) := by decide +kernel
theorem dX12_clashCount_46 : decode cX12_clashCount 46 = .ok (.istore_n 3, 1) := by decide +kernel
theorem dX12_clashCount_47 : decode cX12_clashCount 47 = .ok (.iinc 4 1, 3) := by decide +kernel
theorem dX12_clashCount_50 : decode cX12_clashCount 50 = .ok (.goto (-45), 3) := by decide +kernel
theorem dX12_clashCount_27 : decode cX12_clashCount 27 = .ok (.aload_n 0, 1) := by decide +kernel
theorem dX12_clashCount_28 : decode cX12_clashCount 28 = .ok (.iload 4, 2) := by decide +kernel
theorem dX12_clashCount_30 : decode cX12_clashCount 30 = .ok (.invokestatic 85, 3) := by decide +kernel
theorem dX12_clashCount_33 : decode cX12_clashCount 33 = .ok (.iload_n 2, 1) := by decide +kernel
theorem dX12_clashCount_34 : decode cX12_clashCount 34 = .ok (.invokevirtual 111, 3) := by decide +kernel
theorem rl12 : ∀ z0, z0 < 80 → SQ (186 + 7 * z0) := by unfold SQ; decide +kernel
theorem dX12_clashCount_37 : decode cX12_clashCount 37 = .ok (.ifCond .eq 7, 3) := by decide +kernel
theorem dX12_clashCount_40 : decode cX12_clashCount 40 = .ok (.iconst 1, 1) := by decide +kernel
theorem dX12_clashCount_41 : decode cX12_clashCount 41 = .ok (.goto 4, 3) := by decide +kernel
set_option maxRecDepth 100000 in
set_option maxHeartbeats 4000000 in
theorem rX12_clashCount (l : Launch) (D : va_G) (Y : Nat → ClassId) (h0 : Nat) (h1 : Nat) (h2 : Nat) (h3 : Nat) (h4 : Nat) (h5 : Nat) (h6 : Nat) (p2 : Int32) (k5 : Nat) (k6 : Nat) (p7 : Int32) (p8 : Int32) (p9 : Int32) (k10 : Nat) (p11 : Int32) (q12 : Int64) (k15 : Nat) (k16 : Nat) (f0 : Nat → Int32) (f1 : Nat → Int32) (f3 : Nat → Int32) (f4 : Nat → Int32) (f13 : Nat → Int32) (f14 : Nat → Int32) (HI : INV f0) (HL : k5 ≤ 1600) (HP : PLV f13) (s0 : Int32) (s1 : Nat) (hs1 : SQ s1) (sz : Nat) : Met l yX12_clashCount (WSm yX12_clashCount cX12_clashCount 5 (some .int)) (mkR 3 0 0 66) (PreC D Y [.ref h0, .int s0, .int (nI s1)] [(h0, oC 13 [.ref h1, .ref h2, .int p2, .ref h3, .ref h4, .int (nI k5), .int (nI k6), .int p7, .int p8, .int p9, .int (nI k10), .int p11, .long q12, .ref h5, .ref h6, .int (nI k15), .int (nI k16)]), (h1, aI Y 3640 f0), (h2, aZ Y 2 f1), (h3, aZ Y 80 f3), (h4, aB Y 1600 f4), (h5, aI Y 200 f13), (h6, aI Y 800 f14)] sz) (QI D (fun (r : Int32) (u : WU) => (r = 0 ∨ ∃ b : Nat, b < gN f0 3 ∧ CL f0 s0 b s1)) (fun (u : WU) => [(h0, oC 13 [.ref h1, .ref h2, .int p2, .ref h3, .ref h4, .int (nI k5), .int (nI k6), .int p7, .int p8, .int p9, .int (nI k10), .int p11, .long q12, .ref h5, .ref h6, .int (nI k15), .int (nI k16)]), (h1, aI Y 3640 f0), (h2, aZ Y 2 f1), (h3, aZ Y 80 f3), (h4, aB Y 1600 f4), (h5, aI Y 200 f13), (h6, aI Y 800 f14)]) (va_A [(h0, oC 13 [.ref h1, .ref h2, .int p2, .ref h3, .ref h4, .int (nI k5), .int (nI k6), .int p7, .int p8, .int p9, .int (nI k10), .int p11, .long q12, .ref h5, .ref h6, .int (nI k15), .int (nI k16)]), (h1, aI Y 3640 f0), (h2, aZ Y 2 f1), (h3, aZ Y 80 f3), (h4, aB Y 1600 f4), (h5, aI Y 200 f13), (h6, aI Y 800 f14)] sz)) 0 0 (va_A [(h0, oC 13 [.ref h1, .ref h2, .int p2, .ref h3, .ref h4, .int (nI k5), .int (nI k6), .int p7, .int p8, .int p9, .int (nI k10), .int p11, .long q12, .ref h5, .ref h6, .int (nI k15), .int (nI k16)]), (h1, aI Y 3640 f0), (h2, aZ Y 2 f1), (h3, aZ Y 80 f3), (h4, aB Y 1600 f4), (h5, aI Y 200 f13), (h6, aI Y 800 f14)] sz) :=
  met_of  (by decide +kernel) (Nat.le_of_ble_eq_true rfl) (fun p e s m args below meth c B hin hsz => by
    have B : VB p s m args meth c D Y (va_A [(h0, oC 13 [.ref h1, .ref h2, .int p2, .ref h3, .ref h4, .int (nI k5), .int (nI k6), .int p7, .int p8, .int p9, .int (nI k10), .int p11, .long q12, .ref h5, .ref h6, .int (nI k15), .int (nI k16)]), (h1, aI Y 3640 f0), (h2, aZ Y 2 f1), (h3, aZ Y 80 f3), (h4, aB Y 1600 f4), (h5, aI Y 200 f13), (h6, aI Y 800 f14)] sz) cX12_clashCount 5 RX12 (some .int) := B
    have hq_s1 := hs1.1
    refine V_iconst 0 B (v := 0) dX12_clashCount_0 (by decide +kernel) ?_
    refine V_istore_n 1 B (lv2 := [(3, .int 0), (0, .ref h0), (1, .int s0), (2, .int (nI s1))]) dX12_clashCount_1 (by decide) rfl ?_
    refine V_iconst 2 B (v := 0) dX12_clashCount_2 (by decide +kernel) ?_
    refine V_istore 3 B (lv2 := [(4, .int 0), (3, .int 0), (0, .ref h0), (1, .int s0), (2, .int (nI s1))]) dX12_clashCount_3 (by decide) rfl ?_
    refine V_wloop (α := WU) (fun a => 100000 - (a.1 0)) (fun a => (a.1 0) ≤ 4000 ∧ ((a.2.1 0) = 0 ∨ ∃ b : Nat, b < gN f0 3 ∧ CL f0 s0 b s1)) (fun a => [(4, .int (nI (a.1 0))), (3, .int (a.2.1 0)), (0, .ref h0), (1, .int s0), (2, .int (nI s1))]) (fun a => [(h0, oC 13 [.ref h1, .ref h2, .int p2, .ref h3, .ref h4, .int (nI k5), .int (nI k6), .int p7, .int p8, .int p9, .int (nI k10), .int p11, .long q12, .ref h5, .ref h6, .int (nI k15), .int (nI k16)]), (h1, aI Y 3640 f0), (h2, aZ Y 2 f1), (h3, aZ Y 80 f3), (h4, aB Y 1600 f4), (h5, aI Y 200 f13), (h6, aI Y 800 f14)]) (mkW [0] [0] [] [] [] []) ⟨(show 0 ≤ 4000 by omega), (Or.inl rfl)⟩ rfl rfl (fun a0 hI2 IH1 => ?_)
    refine V_lv [(4, .int (nI (a0.1 0))), (3, .int (a0.2.1 0)), (0, .ref h0), (1, .int s0), (2, .int (nI s1))] [0, 1, 2, 3, 4] rfl ?_
    refine V_ws [(h0, oC 13 [.ref h1, .ref h2, .int p2, .ref h3, .ref h4, .int (nI k5), .int (nI k6), .int p7, .int p8, .int p9, .int (nI k10), .int p11, .long q12, .ref h5, .ref h6, .int (nI k15), .int (nI k16)]), (h1, aI Y 3640 f0), (h2, aZ Y 2 f1), (h3, aZ Y 80 f3), (h4, aB Y 1600 f4), (h5, aI Y 200 f13), (h6, aI Y 800 f14)] rfl ?_
    obtain ⟨x3, x4⟩ := hI2
    refine V_iload 5 B dX12_clashCount_5 0 rfl ?_
    refine V_aload_n 7 B dX12_clashCount_7 2 rfl ?_
    refine V_get 8 B gf_RX12_9 0 rfl rfl dX12_clashCount_8 ?_
    refine V_iconst 11 B (v := 3) dX12_clashCount_11 (by decide +kernel) ?_
    have x5 : (gN f0 3) ≤ 80 := gN_le HI (by omega) (show bd 3 = (0, ((80 : Nat) : Int)) by decide +kernel)
    refine V_iald 12 B (v := (nI (gN f0 3))) 1 rfl (vpin _ _ (by decide +kernel)) dX12_clashCount_12 (by show f0 3 = _; exact gN_eq HI (by omega) (show bd 3 = (0, ((80 : Nat) : Int)) by decide +kernel)) ?_
    refine V_icmp_ge 13 B 53 dX12_clashCount_13 (by decide) (fun kk6 => ?_) (fun kk6 => ?_)
    ·
      have x7 := n_le (a := (gN f0 3)) (b := (a0.1 0)) kk6 (by omega) (by omega)
      refine V_iload_n 53 B dX12_clashCount_53 1 rfl ?_
      exact V_iret 54 B dX12_clashCount_54 (mkW [] [] [] [] [] []) x4 rfl
    ·
      have x8 := n_nle (a := (gN f0 3)) (b := (a0.1 0)) kk6 (by omega) (by omega)
      refine V_iload_n 16 B dX12_clashCount_16 1 rfl ?_
      refine V_aload_n 17 B dX12_clashCount_17 2 rfl ?_
      refine V_iload 18 B dX12_clashCount_18 0 rfl ?_
      refine V_cvi 20 B (st := [.int (a0.2.1 0)]) (As := [.int (nI (a0.1 0))]) (fun sz => rX12_modeOf l D Y h0 h1 h2 h3 h4 h5 h6 p2 k5 k6 p7 p8 p9 k10 p11 q12 k15 k16 f0 f1 f3 f4 f13 f14 HI (by omega) HP (a0.1 0) (by omega) sz) glV_RX12_115 ⟨rfl, rfl⟩ ⟨(Nat.le_of_ble_eq_true rfl), (Nat.le_of_ble_eq_true rfl)⟩ ⟨(Nat.le_of_ble_eq_true rfl), (Nat.le_of_ble_eq_true rfl)⟩ [0, 0, 0, 0, 0, 0, 0] rfl 13 0 rfl rfl rfl rfl (Nat.le_of_ble_eq_true rfl) rfl (fun _ _ _ => rfl) dX12_clashCount_20 (fun j9 u10 w11 => ?_)
      refine V_ws [(h0, oC 13 [.ref h1, .ref h2, .int p2, .ref h3, .ref h4, .int (nI k5), .int (nI k6), .int p7, .int p8, .int p9, .int (nI k10), .int p11, .long q12, .ref h5, .ref h6, .int (nI k15), .int (nI k16)]), (h1, aI Y 3640 f0), (h2, aZ Y 2 f1), (h3, aZ Y 80 f3), (h4, aB Y 1600 f4), (h5, aI Y 200 f13), (h6, aI Y 800 f14)] rfl ?_
      have x12 := w11
      clear w11
      refine V_iload_n 23 B dX12_clashCount_23 3 rfl ?_
      refine V_icmp_ne 24 B 44 dX12_clashCount_24 (by decide) (fun kk13 => ?_) (fun kk13 => ?_)
      ·
        have x14 := x_ne kk13
        refine V_iconst 44 B (v := 0) dX12_clashCount_44 (by decide +kernel) ?_
        refine V_iadd 45 B (v := (a0.2.1 0)) dX12_clashCount_45 (Int32.add_zero _) ?_
        refine V_istore_n 46 B (lv2 := [(3, .int (a0.2.1 0)), (4, .int (nI (a0.1 0))), (0, .ref h0), (1, .int s0), (2, .int (nI s1))]) dX12_clashCount_46 (by decide) rfl ?_
        refine V_iinc 47 B (v := (nI (1 + (a0.1 0)))) (lv2 := [(4, .int (nI (1 + (a0.1 0)))), (3, .int (a0.2.1 0)), (0, .ref h0), (1, .int s0), (2, .int (nI s1))]) dX12_clashCount_47 1 rfl (nI_addE (a := (a0.1 0)) (b := 1) (by omega)) (by decide) rfl ?_
        refine V_goto 50 B 5 dX12_clashCount_50 (by decide) ?_
        refine V_lv [(4, .int (nI (1 + (a0.1 0)))), (3, .int (a0.2.1 0)), (0, .ref h0), (1, .int s0), (2, .int (nI s1))] [0, 1, 2, 3, 4] rfl ?_
        exact IH1 (mkW [1 + (a0.1 0)] [(a0.2.1 0)] [] [] [] []) ⟨(show 1 + (a0.1 0) ≤ 4000 by omega), x4⟩ (by show 100000 - (1 + (a0.1 0)) < 100000 - (a0.1 0); omega)
      ·
        have x15 := x_eq kk13
        refine V_aload_n 27 B dX12_clashCount_27 2 rfl ?_
        refine V_iload 28 B dX12_clashCount_28 0 rfl ?_
        refine V_csi 30 B (st := [.ref h0, .int (a0.2.1 0)]) (As := [.int (nI (a0.1 0))]) (fun sz => rX12_sequenceOf l D Y (a0.1 0) (by omega) sz) glS_RX12_85 ⟨rfl, rfl⟩ ⟨(Nat.le_of_ble_eq_true rfl), (Nat.le_of_ble_eq_true rfl)⟩ ⟨(Nat.le_of_ble_eq_true rfl), (Nat.le_of_ble_eq_true rfl)⟩ [] rfl rfl (Nat.le_of_ble_eq_true rfl) rfl (fun _ _ _ => rfl) dX12_clashCount_30 (fun j16 u17 w18 => ?_)
        refine V_ws [(h0, oC 13 [.ref h1, .ref h2, .int p2, .ref h3, .ref h4, .int (nI k5), .int (nI k6), .int p7, .int p8, .int p9, .int (nI k10), .int p11, .long q12, .ref h5, .ref h6, .int (nI k15), .int (nI k16)]), (h1, aI Y 3640 f0), (h2, aZ Y 2 f1), (h3, aZ Y 80 f3), (h4, aB Y 1600 f4), (h5, aI Y 200 f13), (h6, aI Y 800 f14)] rfl ?_
        have x19 := w18
        clear w18
        obtain rfl := x19
        refine V_iload_n 33 B dX12_clashCount_33 4 rfl ?_
        refine V_cvi 34 B (st := [.int (a0.2.1 0)]) (As := [.int (nI (186 + 7 * (a0.1 0))), .int (nI s1)]) (fun sz => rX12_doClash l D Y h0 h1 h2 h3 h4 h5 h6 p2 k5 k6 p7 p8 p9 k10 p11 q12 k15 k16 f0 f1 f3 f4 f13 f14 HI (by omega) HP (186 + 7 * (a0.1 0)) s1 (rl12 (a0.1 0) (by omega)) hs1 sz) glV_RX12_111 ⟨rfl, rfl⟩ ⟨(Nat.le_of_ble_eq_true rfl), (Nat.le_of_ble_eq_true rfl)⟩ ⟨(Nat.le_of_ble_eq_true rfl), (Nat.le_of_ble_eq_true rfl)⟩ [0, 0, 0, 0, 0, 0, 0] rfl 13 0 rfl rfl rfl rfl (Nat.le_of_ble_eq_true rfl) rfl (fun _ _ _ => rfl) dX12_clashCount_34 (fun j20 u21 w22 => ?_)
        refine V_ws [(h0, oC 13 [.ref h1, .ref h2, .int p2, .ref h3, .ref h4, .int (nI k5), .int (nI k6), .int p7, .int p8, .int p9, .int (nI k10), .int p11, .long q12, .ref h5, .ref h6, .int (nI k15), .int (nI k16)]), (h1, aI Y 3640 f0), (h2, aZ Y 2 f1), (h3, aZ Y 80 f3), (h4, aB Y 1600 f4), (h5, aI Y 200 f13), (h6, aI Y 800 f14)] rfl ?_
        have x23 := w22
        clear w22
        rcases x23 with ⟨rfl, x24⟩ | ⟨rfl, x24⟩
        ·
          refine V_if_eq_t 37 B 44 dX12_clashCount_37 (by decide) (by decide +kernel) ?_
          refine V_iconst 44 B (v := 0) dX12_clashCount_44 (by decide +kernel) ?_
          refine V_iadd 45 B (v := (a0.2.1 0)) dX12_clashCount_45 (Int32.add_zero _) ?_
          refine V_istore_n 46 B (lv2 := [(3, .int (a0.2.1 0)), (4, .int (nI (a0.1 0))), (0, .ref h0), (1, .int s0), (2, .int (nI s1))]) dX12_clashCount_46 (by decide) rfl ?_
          refine V_iinc 47 B (v := (nI (1 + (a0.1 0)))) (lv2 := [(4, .int (nI (1 + (a0.1 0)))), (3, .int (a0.2.1 0)), (0, .ref h0), (1, .int s0), (2, .int (nI s1))]) dX12_clashCount_47 1 rfl (nI_addE (a := (a0.1 0)) (b := 1) (by omega)) (by decide) rfl ?_
          refine V_goto 50 B 5 dX12_clashCount_50 (by decide) ?_
          refine V_lv [(4, .int (nI (1 + (a0.1 0)))), (3, .int (a0.2.1 0)), (0, .ref h0), (1, .int s0), (2, .int (nI s1))] [0, 1, 2, 3, 4] rfl ?_
          exact IH1 (mkW [1 + (a0.1 0)] [(a0.2.1 0)] [] [] [] []) ⟨(show 1 + (a0.1 0) ≤ 4000 by omega), x4⟩ (by show 100000 - (1 + (a0.1 0)) < 100000 - (a0.1 0); omega)
        ·
          refine V_if_eq_f 37 B 44 dX12_clashCount_37 (by decide) (by decide +kernel) ?_
          refine V_iconst 40 B (v := 1) dX12_clashCount_40 (by decide +kernel) ?_
          refine V_goto 41 B 45 dX12_clashCount_41 (by decide) ?_
          refine V_iadd 45 B dX12_clashCount_45 rfl ?_
          refine V_nmi (fun j25 e26 => ?_)
          refine V_istore_n 46 B (lv2 := [(3, .int j25), (4, .int (nI (a0.1 0))), (0, .ref h0), (1, .int s0), (2, .int (nI s1))]) dX12_clashCount_46 (by decide) rfl ?_
          refine V_iinc 47 B (v := (nI (1 + (a0.1 0)))) (lv2 := [(4, .int (nI (1 + (a0.1 0)))), (3, .int j25), (0, .ref h0), (1, .int s0), (2, .int (nI s1))]) dX12_clashCount_47 1 rfl (nI_addE (a := (a0.1 0)) (b := 1) (by omega)) (by decide) rfl ?_
          refine V_goto 50 B 5 dX12_clashCount_50 (by decide) ?_
          refine V_lv [(4, .int (nI (1 + (a0.1 0)))), (3, .int j25), (0, .ref h0), (1, .int s0), (2, .int (nI s1))] [0, 1, 2, 3, 4] rfl ?_
          exact IH1 (mkW [1 + (a0.1 0)] [j25] [] [] [] []) ⟨(show 1 + (a0.1 0) ≤ 4000 by omega), (Or.inr ⟨(a0.1 0), by omega, Or.inr (by rw [← x12]; exact kk13), x24⟩)⟩ (by show 100000 - (1 + (a0.1 0)) < 100000 - (a0.1 0); omega))
theorem glV_RX12_139 : GLV RX12 139 yX12_clashCount RX12 cX12_clashCount 5 (some .int) 2 := ⟨⟨(mT8 124 rfl rfl), (mT8 126 rfl rfl), (mTs 49 rfl rfl), (mT1 13 rfl rfl), (mT8 127 rfl rfl)⟩, by decide +kernel⟩
theorem dX12_forced_18 : decode cX12_forced 18 = .ok (.istore 4, 2) := by decide +kernel
theorem dX12_forced_20 : decode cX12_forced 20 = .ok (.aload_n 0, 1) := by decide +kernel
theorem dX12_forced_21 : decode cX12_forced 21 = .ok (.getfield 9, 3) := by decide +kernel
theorem dX12_forced_24 : decode cX12_forced 24 = .ok (.iconst 3, 1) := by decide +kernel
theorem dX12_forced_25 : decode cX12_forced 25 = .ok (.iaload, 1) := by decide +kernel
theorem dX12_forced_26 : decode cX12_forced 26 = .ok (.iload 4, 2) := by decide +kernel
theorem dX12_forced_28 : decode cX12_forced 28 = .ok (.isub, 1) := by decide +kernel
theorem dX12_forced_29 : decode cX12_forced 29 = .ok (.bipush 80, 2) := by decide +kernel
theorem dX12_forced_31 : decode cX12_forced 31 = .ok (.if_icmp .ne 6, 3) := by decide +kernel
theorem dX12_forced_37 : decode cX12_forced 37 = .ok (.aload_n 0, 1) := by decide +kernel
theorem dX12_forced_38 : decode cX12_forced 38 = .ok (.iload_n 1, 1) := by decide +kernel
theorem dX12_forced_39 : decode cX12_forced 39 = .ok (.iload_n 3, 1) := by decide +kernel
theorem dX12_forced_40 : decode cX12_forced 40 = .ok (.iconst (-1), 1) := by decide +kernel
theorem dX12_forced_41 : decode cX12_forced 41 = .ok (.invokevirtual 121, 3) := by decide +kernel
theorem dX12_clashIn_0 : decode cX12_clashIn 0 = .ok (.iconst 0, 1) := by decide +kernel
theorem dX12_clashIn_1 : decode cX12_clashIn 1 = .ok (.istore 4, 2) := by decide +kernel
theorem dX12_clashIn_3 : decode cX12_clashIn 3 = .ok (.iload 4, 2) := by decide +kernel
theorem dX12_clashIn_5 : decode cX12_clashIn 5 = .ok (.aload_n 0, 1) := by decide +kernel
theorem dX12_clashIn_6 : decode cX12_clashIn 6 = .ok (.getfield 9, 3) := by decide +kernel
theorem dX12_clashIn_9 : decode cX12_clashIn 9 = .ok (.iconst 3, 1) := by decide +kernel
theorem dX12_clashIn_10 : decode cX12_clashIn 10 = .ok (.iaload, 1) := by decide +kernel
theorem dX12_clashIn_11 : decode cX12_clashIn 11 = .ok (.if_icmp .ge 46, 3) := by decide +kernel
theorem dX12_clashIn_57 : decode cX12_clashIn 57 = .ok (.iconst (-1), 1) := by decide +kernel
theorem dX12_clashIn_58 : decode cX12_clashIn 58 = .ok (.ireturn, 1) := by decide +kernel
theorem dX12_clashIn_14 : decode cX12_clashIn 14 = .ok (.iload 4, 2) := by decide +kernel
theorem dX12_clashIn_16 : decode cX12_clashIn 16 = .ok (.iload_n 3, 1) := by decide +kernel
theorem dX12_clashIn_17 : decode cX12_clashIn 17 = .ok (.if_icmp .eq 34, 3) := by decide +kernel
theorem dX12_clashIn_51 : decode cX12_clashIn 51 = .ok (.iinc 4 1, 3) := by decide +kernel
theorem dX12_clashIn_54 : decode cX12_clashIn 54 = .ok (.goto (-51), 3) := by decide +kernel
theorem dX12_clashIn_20 : decode cX12_clashIn 20 = .ok (.iload_n 1, 1) := by decide +kernel
theorem dX12_clashIn_21 : decode cX12_clashIn 21 = .ok (.iconst (-1), 1) := by decide +kernel
theorem dX12_clashIn_22 : decode cX12_clashIn 22 = .ok (.if_icmp .eq 13, 3) := by decide +kernel
theorem dX12_clashIn_35 : decode cX12_clashIn 35 = .ok (.aload_n 0, 1) := by decide +kernel
theorem dX12_clashIn_36 : decode cX12_clashIn 36 = .ok (.iload 4, 2) := by decide +kernel
theorem dX12_clashIn_38 : decode cX12_clashIn 38 = .ok (.invokestatic 85, 3) := by decide +kernel
theorem dX12_clashIn_41 : decode cX12_clashIn 41 = .ok (.iload_n 2, 1) := by decide +kernel
theorem dX12_clashIn_42 : decode cX12_clashIn 42 = .ok (.invokevirtual 111, 3) := by decide +kernel
theorem dX12_clashIn_45 : decode cX12_clashIn 45 = .ok (.ifCond .eq 6, 3) := by decide +kernel
theorem dX12_clashIn_48 : decode cX12_clashIn 48 = .ok (.iload 4, 2) := by decide +kernel
theorem dX12_clashIn_50 : decode cX12_clashIn 50 = .ok (.ireturn, 1) := by decide +kernel
theorem dX12_clashIn_25 : decode cX12_clashIn 25 = .ok (.aload_n 0, 1) := by decide +kernel
theorem dX12_clashIn_26 : decode cX12_clashIn 26 = .ok (.iload 4, 2) := by decide +kernel
theorem dX12_clashIn_28 : decode cX12_clashIn 28 = .ok (.invokevirtual 115, 3) := by decide +kernel
theorem dX12_clashIn_31 : decode cX12_clashIn 31 = .ok (.iload_n 1, 1) := by decide +kernel
theorem dX12_clashIn_32 : decode cX12_clashIn 32 = .ok (.if_icmp .ne 19, 3) := by decide +kernel
set_option maxRecDepth 100000 in
set_option maxHeartbeats 4000000 in
theorem rX12_clashIn (l : Launch) (D : va_G) (Y : Nat → ClassId) (h0 : Nat) (h1 : Nat) (h2 : Nat) (h3 : Nat) (h4 : Nat) (h5 : Nat) (h6 : Nat) (p2 : Int32) (k5 : Nat) (k6 : Nat) (p7 : Int32) (p8 : Int32) (p9 : Int32) (k10 : Nat) (p11 : Int32) (q12 : Int64) (k15 : Nat) (k16 : Nat) (f0 : Nat → Int32) (f1 : Nat → Int32) (f3 : Nat → Int32) (f4 : Nat → Int32) (f13 : Nat → Int32) (f14 : Nat → Int32) (HI : INV f0) (HL : k5 ≤ 1600) (HP : PLV f13) (s0 : Int32) (s1 : Nat) (s2 : Int32) (hs1 : SQ s1) (sz : Nat) : Met l yX12_clashIn (WSm yX12_clashIn cX12_clashIn 5 (some .int)) (mkR 3 0 0 66) (PreC D Y [.ref h0, .int s0, .int (nI s1), .int s2] [(h0, oC 13 [.ref h1, .ref h2, .int p2, .ref h3, .ref h4, .int (nI k5), .int (nI k6), .int p7, .int p8, .int p9, .int (nI k10), .int p11, .long q12, .ref h5, .ref h6, .int (nI k15), .int (nI k16)]), (h1, aI Y 3640 f0), (h2, aZ Y 2 f1), (h3, aZ Y 80 f3), (h4, aB Y 1600 f4), (h5, aI Y 200 f13), (h6, aI Y 800 f14)] sz) (QI D (fun (r : Int32) (u : WU) => ((r = -1 ∧ CLI f0 s0 s2 (gN f0 3) s1) ∨ ∃ b : Nat, r = nI b ∧ b < gN f0 3 ∧ CL f0 s0 b s1)) (fun (u : WU) => [(h0, oC 13 [.ref h1, .ref h2, .int p2, .ref h3, .ref h4, .int (nI k5), .int (nI k6), .int p7, .int p8, .int p9, .int (nI k10), .int p11, .long q12, .ref h5, .ref h6, .int (nI k15), .int (nI k16)]), (h1, aI Y 3640 f0), (h2, aZ Y 2 f1), (h3, aZ Y 80 f3), (h4, aB Y 1600 f4), (h5, aI Y 200 f13), (h6, aI Y 800 f14)]) (va_A [(h0, oC 13 [.ref h1, .ref h2, .int p2, .ref h3, .ref h4, .int (nI k5), .int (nI k6), .int p7, .int p8, .int p9, .int (nI k10), .int p11, .long q12, .ref h5, .ref h6, .int (nI k15), .int (nI k16)]), (h1, aI Y 3640 f0), (h2, aZ Y 2 f1), (h3, aZ Y 80 f3), (h4, aB Y 1600 f4), (h5, aI Y 200 f13), (h6, aI Y 800 f14)] sz)) 0 0 (va_A [(h0, oC 13 [.ref h1, .ref h2, .int p2, .ref h3, .ref h4, .int (nI k5), .int (nI k6), .int p7, .int p8, .int p9, .int (nI k10), .int p11, .long q12, .ref h5, .ref h6, .int (nI k15), .int (nI k16)]), (h1, aI Y 3640 f0), (h2, aZ Y 2 f1), (h3, aZ Y 80 f3), (h4, aB Y 1600 f4), (h5, aI Y 200 f13), (h6, aI Y 800 f14)] sz) :=
  met_of  (by decide +kernel) (Nat.le_of_ble_eq_true rfl) (fun p e s m args below meth c B hin hsz => by
    have B : VB p s m args meth c D Y (va_A [(h0, oC 13 [.ref h1, .ref h2, .int p2, .ref h3, .ref h4, .int (nI k5), .int (nI k6), .int p7, .int p8, .int p9, .int (nI k10), .int p11, .long q12, .ref h5, .ref h6, .int (nI k15), .int (nI k16)]), (h1, aI Y 3640 f0), (h2, aZ Y 2 f1), (h3, aZ Y 80 f3), (h4, aB Y 1600 f4), (h5, aI Y 200 f13), (h6, aI Y 800 f14)] sz) cX12_clashIn 5 RX12 (some .int) := B
    have hq_s1 := hs1.1
    refine V_iconst 0 B (v := 0) dX12_clashIn_0 (by decide +kernel) ?_
    refine V_istore 1 B (lv2 := [(4, .int 0), (0, .ref h0), (1, .int s0), (2, .int (nI s1)), (3, .int s2)]) dX12_clashIn_1 (by decide) rfl ?_
    refine V_wloop (α := WU) (fun a => 100000 - (a.1 0)) (fun a => (a.1 0) ≤ 80 ∧ CLI f0 s0 s2 (a.1 0) s1) (fun a => [(4, .int (nI (a.1 0))), (0, .ref h0), (1, .int s0), (2, .int (nI s1)), (3, .int s2)]) (fun a => [(h0, oC 13 [.ref h1, .ref h2, .int p2, .ref h3, .ref h4, .int (nI k5), .int (nI k6), .int p7, .int p8, .int p9, .int (nI k10), .int p11, .long q12, .ref h5, .ref h6, .int (nI k15), .int (nI k16)]), (h1, aI Y 3640 f0), (h2, aZ Y 2 f1), (h3, aZ Y 80 f3), (h4, aB Y 1600 f4), (h5, aI Y 200 f13), (h6, aI Y 800 f14)]) (mkW [0] [] [] [] [] []) ⟨(show 0 ≤ 80 by omega), (fun _ _ h => absurd h (Nat.not_lt_zero _))⟩ rfl rfl (fun a0 hI2 IH1 => ?_)
    refine V_lv [(4, .int (nI (a0.1 0))), (0, .ref h0), (1, .int s0), (2, .int (nI s1)), (3, .int s2)] [0, 1, 2, 3, 4] rfl ?_
    refine V_ws [(h0, oC 13 [.ref h1, .ref h2, .int p2, .ref h3, .ref h4, .int (nI k5), .int (nI k6), .int p7, .int p8, .int p9, .int (nI k10), .int p11, .long q12, .ref h5, .ref h6, .int (nI k15), .int (nI k16)]), (h1, aI Y 3640 f0), (h2, aZ Y 2 f1), (h3, aZ Y 80 f3), (h4, aB Y 1600 f4), (h5, aI Y 200 f13), (h6, aI Y 800 f14)] rfl ?_
    obtain ⟨x3, x4⟩ := hI2
    refine V_iload 3 B dX12_clashIn_3 0 rfl ?_
    refine V_aload_n 5 B dX12_clashIn_5 1 rfl ?_
    refine V_get 6 B gf_RX12_9 0 rfl rfl dX12_clashIn_6 ?_
    refine V_iconst 9 B (v := 3) dX12_clashIn_9 (by decide +kernel) ?_
    have x5 : (gN f0 3) ≤ 80 := gN_le HI (by omega) (show bd 3 = (0, ((80 : Nat) : Int)) by decide +kernel)
    refine V_iald 10 B (v := (nI (gN f0 3))) 1 rfl (vpin _ _ (by decide +kernel)) dX12_clashIn_10 (by show f0 3 = _; exact gN_eq HI (by omega) (show bd 3 = (0, ((80 : Nat) : Int)) by decide +kernel)) ?_
    refine V_icmp_ge 11 B 57 dX12_clashIn_11 (by decide) (fun kk6 => ?_) (fun kk6 => ?_)
    ·
      have x7 := n_le (a := (gN f0 3)) (b := (a0.1 0)) kk6 (by omega) (by omega)
      refine V_iconst 57 B (v := (-1)) dX12_clashIn_57 (by decide +kernel) ?_
      exact V_iret 58 B dX12_clashIn_58 (mkW [] [] [] [] [] []) (Or.inl ⟨rfl, fun e b h => x4 e b (by omega)⟩) rfl
    ·
      have x8 := n_nle (a := (gN f0 3)) (b := (a0.1 0)) kk6 (by omega) (by omega)
      refine V_iload 14 B dX12_clashIn_14 0 rfl ?_
      refine V_iload_n 16 B dX12_clashIn_16 4 rfl ?_
      refine V_icmp_eq 17 B 51 dX12_clashIn_17 (by decide) (fun kk9 => ?_) (fun kk9 => ?_)
      ·
        have x10 := x_eq kk9
        rw [nI_toInt (show (a0.1 0) < 2 ^ 31 by omega)] at x10
        refine V_iinc 51 B (v := (nI (1 + (a0.1 0)))) (lv2 := [(4, .int (nI (1 + (a0.1 0)))), (0, .ref h0), (1, .int s0), (2, .int (nI s1)), (3, .int s2)]) dX12_clashIn_51 0 rfl (nI_addE (a := (a0.1 0)) (b := 1) (by omega)) (by decide) rfl ?_
        refine V_goto 54 B 3 dX12_clashIn_54 (by decide) ?_
        refine V_lv [(4, .int (nI (1 + (a0.1 0)))), (0, .ref h0), (1, .int s0), (2, .int (nI s1)), (3, .int s2)] [0, 1, 2, 3, 4] rfl ?_
        exact IH1 (mkW [1 + (a0.1 0)] [] [] [] [] []) ⟨(show 1 + (a0.1 0) ≤ 80 by omega), (cl_but x4 kk9 (by omega))⟩ (by show 100000 - (1 + (a0.1 0)) < 100000 - (a0.1 0); omega)
      ·
        have x11 := x_ne kk9
        rw [nI_toInt (show (a0.1 0) < 2 ^ 31 by omega)] at x11
        refine V_iload_n 20 B dX12_clashIn_20 2 rfl ?_
        refine V_iconst 21 B (v := (-1)) dX12_clashIn_21 (by decide +kernel) ?_
        refine V_icmp_eq 22 B 35 dX12_clashIn_22 (by decide) (fun kk12 => ?_) (fun kk12 => ?_)
        ·
          obtain rfl : s0 = (-1) := kk12
          have e14 : ((-1) : Int32).toInt = (-1) := by decide +kernel
          refine V_aload_n 35 B dX12_clashIn_35 1 rfl ?_
          refine V_iload 36 B dX12_clashIn_36 0 rfl ?_
          refine V_csi 38 B (st := [.ref h0]) (As := [.int (nI (a0.1 0))]) (fun sz => rX12_sequenceOf l D Y (a0.1 0) (by omega) sz) glS_RX12_85 ⟨rfl, rfl⟩ ⟨(Nat.le_of_ble_eq_true rfl), (Nat.le_of_ble_eq_true rfl)⟩ ⟨(Nat.le_of_ble_eq_true rfl), (Nat.le_of_ble_eq_true rfl)⟩ [] rfl rfl (Nat.le_of_ble_eq_true rfl) rfl (fun _ _ _ => rfl) dX12_clashIn_38 (fun j15 u16 w17 => ?_)
          refine V_ws [(h0, oC 13 [.ref h1, .ref h2, .int p2, .ref h3, .ref h4, .int (nI k5), .int (nI k6), .int p7, .int p8, .int p9, .int (nI k10), .int p11, .long q12, .ref h5, .ref h6, .int (nI k15), .int (nI k16)]), (h1, aI Y 3640 f0), (h2, aZ Y 2 f1), (h3, aZ Y 80 f3), (h4, aB Y 1600 f4), (h5, aI Y 200 f13), (h6, aI Y 800 f14)] rfl ?_
          have x18 := w17
          clear w17
          obtain rfl := x18
          refine V_iload_n 41 B dX12_clashIn_41 3 rfl ?_
          refine V_cvi 42 B (st := []) (As := [.int (nI (186 + 7 * (a0.1 0))), .int (nI s1)]) (fun sz => rX12_doClash l D Y h0 h1 h2 h3 h4 h5 h6 p2 k5 k6 p7 p8 p9 k10 p11 q12 k15 k16 f0 f1 f3 f4 f13 f14 HI (by omega) HP (186 + 7 * (a0.1 0)) s1 (rl12 (a0.1 0) (by omega)) hs1 sz) glV_RX12_111 ⟨rfl, rfl⟩ ⟨(Nat.le_of_ble_eq_true rfl), (Nat.le_of_ble_eq_true rfl)⟩ ⟨(Nat.le_of_ble_eq_true rfl), (Nat.le_of_ble_eq_true rfl)⟩ [0, 0, 0, 0, 0, 0, 0] rfl 13 0 rfl rfl rfl rfl (Nat.le_of_ble_eq_true rfl) rfl (fun _ _ _ => rfl) dX12_clashIn_42 (fun j19 u20 w21 => ?_)
          refine V_ws [(h0, oC 13 [.ref h1, .ref h2, .int p2, .ref h3, .ref h4, .int (nI k5), .int (nI k6), .int p7, .int p8, .int p9, .int (nI k10), .int p11, .long q12, .ref h5, .ref h6, .int (nI k15), .int (nI k16)]), (h1, aI Y 3640 f0), (h2, aZ Y 2 f1), (h3, aZ Y 80 f3), (h4, aB Y 1600 f4), (h5, aI Y 200 f13), (h6, aI Y 800 f14)] rfl ?_
          have x22 := w21
          clear w21
          rcases x22 with ⟨rfl, x23⟩ | ⟨rfl, x23⟩
          ·
            refine V_if_eq_t 45 B 51 dX12_clashIn_45 (by decide) (by decide +kernel) ?_
            refine V_iinc 51 B (v := (nI (1 + (a0.1 0)))) (lv2 := [(4, .int (nI (1 + (a0.1 0)))), (0, .ref h0), (1, .int (-1)), (2, .int (nI s1)), (3, .int s2)]) dX12_clashIn_51 0 rfl (nI_addE (a := (a0.1 0)) (b := 1) (by omega)) (by decide) rfl ?_
            refine V_goto 54 B 3 dX12_clashIn_54 (by decide) ?_
            refine V_lv [(4, .int (nI (1 + (a0.1 0)))), (0, .ref h0), (1, .int (-1)), (2, .int (nI s1)), (3, .int s2)] [0, 1, 2, 3, 4] rfl ?_
            exact IH1 (mkW [1 + (a0.1 0)] [] [] [] [] []) ⟨(show 1 + (a0.1 0) ≤ 80 by omega), (cl_dc x4 x23)⟩ (by show 100000 - (1 + (a0.1 0)) < 100000 - (a0.1 0); omega)
          ·
            refine V_if_eq_f 45 B 51 dX12_clashIn_45 (by decide) (by decide +kernel) ?_
            refine V_iload 48 B dX12_clashIn_48 0 rfl ?_
            exact V_iret 50 B dX12_clashIn_50 (mkW [] [] [] [] [] []) (Or.inr ⟨(a0.1 0), rfl, by omega, Or.inl rfl, x23⟩) rfl
        ·
          have x24 := x_ne kk12
          rw [show ((-1) : Int32).toInt = (-1) by decide +kernel] at x24
          refine V_aload_n 25 B dX12_clashIn_25 1 rfl ?_
          refine V_iload 26 B dX12_clashIn_26 0 rfl ?_
          refine V_cvi 28 B (st := []) (As := [.int (nI (a0.1 0))]) (fun sz => rX12_modeOf l D Y h0 h1 h2 h3 h4 h5 h6 p2 k5 k6 p7 p8 p9 k10 p11 q12 k15 k16 f0 f1 f3 f4 f13 f14 HI (by omega) HP (a0.1 0) (by omega) sz) glV_RX12_115 ⟨rfl, rfl⟩ ⟨(Nat.le_of_ble_eq_true rfl), (Nat.le_of_ble_eq_true rfl)⟩ ⟨(Nat.le_of_ble_eq_true rfl), (Nat.le_of_ble_eq_true rfl)⟩ [0, 0, 0, 0, 0, 0, 0] rfl 13 0 rfl rfl rfl rfl (Nat.le_of_ble_eq_true rfl) rfl (fun _ _ _ => rfl) dX12_clashIn_28 (fun j25 u26 w27 => ?_)
          refine V_ws [(h0, oC 13 [.ref h1, .ref h2, .int p2, .ref h3, .ref h4, .int (nI k5), .int (nI k6), .int p7, .int p8, .int p9, .int (nI k10), .int p11, .long q12, .ref h5, .ref h6, .int (nI k15), .int (nI k16)]), (h1, aI Y 3640 f0), (h2, aZ Y 2 f1), (h3, aZ Y 80 f3), (h4, aB Y 1600 f4), (h5, aI Y 200 f13), (h6, aI Y 800 f14)] rfl ?_
          have x28 := w27
          clear w27
          refine V_iload_n 31 B dX12_clashIn_31 2 rfl ?_
          refine V_icmp_ne 32 B 51 dX12_clashIn_32 (by decide) (fun kk29 => ?_) (fun kk29 => ?_)
          ·
            have x30 := x_ne kk29
            refine V_iinc 51 B (v := (nI (1 + (a0.1 0)))) (lv2 := [(4, .int (nI (1 + (a0.1 0)))), (0, .ref h0), (1, .int s0), (2, .int (nI s1)), (3, .int s2)]) dX12_clashIn_51 0 rfl (nI_addE (a := (a0.1 0)) (b := 1) (by omega)) (by decide) rfl ?_
            refine V_goto 54 B 3 dX12_clashIn_54 (by decide) ?_
            refine V_lv [(4, .int (nI (1 + (a0.1 0)))), (0, .ref h0), (1, .int s0), (2, .int (nI s1)), (3, .int s2)] [0, 1, 2, 3, 4] rfl ?_
            exact IH1 (mkW [1 + (a0.1 0)] [] [] [] [] []) ⟨(show 1 + (a0.1 0) ≤ 80 by omega), (cl_mode x4 kk12 (fun z => kk29 (by rw [x28]; exact z)))⟩ (by show 100000 - (1 + (a0.1 0)) < 100000 - (a0.1 0); omega)
          ·
            have x31 := x_eq kk29
            refine V_aload_n 35 B dX12_clashIn_35 1 rfl ?_
            refine V_iload 36 B dX12_clashIn_36 0 rfl ?_
            refine V_csi 38 B (st := [.ref h0]) (As := [.int (nI (a0.1 0))]) (fun sz => rX12_sequenceOf l D Y (a0.1 0) (by omega) sz) glS_RX12_85 ⟨rfl, rfl⟩ ⟨(Nat.le_of_ble_eq_true rfl), (Nat.le_of_ble_eq_true rfl)⟩ ⟨(Nat.le_of_ble_eq_true rfl), (Nat.le_of_ble_eq_true rfl)⟩ [] rfl rfl (Nat.le_of_ble_eq_true rfl) rfl (fun _ _ _ => rfl) dX12_clashIn_38 (fun j32 u33 w34 => ?_)
            refine V_ws [(h0, oC 13 [.ref h1, .ref h2, .int p2, .ref h3, .ref h4, .int (nI k5), .int (nI k6), .int p7, .int p8, .int p9, .int (nI k10), .int p11, .long q12, .ref h5, .ref h6, .int (nI k15), .int (nI k16)]), (h1, aI Y 3640 f0), (h2, aZ Y 2 f1), (h3, aZ Y 80 f3), (h4, aB Y 1600 f4), (h5, aI Y 200 f13), (h6, aI Y 800 f14)] rfl ?_
            have x35 := w34
            clear w34
            obtain rfl := x35
            refine V_iload_n 41 B dX12_clashIn_41 3 rfl ?_
            refine V_cvi 42 B (st := []) (As := [.int (nI (186 + 7 * (a0.1 0))), .int (nI s1)]) (fun sz => rX12_doClash l D Y h0 h1 h2 h3 h4 h5 h6 p2 k5 k6 p7 p8 p9 k10 p11 q12 k15 k16 f0 f1 f3 f4 f13 f14 HI (by omega) HP (186 + 7 * (a0.1 0)) s1 (rl12 (a0.1 0) (by omega)) hs1 sz) glV_RX12_111 ⟨rfl, rfl⟩ ⟨(Nat.le_of_ble_eq_true rfl), (Nat.le_of_ble_eq_true rfl)⟩ ⟨(Nat.le_of_ble_eq_true rfl), (Nat.le_of_ble_eq_true rfl)⟩ [0, 0, 0, 0, 0, 0, 0] rfl 13 0 rfl rfl rfl rfl (Nat.le_of_ble_eq_true rfl) rfl (fun _ _ _ => rfl) dX12_clashIn_42 (fun j36 u37 w38 => ?_)
            refine V_ws [(h0, oC 13 [.ref h1, .ref h2, .int p2, .ref h3, .ref h4, .int (nI k5), .int (nI k6), .int p7, .int p8, .int p9, .int (nI k10), .int p11, .long q12, .ref h5, .ref h6, .int (nI k15), .int (nI k16)]), (h1, aI Y 3640 f0), (h2, aZ Y 2 f1), (h3, aZ Y 80 f3), (h4, aB Y 1600 f4), (h5, aI Y 200 f13), (h6, aI Y 800 f14)] rfl ?_
            have x39 := w38
            clear w38
            rcases x39 with ⟨rfl, x40⟩ | ⟨rfl, x40⟩
            ·
              refine V_if_eq_t 45 B 51 dX12_clashIn_45 (by decide) (by decide +kernel) ?_
              refine V_iinc 51 B (v := (nI (1 + (a0.1 0)))) (lv2 := [(4, .int (nI (1 + (a0.1 0)))), (0, .ref h0), (1, .int s0), (2, .int (nI s1)), (3, .int s2)]) dX12_clashIn_51 0 rfl (nI_addE (a := (a0.1 0)) (b := 1) (by omega)) (by decide) rfl ?_
              refine V_goto 54 B 3 dX12_clashIn_54 (by decide) ?_
              refine V_lv [(4, .int (nI (1 + (a0.1 0)))), (0, .ref h0), (1, .int s0), (2, .int (nI s1)), (3, .int s2)] [0, 1, 2, 3, 4] rfl ?_
              exact IH1 (mkW [1 + (a0.1 0)] [] [] [] [] []) ⟨(show 1 + (a0.1 0) ≤ 80 by omega), (cl_dc x4 x40)⟩ (by show 100000 - (1 + (a0.1 0)) < 100000 - (a0.1 0); omega)
            ·
              refine V_if_eq_f 45 B 51 dX12_clashIn_45 (by decide) (by decide +kernel) ?_
              refine V_iload 48 B dX12_clashIn_48 0 rfl ?_
              exact V_iret 50 B dX12_clashIn_50 (mkW [] [] [] [] [] []) (Or.inr ⟨(a0.1 0), rfl, by omega, Or.inr (by rw [← x28]; exact kk29), x40⟩) rfl)
theorem glV_RX12_121 : GLV RX12 121 yX12_clashIn RX12 cX12_clashIn 5 (some .int) 3 := ⟨⟨(mT8 70 rfl rfl), (mT8 72 rfl rfl), (mTs 40 rfl rfl), (mT1 13 rfl rfl), (mT8 73 rfl rfl)⟩, by decide +kernel⟩
theorem dX12_forced_44 : decode cX12_forced 44 = .ok (.istore 5, 2) := by decide +kernel
theorem dX12_forced_46 : decode cX12_forced 46 = .ok (.iload 5, 2) := by decide +kernel
theorem dX12_forced_48 : decode cX12_forced 48 = .ok (.iconst (-1), 1) := by decide +kernel
theorem dX12_forced_49 : decode cX12_forced 49 = .ok (.if_icmp .eq 21, 3) := by decide +kernel
theorem dX12_forced_70 : decode cX12_forced 70 = .ok (.aload_n 0, 1) := by decide +kernel
theorem dX12_forced_71 : decode cX12_forced 71 = .ok (.iload_n 1, 1) := by decide +kernel
theorem dX12_forced_72 : decode cX12_forced 72 = .ok (.iload_n 2, 1) := by decide +kernel
theorem dX12_forced_73 : decode cX12_forced 73 = .ok (.iload_n 3, 1) := by decide +kernel
theorem dX12_forced_74 : decode cX12_forced 74 = .ok (.invokevirtual 132, 3) := by decide +kernel
theorem dX12_add_0 : decode cX12_add 0 = .ok (.aload_n 0, 1) := by decide +kernel
theorem dX12_add_1 : decode cX12_add 1 = .ok (.getfield 9, 3) := by decide +kernel
theorem dX12_add_4 : decode cX12_add 4 = .ok (.iconst 3, 1) := by decide +kernel
theorem dX12_add_5 : decode cX12_add 5 = .ok (.iaload, 1) := by decide +kernel
theorem dX12_add_6 : decode cX12_add 6 = .ok (.invokestatic 79, 3) := by decide +kernel
theorem dX12_add_9 : decode cX12_add 9 = .ok (.istore 4, 2) := by decide +kernel
theorem dX12_add_11 : decode cX12_add 11 = .ok (.aload_n 0, 1) := by decide +kernel
theorem dX12_add_12 : decode cX12_add 12 = .ok (.getfield 9, 3) := by decide +kernel
theorem dX12_add_15 : decode cX12_add 15 = .ok (.iload 4, 2) := by decide +kernel
theorem dX12_add_17 : decode cX12_add 17 = .ok (.iconst 0, 1) := by decide +kernel
theorem dX12_add_18 : decode cX12_add 18 = .ok (.iadd, 1) := by decide +kernel
theorem dX12_add_19 : decode cX12_add 19 = .ok (.iload_n 1, 1) := by decide +kernel
theorem dX12_add_20 : decode cX12_add 20 = .ok (.iastore, 1) := by decide +kernel
theorem dX12_add_21 : decode cX12_add 21 = .ok (.aload_n 0, 1) := by decide +kernel
theorem dX12_add_22 : decode cX12_add 22 = .ok (.getfield 9, 3) := by decide +kernel
theorem dX12_add_25 : decode cX12_add 25 = .ok (.iload 4, 2) := by decide +kernel
theorem dX12_add_27 : decode cX12_add 27 = .ok (.iconst 1, 1) := by decide +kernel
theorem dX12_add_28 : decode cX12_add 28 = .ok (.iadd, 1) := by decide +kernel
theorem dX12_add_29 : decode cX12_add 29 = .ok (.iload_n 2, 1) := by decide +kernel
theorem dX12_add_30 : decode cX12_add 30 = .ok (.iastore, 1) := by decide +kernel
theorem rl13 : ∀ z0, z0 < 80 → bd (185 + 7 * z0) = (0, ((39 : Nat) : Int)) := by decide +kernel
theorem dX12_add_31 : decode cX12_add 31 = .ok (.aload_n 0, 1) := by decide +kernel
theorem dX12_add_32 : decode cX12_add 32 = .ok (.iload_n 3, 1) := by decide +kernel
theorem dX12_add_33 : decode cX12_add 33 = .ok (.iload 4, 2) := by decide +kernel
theorem dX12_add_35 : decode cX12_add 35 = .ok (.iconst 2, 1) := by decide +kernel
theorem dX12_add_36 : decode cX12_add 36 = .ok (.iadd, 1) := by decide +kernel
theorem dX12_add_37 : decode cX12_add 37 = .ok (.invokevirtual 88, 3) := by decide +kernel
theorem dX12_copySequence_0 : decode cX12_copySequence 0 = .ok (.iconst 0, 1) := by decide +kernel
theorem dX12_copySequence_1 : decode cX12_copySequence 1 = .ok (.istore_n 3, 1) := by decide +kernel
theorem dX12_copySequence_2 : decode cX12_copySequence 2 = .ok (.iload_n 3, 1) := by decide +kernel
theorem dX12_copySequence_3 : decode cX12_copySequence 3 = .ok (.iconst 5, 1) := by decide +kernel
theorem dX12_copySequence_4 : decode cX12_copySequence 4 = .ok (.if_icmp .ge 39, 3) := by decide +kernel
theorem dX12_copySequence_43 : decode cX12_copySequence 43 = .ok (.return_, 1) := by decide +kernel
theorem dX12_copySequence_7 : decode cX12_copySequence 7 = .ok (.aload_n 0, 1) := by decide +kernel
theorem dX12_copySequence_8 : decode cX12_copySequence 8 = .ok (.getfield 9, 3) := by decide +kernel
theorem dX12_copySequence_11 : decode cX12_copySequence 11 = .ok (.iload_n 2, 1) := by decide +kernel
theorem dX12_copySequence_12 : decode cX12_copySequence 12 = .ok (.iload_n 3, 1) := by decide +kernel
theorem dX12_copySequence_13 : decode cX12_copySequence 13 = .ok (.iadd, 1) := by decide +kernel
theorem dX12_copySequence_14 : decode cX12_copySequence 14 = .ok (.iload_n 3, 1) := by decide +kernel
theorem dX12_copySequence_15 : decode cX12_copySequence 15 = .ok (.aload_n 0, 1) := by decide +kernel
theorem dX12_copySequence_16 : decode cX12_copySequence 16 = .ok (.getfield 9, 3) := by decide +kernel
theorem dX12_copySequence_19 : decode cX12_copySequence 19 = .ok (.iload_n 1, 1) := by decide +kernel
theorem dX12_copySequence_20 : decode cX12_copySequence 20 = .ok (.iaload, 1) := by decide +kernel
theorem dX12_copySequence_21 : decode cX12_copySequence 21 = .ok (.if_icmp .gt 14, 3) := by decide +kernel
theorem dX12_copySequence_35 : decode cX12_copySequence 35 = .ok (.iconst 0, 1) := by decide +kernel
theorem dX12_copySequence_36 : decode cX12_copySequence 36 = .ok (.iastore, 1) := by decide +kernel
theorem dX12_copySequence_37 : decode cX12_copySequence 37 = .ok (.iinc 3 1, 3) := by decide +kernel
theorem dX12_copySequence_40 : decode cX12_copySequence 40 = .ok (.goto (-38), 3) := by decide +kernel
theorem dX12_copySequence_24 : decode cX12_copySequence 24 = .ok (.aload_n 0, 1) := by decide +kernel
theorem dX12_copySequence_25 : decode cX12_copySequence 25 = .ok (.getfield 9, 3) := by decide +kernel
theorem dX12_copySequence_28 : decode cX12_copySequence 28 = .ok (.iload_n 1, 1) := by decide +kernel
theorem dX12_copySequence_29 : decode cX12_copySequence 29 = .ok (.iload_n 3, 1) := by decide +kernel
theorem dX12_copySequence_30 : decode cX12_copySequence 30 = .ok (.iadd, 1) := by decide +kernel
theorem dX12_copySequence_31 : decode cX12_copySequence 31 = .ok (.iaload, 1) := by decide +kernel
theorem dX12_copySequence_32 : decode cX12_copySequence 32 = .ok (.goto 4, 3) := by decide +kernel
set_option maxRecDepth 100000 in
set_option maxHeartbeats 4000000 in
theorem rX12_copySequence (l : Launch) (D : va_G) (Y : Nat → ClassId) (h0 : Nat) (h1 : Nat) (h2 : Nat) (h3 : Nat) (h4 : Nat) (h5 : Nat) (h6 : Nat) (p2 : Int32) (k5 : Nat) (k6 : Nat) (p7 : Int32) (p8 : Int32) (p9 : Int32) (k10 : Nat) (p11 : Int32) (q12 : Int64) (k15 : Nat) (k16 : Nat) (f0 : Nat → Int32) (f1 : Nat → Int32) (f3 : Nat → Int32) (f4 : Nat → Int32) (f13 : Nat → Int32) (f14 : Nat → Int32) (HI : INV f0) (HL : k5 ≤ 1600) (HP : PLV f13) (s0 : Nat) (s1 : Nat) (hs0 : SQ s0) (hs1 : SQ s1) (sz : Nat) : Met l yX12_copySequence (WSm yX12_copySequence cX12_copySequence 4 none) (mkR 0 0 0 0) (PreC D Y [.ref h0, .int (nI s0), .int (nI s1)] [(h0, oC 13 [.ref h1, .ref h2, .int p2, .ref h3, .ref h4, .int (nI k5), .int (nI k6), .int p7, .int p8, .int p9, .int (nI k10), .int p11, .long q12, .ref h5, .ref h6, .int (nI k15), .int (nI k16)]), (h1, aI Y 3640 f0), (h2, aZ Y 2 f1), (h3, aZ Y 80 f3), (h4, aB Y 1600 f4), (h5, aI Y 200 f13), (h6, aI Y 800 f14)] sz) (QV D (fun (u : WU) => INV (u.2.2.2.1 0) ∧ (∀ k, (k < s1 ∨ s1 + 5 ≤ k) → (u.2.2.2.1 0) k = f0 k)) (fun (u : WU) => [(h0, oC 13 [.ref h1, .ref h2, .int p2, .ref h3, .ref h4, .int (nI k5), .int (nI k6), .int p7, .int p8, .int p9, .int (nI k10), .int p11, .long q12, .ref h5, .ref h6, .int (nI k15), .int (nI k16)]), (h1, aI Y 3640 (u.2.2.2.1 0)), (h2, aZ Y 2 f1), (h3, aZ Y 80 f3), (h4, aB Y 1600 f4), (h5, aI Y 200 f13), (h6, aI Y 800 f14)]) (va_A [(h0, oC 13 [.ref h1, .ref h2, .int p2, .ref h3, .ref h4, .int (nI k5), .int (nI k6), .int p7, .int p8, .int p9, .int (nI k10), .int p11, .long q12, .ref h5, .ref h6, .int (nI k15), .int (nI k16)]), (h1, aI Y 3640 f0), (h2, aZ Y 2 f1), (h3, aZ Y 80 f3), (h4, aB Y 1600 f4), (h5, aI Y 200 f13), (h6, aI Y 800 f14)] sz)) 0 0 (va_A [(h0, oC 13 [.ref h1, .ref h2, .int p2, .ref h3, .ref h4, .int (nI k5), .int (nI k6), .int p7, .int p8, .int p9, .int (nI k10), .int p11, .long q12, .ref h5, .ref h6, .int (nI k15), .int (nI k16)]), (h1, aI Y 3640 f0), (h2, aZ Y 2 f1), (h3, aZ Y 80 f3), (h4, aB Y 1600 f4), (h5, aI Y 200 f13), (h6, aI Y 800 f14)] sz) :=
  met_of  (by decide +kernel) (Nat.le_of_ble_eq_true rfl) (fun p e s m args below meth c B hin hsz => by
    have B : VB p s m args meth c D Y (va_A [(h0, oC 13 [.ref h1, .ref h2, .int p2, .ref h3, .ref h4, .int (nI k5), .int (nI k6), .int p7, .int p8, .int p9, .int (nI k10), .int p11, .long q12, .ref h5, .ref h6, .int (nI k15), .int (nI k16)]), (h1, aI Y 3640 f0), (h2, aZ Y 2 f1), (h3, aZ Y 80 f3), (h4, aB Y 1600 f4), (h5, aI Y 200 f13), (h6, aI Y 800 f14)] sz) cX12_copySequence 4 RX12 none := B
    have hq_s0 := hs0.1
    have hq_s1 := hs1.1
    refine V_iconst 0 B (v := 0) dX12_copySequence_0 (by decide +kernel) ?_
    refine V_istore_n 1 B (lv2 := [(3, .int 0), (0, .ref h0), (1, .int (nI s0)), (2, .int (nI s1))]) dX12_copySequence_1 (by decide) rfl ?_
    refine V_wloop (α := WU) (fun a => 100000 - (a.1 0)) (fun a => INV (a.2.2.2.1 0) ∧ (a.1 0) ≤ 5 ∧ (∀ k, (k < s1 ∨ s1 + 5 ≤ k) → (a.2.2.2.1 0) k = f0 k)) (fun a => [(3, .int (nI (a.1 0))), (0, .ref h0), (1, .int (nI s0)), (2, .int (nI s1))]) (fun a => [(h0, oC 13 [.ref h1, .ref h2, .int p2, .ref h3, .ref h4, .int (nI k5), .int (nI k6), .int p7, .int p8, .int p9, .int (nI k10), .int p11, .long q12, .ref h5, .ref h6, .int (nI k15), .int (nI k16)]), (h1, aI Y 3640 (a.2.2.2.1 0)), (h2, aZ Y 2 f1), (h3, aZ Y 80 f3), (h4, aB Y 1600 f4), (h5, aI Y 200 f13), (h6, aI Y 800 f14)]) (mkW [0] [] [] [f0] [] []) ⟨HI, (show 0 ≤ 5 by omega), (fun _ _ => rfl)⟩ rfl rfl (fun a0 hI2 IH1 => ?_)
    refine V_lv [(3, .int (nI (a0.1 0))), (0, .ref h0), (1, .int (nI s0)), (2, .int (nI s1))] [0, 1, 2, 3] rfl ?_
    refine V_ws [(h0, oC 13 [.ref h1, .ref h2, .int p2, .ref h3, .ref h4, .int (nI k5), .int (nI k6), .int p7, .int p8, .int p9, .int (nI k10), .int p11, .long q12, .ref h5, .ref h6, .int (nI k15), .int (nI k16)]), (h1, aI Y 3640 (a0.2.2.2.1 0)), (h2, aZ Y 2 f1), (h3, aZ Y 80 f3), (h4, aB Y 1600 f4), (h5, aI Y 200 f13), (h6, aI Y 800 f14)] rfl ?_
    obtain ⟨x3, x4, x5⟩ := hI2
    refine V_iload_n 2 B dX12_copySequence_2 0 rfl ?_
    refine V_iconst 3 B (v := 5) dX12_copySequence_3 (by decide +kernel) ?_
    refine V_icmp_ge 4 B 43 dX12_copySequence_4 (by decide) (fun kk6 => ?_) (fun kk6 => ?_)
    ·
      have x7 := n_le (a := 5) (b := (a0.1 0)) kk6 (by omega) (by omega)
      exact V_vret 43 B dX12_copySequence_43 (mkW [] [] [] [(a0.2.2.2.1 0)] [] []) ⟨x3, x5⟩ rfl
    ·
      have x8 := n_nle (a := 5) (b := (a0.1 0)) kk6 (by omega) (by omega)
      by_cases x9 : (a0.1 0) = 0
      ·
        refine V_lv [(3, .int 0), (0, .ref h0), (1, .int (nI s0)), (2, .int (nI s1))] [0, 1, 2, 3] (by rw [x9]; rfl) ?_
        refine V_aload_n 7 B dX12_copySequence_7 1 rfl ?_
        refine V_get 8 B gf_RX12_9 0 rfl rfl dX12_copySequence_8 ?_
        refine V_iload_n 11 B dX12_copySequence_11 3 rfl ?_
        refine V_iload_n 12 B dX12_copySequence_12 0 rfl ?_
        refine V_iadd 13 B (v := (nI s1)) dX12_copySequence_13 (nI_addE (a := s1) (b := 0) (by omega)) ?_
        refine V_iload_n 14 B dX12_copySequence_14 0 rfl ?_
        refine V_aload_n 15 B dX12_copySequence_15 1 rfl ?_
        refine V_get 16 B gf_RX12_9 0 rfl rfl dX12_copySequence_16 ?_
        refine V_iload_n 19 B dX12_copySequence_19 2 rfl ?_
        have x10 : (gN (a0.2.2.2.1 0) s0) ≤ 4 := gN_le x3 (by omega) hs0.2.1
        refine V_iald 20 B (v := (nI ((gN (a0.2.2.2.1 0) s0)))) 1 rfl (vp_in_nI (n := s0) (by omega) (by decide)) dX12_copySequence_20 (by rw [nI_clamp (show s0 < 2 ^ 31 by omega)]; exact gN_eq x3 (by omega) hs0.2.1) ?_
        refine V_icmp_gt 21 B 35 dX12_copySequence_21 (by decide) (fun kk11 => ?_) (fun kk11 => ?_)
        ·
          have x12 := n_lt (a := (gN (a0.2.2.2.1 0) s0)) (b := 0) kk11 (by omega) (by omega)
          refine V_iconst 35 B (v := 0) dX12_copySequence_35 (by decide +kernel) ?_
          have hv13 : INV (upd (a0.2.2.2.1 0) s1 0) := INV_nat (v := 0) x3 hs1.2.1 (by omega) (by decide)
          refine V_iast 36 B 1 rfl (vp_in_nI (n := s1) (by omega) (by decide)) dX12_copySequence_36 [(h0, oC 13 [.ref h1, .ref h2, .int p2, .ref h3, .ref h4, .int (nI k5), .int (nI k6), .int p7, .int p8, .int p9, .int (nI k10), .int p11, .long q12, .ref h5, .ref h6, .int (nI k15), .int (nI k16)]), (h1, aI Y 3640 (upd (a0.2.2.2.1 0) s1 0)), (h2, aZ Y 2 f1), (h3, aZ Y 80 f3), (h4, aB Y 1600 f4), (h5, aI Y 200 f13), (h6, aI Y 800 f14)] (by rw [nI_clamp (show s1 < 2 ^ 31 by omega)]; rfl) ?_
          refine V_iinc 37 B (v := 1) (lv2 := [(3, .int 1), (0, .ref h0), (1, .int (nI s0)), (2, .int (nI s1))]) dX12_copySequence_37 0 rfl (by decide +kernel) (by decide) rfl ?_
          refine V_goto 40 B 2 dX12_copySequence_40 (by decide) ?_
          refine V_lv [(3, .int 1), (0, .ref h0), (1, .int (nI s0)), (2, .int (nI s1))] [0, 1, 2, 3] rfl ?_
          exact IH1 (mkW [1] [] [] [(upd (a0.2.2.2.1 0) s1 0)] [] []) ⟨hv13, (show 1 ≤ 5 by omega), (fr_upd x5 (by omega) (by omega))⟩ (by show 100000 - (1) < 100000 - (a0.1 0); omega)
        ·
          have x14 := n_nlt (a := (gN (a0.2.2.2.1 0) s0)) (b := 0) kk11 (by omega) (by omega)
          refine V_aload_n 24 B dX12_copySequence_24 1 rfl ?_
          refine V_get 25 B gf_RX12_9 0 rfl rfl dX12_copySequence_25 ?_
          refine V_iload_n 28 B dX12_copySequence_28 2 rfl ?_
          refine V_iload_n 29 B dX12_copySequence_29 0 rfl ?_
          refine V_iadd 30 B (v := (nI s0)) dX12_copySequence_30 (nI_addE (a := s0) (b := 0) (by omega)) ?_
          have x15 : (gN (a0.2.2.2.1 0) s0) ≤ 4 := gN_le x3 (by omega) hs0.2.1
          refine V_iald 31 B (v := (nI ((gN (a0.2.2.2.1 0) s0)))) 1 rfl (vp_in_nI (n := s0) (by omega) (by decide)) dX12_copySequence_31 (by rw [nI_clamp (show s0 < 2 ^ 31 by omega)]; exact gN_eq x3 (by omega) hs0.2.1) ?_
          refine V_goto 32 B 36 dX12_copySequence_32 (by decide) ?_
          have hv16 : INV (upd (a0.2.2.2.1 0) s1 (nI ((gN (a0.2.2.2.1 0) s0)))) := INV_nat (v := (gN (a0.2.2.2.1 0) s0)) x3 hs1.2.1 (by omega) (by decide)
          refine V_iast 36 B 1 rfl (vp_in_nI (n := s1) (by omega) (by decide)) dX12_copySequence_36 [(h0, oC 13 [.ref h1, .ref h2, .int p2, .ref h3, .ref h4, .int (nI k5), .int (nI k6), .int p7, .int p8, .int p9, .int (nI k10), .int p11, .long q12, .ref h5, .ref h6, .int (nI k15), .int (nI k16)]), (h1, aI Y 3640 (upd (a0.2.2.2.1 0) s1 (nI ((gN (a0.2.2.2.1 0) s0))))), (h2, aZ Y 2 f1), (h3, aZ Y 80 f3), (h4, aB Y 1600 f4), (h5, aI Y 200 f13), (h6, aI Y 800 f14)] (by rw [nI_clamp (show s1 < 2 ^ 31 by omega)]; rfl) ?_
          refine V_iinc 37 B (v := 1) (lv2 := [(3, .int 1), (0, .ref h0), (1, .int (nI s0)), (2, .int (nI s1))]) dX12_copySequence_37 0 rfl (by decide +kernel) (by decide) rfl ?_
          refine V_goto 40 B 2 dX12_copySequence_40 (by decide) ?_
          refine V_lv [(3, .int 1), (0, .ref h0), (1, .int (nI s0)), (2, .int (nI s1))] [0, 1, 2, 3] rfl ?_
          exact IH1 (mkW [1] [] [] [(upd (a0.2.2.2.1 0) s1 (nI ((gN (a0.2.2.2.1 0) s0))))] [] []) ⟨hv16, (show 1 ≤ 5 by omega), (fr_upd x5 (by omega) (by omega))⟩ (by show 100000 - (1) < 100000 - (a0.1 0); omega)
      ·
        refine V_aload_n 7 B dX12_copySequence_7 1 rfl ?_
        refine V_get 8 B gf_RX12_9 0 rfl rfl dX12_copySequence_8 ?_
        refine V_iload_n 11 B dX12_copySequence_11 3 rfl ?_
        refine V_iload_n 12 B dX12_copySequence_12 0 rfl ?_
        refine V_iadd 13 B (v := (nI ((a0.1 0) + s1))) dX12_copySequence_13 (nI_addE (a := s1) (b := (a0.1 0)) (by omega)) ?_
        refine V_iload_n 14 B dX12_copySequence_14 0 rfl ?_
        refine V_aload_n 15 B dX12_copySequence_15 1 rfl ?_
        refine V_get 16 B gf_RX12_9 0 rfl rfl dX12_copySequence_16 ?_
        refine V_iload_n 19 B dX12_copySequence_19 2 rfl ?_
        have x17 : (gN (a0.2.2.2.1 0) s0) ≤ 4 := gN_le x3 (by omega) hs0.2.1
        refine V_iald 20 B (v := (nI ((gN (a0.2.2.2.1 0) s0)))) 1 rfl (vp_in_nI (n := s0) (by omega) (by decide)) dX12_copySequence_20 (by rw [nI_clamp (show s0 < 2 ^ 31 by omega)]; exact gN_eq x3 (by omega) hs0.2.1) ?_
        refine V_icmp_gt 21 B 35 dX12_copySequence_21 (by decide) (fun kk18 => ?_) (fun kk18 => ?_)
        ·
          have x19 := n_lt (a := (gN (a0.2.2.2.1 0) s0)) (b := (a0.1 0)) kk18 (by omega) (by omega)
          refine V_iconst 35 B (v := 0) dX12_copySequence_35 (by decide +kernel) ?_
          have hv20 : INV (upd (a0.2.2.2.1 0) ((a0.1 0) + s1) 0) := INV_free x3 (SQ.fr hs1 (j := (a0.1 0) + s1) (by omega) (by omega))
          refine V_iast 36 B 1 rfl (vp_in_nI (n := (a0.1 0) + s1) (by omega) (by decide)) dX12_copySequence_36 [(h0, oC 13 [.ref h1, .ref h2, .int p2, .ref h3, .ref h4, .int (nI k5), .int (nI k6), .int p7, .int p8, .int p9, .int (nI k10), .int p11, .long q12, .ref h5, .ref h6, .int (nI k15), .int (nI k16)]), (h1, aI Y 3640 (upd (a0.2.2.2.1 0) ((a0.1 0) + s1) 0)), (h2, aZ Y 2 f1), (h3, aZ Y 80 f3), (h4, aB Y 1600 f4), (h5, aI Y 200 f13), (h6, aI Y 800 f14)] (by rw [nI_clamp (show (a0.1 0) + s1 < 2 ^ 31 by omega)]; rfl) ?_
          refine V_iinc 37 B (v := (nI (1 + (a0.1 0)))) (lv2 := [(3, .int (nI (1 + (a0.1 0)))), (0, .ref h0), (1, .int (nI s0)), (2, .int (nI s1))]) dX12_copySequence_37 0 rfl (nI_addE (a := (a0.1 0)) (b := 1) (by omega)) (by decide) rfl ?_
          refine V_goto 40 B 2 dX12_copySequence_40 (by decide) ?_
          refine V_lv [(3, .int (nI (1 + (a0.1 0)))), (0, .ref h0), (1, .int (nI s0)), (2, .int (nI s1))] [0, 1, 2, 3] rfl ?_
          exact IH1 (mkW [1 + (a0.1 0)] [] [] [(upd (a0.2.2.2.1 0) ((a0.1 0) + s1) 0)] [] []) ⟨hv20, (show 1 + (a0.1 0) ≤ 5 by omega), (fr_upd x5 (by omega) (by omega))⟩ (by show 100000 - (1 + (a0.1 0)) < 100000 - (a0.1 0); omega)
        ·
          have x21 := n_nlt (a := (gN (a0.2.2.2.1 0) s0)) (b := (a0.1 0)) kk18 (by omega) (by omega)
          refine V_aload_n 24 B dX12_copySequence_24 1 rfl ?_
          refine V_get 25 B gf_RX12_9 0 rfl rfl dX12_copySequence_25 ?_
          refine V_iload_n 28 B dX12_copySequence_28 2 rfl ?_
          refine V_iload_n 29 B dX12_copySequence_29 0 rfl ?_
          refine V_iadd 30 B (v := (nI ((a0.1 0) + s0))) dX12_copySequence_30 (nI_addE (a := s0) (b := (a0.1 0)) (by omega)) ?_
          refine V_iald 31 B (v := (a0.2.2.2.1 0) ((a0.1 0) + s0)) 1 rfl (vp_in_nI (n := (a0.1 0) + s0) (by omega) (by decide)) dX12_copySequence_31 (by rw [nI_clamp (show (a0.1 0) + s0 < 2 ^ 31 by omega)]) ?_
          refine V_nmi (fun j22 e23 => ?_)
          refine V_goto 32 B 36 dX12_copySequence_32 (by decide) ?_
          have hv24 : INV (upd (a0.2.2.2.1 0) ((a0.1 0) + s1) j22) := INV_free x3 (SQ.fr hs1 (j := (a0.1 0) + s1) (by omega) (by omega))
          refine V_iast 36 B 1 rfl (vp_in_nI (n := (a0.1 0) + s1) (by omega) (by decide)) dX12_copySequence_36 [(h0, oC 13 [.ref h1, .ref h2, .int p2, .ref h3, .ref h4, .int (nI k5), .int (nI k6), .int p7, .int p8, .int p9, .int (nI k10), .int p11, .long q12, .ref h5, .ref h6, .int (nI k15), .int (nI k16)]), (h1, aI Y 3640 (upd (a0.2.2.2.1 0) ((a0.1 0) + s1) j22)), (h2, aZ Y 2 f1), (h3, aZ Y 80 f3), (h4, aB Y 1600 f4), (h5, aI Y 200 f13), (h6, aI Y 800 f14)] (by rw [nI_clamp (show (a0.1 0) + s1 < 2 ^ 31 by omega)]; rfl) ?_
          refine V_iinc 37 B (v := (nI (1 + (a0.1 0)))) (lv2 := [(3, .int (nI (1 + (a0.1 0)))), (0, .ref h0), (1, .int (nI s0)), (2, .int (nI s1))]) dX12_copySequence_37 0 rfl (nI_addE (a := (a0.1 0)) (b := 1) (by omega)) (by decide) rfl ?_
          refine V_goto 40 B 2 dX12_copySequence_40 (by decide) ?_
          refine V_lv [(3, .int (nI (1 + (a0.1 0)))), (0, .ref h0), (1, .int (nI s0)), (2, .int (nI s1))] [0, 1, 2, 3] rfl ?_
          exact IH1 (mkW [1 + (a0.1 0)] [] [] [(upd (a0.2.2.2.1 0) ((a0.1 0) + s1) j22)] [] []) ⟨hv24, (show 1 + (a0.1 0) ≤ 5 by omega), (fr_upd x5 (by omega) (by omega))⟩ (by show 100000 - (1 + (a0.1 0)) < 100000 - (a0.1 0); omega))
