theorem dX12_readLayer_0 : decode cX12_readLayer 0 = .ok (.aload_n 0, 1) := by decide +kernel
theorem dX12_readLayer_1 : decode cX12_readLayer 1 = .ok (.getfield 9, 3) := by decide +kernel
theorem dX12_readLayer_4 : decode cX12_readLayer 4 = .ok (.sipush 2722, 3) := by decide +kernel
theorem dX12_readLayer_7 : decode cX12_readLayer 7 = .ok (.iaload, 1) := by decide +kernel
theorem dX12_readLayer_8 : decode cX12_readLayer 8 = .ok (.iconst 4, 1) := by decide +kernel
theorem dX12_readLayer_9 : decode cX12_readLayer 9 = .ok (.if_icmp .ne 9, 3) := by decide +kernel
theorem dX12_readLayer_18 : decode cX12_readLayer 18 = .ok (.aload_n 0, 1) := by decide +kernel
theorem dX12_readLayer_19 : decode cX12_readLayer 19 = .ok (.getfield 270, 3) := by decide +kernel
theorem dX12_readLayer_22 : decode cX12_readLayer 22 = .ok (.istore_n 1, 1) := by decide +kernel
theorem dX12_readLayer_23 : decode cX12_readLayer 23 = .ok (.sipush 3462, 3) := by decide +kernel
theorem dX12_readLayer_26 : decode cX12_readLayer 26 = .ok (.bipush 28, 2) := by decide +kernel
theorem dX12_readLayer_28 : decode cX12_readLayer 28 = .ok (.aload_n 0, 1) := by decide +kernel
theorem dX12_readLayer_29 : decode cX12_readLayer 29 = .ok (.getfield 9, 3) := by decide +kernel
theorem dX12_readLayer_32 : decode cX12_readLayer 32 = .ok (.sipush 2722, 3) := by decide +kernel
theorem dX12_readLayer_35 : decode cX12_readLayer 35 = .ok (.iaload, 1) := by decide +kernel
theorem dX12_readLayer_36 : decode cX12_readLayer 36 = .ok (.imul, 1) := by decide +kernel
theorem dX12_readLayer_37 : decode cX12_readLayer 37 = .ok (.iadd, 1) := by decide +kernel
theorem dX12_readLayer_38 : decode cX12_readLayer 38 = .ok (.istore_n 2, 1) := by decide +kernel
theorem dX12_readLayer_39 : decode cX12_readLayer 39 = .ok (.aload_n 0, 1) := by decide +kernel
theorem dX12_readLayer_40 : decode cX12_readLayer 40 = .ok (.invokevirtual 288, 3) := by decide +kernel
theorem dX12_readLayer_43 : decode cX12_readLayer 43 = .ok (.aload_n 0, 1) := by decide +kernel
theorem dX12_readLayer_44 : decode cX12_readLayer 44 = .ok (.invokevirtual 316, 3) := by decide +kernel
theorem glV_RX12_316 : GLV RX12 316 yX12_readKey RX12 cX12_readKey 1 (some .boolean) 0 := ⟨⟨(mT10 41 rfl rfl), (mT10 43 rfl rfl), (mTs 89 rfl rfl), (mT1 13 rfl rfl), (mT10 44 rfl rfl)⟩, by decide +kernel⟩
theorem dX12_readLayer_47 : decode cX12_readLayer 47 = .ok (.ifCond .ne 5, 3) := by decide +kernel
theorem dX12_readLayer_50 : decode cX12_readLayer 50 = .ok (.iconst 0, 1) := by decide +kernel
theorem dX12_readLayer_51 : decode cX12_readLayer 51 = .ok (.ireturn, 1) := by decide +kernel
theorem dX12_readLayer_52 : decode cX12_readLayer 52 = .ok (.aload_n 0, 1) := by decide +kernel
theorem dX12_readLayer_53 : decode cX12_readLayer 53 = .ok (.getfield 9, 3) := by decide +kernel
theorem dX12_readLayer_56 : decode cX12_readLayer 56 = .ok (.iload_n 2, 1) := by decide +kernel
theorem dX12_readLayer_57 : decode cX12_readLayer 57 = .ok (.iconst 0, 1) := by decide +kernel
theorem dX12_readLayer_58 : decode cX12_readLayer 58 = .ok (.iadd, 1) := by decide +kernel
theorem dX12_readLayer_59 : decode cX12_readLayer 59 = .ok (.aload_n 0, 1) := by decide +kernel
theorem dX12_readLayer_60 : decode cX12_readLayer 60 = .ok (.getfield 294, 3) := by decide +kernel
theorem dX12_readLayer_63 : decode cX12_readLayer 63 = .ok (.iastore, 1) := by decide +kernel
theorem rl33 : ∀ z0, z0 < 4 → bd (3462 + 28 * z0) = FREE := by decide +kernel
theorem dX12_readLayer_64 : decode cX12_readLayer 64 = .ok (.iconst 0, 1) := by decide +kernel
theorem dX12_readLayer_65 : decode cX12_readLayer 65 = .ok (.istore_n 3, 1) := by decide +kernel
theorem dX12_readLayer_66 : decode cX12_readLayer 66 = .ok (.iconst 0, 1) := by decide +kernel
theorem dX12_readLayer_67 : decode cX12_readLayer 67 = .ok (.istore 4, 2) := by decide +kernel
theorem dX12_readLayer_69 : decode cX12_readLayer 69 = .ok (.iload 4, 2) := by decide +kernel
theorem dX12_readLayer_71 : decode cX12_readLayer 71 = .ok (.aload_n 0, 1) := by decide +kernel
theorem dX12_readLayer_72 : decode cX12_readLayer 72 = .ok (.getfield 9, 3) := by decide +kernel
theorem dX12_readLayer_75 : decode cX12_readLayer 75 = .ok (.sipush 2722, 3) := by decide +kernel
theorem dX12_readLayer_78 : decode cX12_readLayer 78 = .ok (.iaload, 1) := by decide +kernel
theorem dX12_readLayer_79 : decode cX12_readLayer 79 = .ok (.if_icmp .ge 40, 3) := by decide +kernel
theorem dX12_readLayer_119 : decode cX12_readLayer 119 = .ok (.aload_n 0, 1) := by decide +kernel
theorem dX12_readLayer_120 : decode cX12_readLayer 120 = .ok (.getfield 283, 3) := by decide +kernel
theorem dX12_readLayer_123 : decode cX12_readLayer 123 = .ok (.iconst 1, 1) := by decide +kernel
theorem dX12_readLayer_124 : decode cX12_readLayer 124 = .ok (.if_icmp .ne 69, 3) := by decide +kernel
theorem dX12_readLayer_193 : decode cX12_readLayer 193 = .ok (.aload_n 0, 1) := by decide +kernel
theorem dX12_readLayer_194 : decode cX12_readLayer 194 = .ok (.invokevirtual 304, 3) := by decide +kernel
theorem dX12_readLayer_197 : decode cX12_readLayer 197 = .ok (.ifCond .ne 5, 3) := by decide +kernel
theorem dX12_readLayer_200 : decode cX12_readLayer 200 = .ok (.iconst 0, 1) := by decide +kernel
theorem dX12_readLayer_201 : decode cX12_readLayer 201 = .ok (.ireturn, 1) := by decide +kernel
theorem dX12_readLayer_202 : decode cX12_readLayer 202 = .ok (.iload_n 3, 1) := by decide +kernel
theorem dX12_readLayer_203 : decode cX12_readLayer 203 = .ok (.ifCond .eq 10, 3) := by decide +kernel
theorem dX12_readLayer_213 : decode cX12_readLayer 213 = .ok (.aload_n 0, 1) := by decide +kernel
theorem dX12_readLayer_214 : decode cX12_readLayer 214 = .ok (.getfield 9, 3) := by decide +kernel
theorem dX12_readLayer_217 : decode cX12_readLayer 217 = .ok (.sipush 2722, 3) := by decide +kernel
theorem dX12_readLayer_220 : decode cX12_readLayer 220 = .ok (.dup2, 1) := by decide +kernel
theorem dX12_readLayer_221 : decode cX12_readLayer 221 = .ok (.iaload, 1) := by decide +kernel
theorem dX12_readLayer_222 : decode cX12_readLayer 222 = .ok (.iconst 1, 1) := by decide +kernel
theorem dX12_readLayer_223 : decode cX12_readLayer 223 = .ok (.iadd, 1) := by decide +kernel
theorem dX12_readLayer_224 : decode cX12_readLayer 224 = .ok (.iastore, 1) := by decide +kernel
theorem dX12_readLayer_225 : decode cX12_readLayer 225 = .ok (.iconst 1, 1) := by decide +kernel
theorem dX12_readLayer_226 : decode cX12_readLayer 226 = .ok (.ireturn, 1) := by decide +kernel
theorem dX12_readLayer_127 : decode cX12_readLayer 127 = .ok (.aload_n 0, 1) := by decide +kernel
theorem dX12_readLayer_128 : decode cX12_readLayer 128 = .ok (.invokevirtual 316, 3) := by decide +kernel
theorem dX12_readLayer_131 : decode cX12_readLayer 131 = .ok (.ifCond .ne 5, 3) := by decide +kernel
theorem dX12_readLayer_134 : decode cX12_readLayer 134 = .ok (.iconst 0, 1) := by decide +kernel
theorem dX12_readLayer_135 : decode cX12_readLayer 135 = .ok (.ireturn, 1) := by decide +kernel
theorem dX12_readLayer_136 : decode cX12_readLayer 136 = .ok (.aload_n 0, 1) := by decide +kernel
theorem dX12_readLayer_137 : decode cX12_readLayer 137 = .ok (.getfield 294, 3) := by decide +kernel
theorem dX12_readLayer_140 : decode cX12_readLayer 140 = .ok (.istore 4, 2) := by decide +kernel
theorem dX12_readLayer_142 : decode cX12_readLayer 142 = .ok (.aload_n 0, 1) := by decide +kernel
theorem dX12_readLayer_143 : decode cX12_readLayer 143 = .ok (.invokevirtual 316, 3) := by decide +kernel
theorem dX12_readLayer_146 : decode cX12_readLayer 146 = .ok (.ifCond .ne 5, 3) := by decide +kernel
theorem dX12_readLayer_149 : decode cX12_readLayer 149 = .ok (.iconst 0, 1) := by decide +kernel
theorem dX12_readLayer_150 : decode cX12_readLayer 150 = .ok (.ireturn, 1) := by decide +kernel
theorem dX12_readLayer_151 : decode cX12_readLayer 151 = .ok (.iload_n 3, 1) := by decide +kernel
theorem dX12_readLayer_152 : decode cX12_readLayer 152 = .ok (.aload_n 0, 1) := by decide +kernel
theorem dX12_readLayer_153 : decode cX12_readLayer 153 = .ok (.getfield 9, 3) := by decide +kernel
theorem dX12_readLayer_156 : decode cX12_readLayer 156 = .ok (.iload_n 2, 1) := by decide +kernel
theorem dX12_readLayer_157 : decode cX12_readLayer 157 = .ok (.iconst 2, 1) := by decide +kernel
theorem dX12_readLayer_158 : decode cX12_readLayer 158 = .ok (.iadd, 1) := by decide +kernel
theorem dX12_readLayer_159 : decode cX12_readLayer 159 = .ok (.iload 4, 2) := by decide +kernel
theorem dX12_readLayer_161 : decode cX12_readLayer 161 = .ok (.iadd, 1) := by decide +kernel
theorem dX12_readLayer_162 : decode cX12_readLayer 162 = .ok (.iaload, 1) := by decide +kernel
theorem rl34 : ∀ z0, z0 < 4 → ∀ z1, z1 < 26 → bd (3464 + 28 * z0 + z1) = FREE := by decide +kernel
theorem dX12_readLayer_163 : decode cX12_readLayer 163 = .ok (.ifCond .le 7, 3) := by decide +kernel
theorem dX12_readLayer_170 : decode cX12_readLayer 170 = .ok (.iconst 0, 1) := by decide +kernel
theorem dX12_readLayer_171 : decode cX12_readLayer 171 = .ok (.ior, 1) := by decide +kernel
theorem dX12_readLayer_172 : decode cX12_readLayer 172 = .ok (.istore_n 3, 1) := by decide +kernel
theorem dX12_readLayer_173 : decode cX12_readLayer 173 = .ok (.aload_n 0, 1) := by decide +kernel
theorem dX12_readLayer_174 : decode cX12_readLayer 174 = .ok (.getfield 9, 3) := by decide +kernel
theorem dX12_readLayer_177 : decode cX12_readLayer 177 = .ok (.iload_n 2, 1) := by decide +kernel
theorem dX12_readLayer_178 : decode cX12_readLayer 178 = .ok (.iconst 2, 1) := by decide +kernel
theorem dX12_readLayer_179 : decode cX12_readLayer 179 = .ok (.iadd, 1) := by decide +kernel
theorem dX12_readLayer_180 : decode cX12_readLayer 180 = .ok (.iload 4, 2) := by decide +kernel
theorem dX12_readLayer_182 : decode cX12_readLayer 182 = .ok (.iadd, 1) := by decide +kernel
theorem dX12_readLayer_183 : decode cX12_readLayer 183 = .ok (.aload_n 0, 1) := by decide +kernel
theorem dX12_readLayer_184 : decode cX12_readLayer 184 = .ok (.getfield 294, 3) := by decide +kernel
theorem dX12_readLayer_187 : decode cX12_readLayer 187 = .ok (.iconst 1, 1) := by decide +kernel
theorem dX12_readLayer_188 : decode cX12_readLayer 188 = .ok (.iadd, 1) := by decide +kernel
theorem dX12_readLayer_189 : decode cX12_readLayer 189 = .ok (.iastore, 1) := by decide +kernel
theorem dX12_readLayer_190 : decode cX12_readLayer 190 = .ok (.goto (-71), 3) := by decide +kernel
theorem dX12_readLayer_166 : decode cX12_readLayer 166 = .ok (.iconst 1, 1) := by decide +kernel
theorem dX12_readLayer_167 : decode cX12_readLayer 167 = .ok (.goto 4, 3) := by decide +kernel
theorem dX12_readLayer_206 : decode cX12_readLayer 206 = .ok (.aload_n 0, 1) := by decide +kernel
theorem dX12_readLayer_207 : decode cX12_readLayer 207 = .ok (.iconst 4, 1) := by decide +kernel
theorem dX12_readLayer_208 : decode cX12_readLayer 208 = .ok (.iload_n 1, 1) := by decide +kernel
theorem dX12_readLayer_209 : decode cX12_readLayer 209 = .ok (.invokevirtual 313, 3) := by decide +kernel
theorem dX12_readLayer_212 : decode cX12_readLayer 212 = .ok (.ireturn, 1) := by decide +kernel
theorem dX12_readLayer_82 : decode cX12_readLayer 82 = .ok (.iload_n 3, 1) := by decide +kernel
theorem dX12_readLayer_83 : decode cX12_readLayer 83 = .ok (.aload_n 0, 1) := by decide +kernel
theorem dX12_readLayer_84 : decode cX12_readLayer 84 = .ok (.getfield 9, 3) := by decide +kernel
theorem dX12_readLayer_87 : decode cX12_readLayer 87 = .ok (.sipush 3462, 3) := by decide +kernel
theorem dX12_readLayer_90 : decode cX12_readLayer 90 = .ok (.bipush 28, 2) := by decide +kernel
theorem dX12_readLayer_92 : decode cX12_readLayer 92 = .ok (.iload 4, 2) := by decide +kernel
theorem dX12_readLayer_94 : decode cX12_readLayer 94 = .ok (.imul, 1) := by decide +kernel
theorem dX12_readLayer_95 : decode cX12_readLayer 95 = .ok (.iadd, 1) := by decide +kernel
theorem dX12_readLayer_96 : decode cX12_readLayer 96 = .ok (.iconst 0, 1) := by decide +kernel
theorem dX12_readLayer_97 : decode cX12_readLayer 97 = .ok (.iadd, 1) := by decide +kernel
theorem dX12_readLayer_98 : decode cX12_readLayer 98 = .ok (.iaload, 1) := by decide +kernel
theorem rl35 : ∀ z0, z0 < 3 → bd (3462 + 28 * z0) = FREE := by decide +kernel
theorem dX12_readLayer_99 : decode cX12_readLayer 99 = .ok (.aload_n 0, 1) := by decide +kernel
theorem dX12_readLayer_100 : decode cX12_readLayer 100 = .ok (.getfield 294, 3) := by decide +kernel
theorem dX12_readLayer_103 : decode cX12_readLayer 103 = .ok (.if_icmp .ne 7, 3) := by decide +kernel
theorem dX12_readLayer_110 : decode cX12_readLayer 110 = .ok (.iconst 0, 1) := by decide +kernel
theorem dX12_readLayer_111 : decode cX12_readLayer 111 = .ok (.ior, 1) := by decide +kernel
theorem dX12_readLayer_112 : decode cX12_readLayer 112 = .ok (.istore_n 3, 1) := by decide +kernel
theorem dX12_readLayer_113 : decode cX12_readLayer 113 = .ok (.iinc 4 1, 3) := by decide +kernel
theorem dX12_readLayer_116 : decode cX12_readLayer 116 = .ok (.goto (-47), 3) := by decide +kernel
theorem dX12_readLayer_106 : decode cX12_readLayer 106 = .ok (.iconst 1, 1) := by decide +kernel
theorem dX12_readLayer_107 : decode cX12_readLayer 107 = .ok (.goto 4, 3) := by decide +kernel
theorem dX12_readLayer_12 : decode cX12_readLayer 12 = .ok (.aload_n 0, 1) := by decide +kernel
theorem dX12_readLayer_13 : decode cX12_readLayer 13 = .ok (.iconst 3, 1) := by decide +kernel
theorem dX12_readLayer_14 : decode cX12_readLayer 14 = .ok (.invokevirtual 291, 3) := by decide +kernel
theorem dX12_readLayer_17 : decode cX12_readLayer 17 = .ok (.ireturn, 1) := by decide +kernel
set_option maxRecDepth 100000 in
set_option maxHeartbeats 4000000 in
theorem rX12_readLayer (l : Launch) (D : va_G) (Y : Nat → ClassId) (h0 : Nat) (h1 : Nat) (h2 : Nat) (h3 : Nat) (h4 : Nat) (h5 : Nat) (h6 : Nat) (p2 : Int32) (k5 : Nat) (k6 : Nat) (p7 : Int32) (p8 : Int32) (p9 : Int32) (k10 : Nat) (p11 : Int32) (q12 : Int64) (k15 : Nat) (k16 : Nat) (f0 : Nat → Int32) (f1 : Nat → Int32) (f3 : Nat → Int32) (f4 : Nat → Int32) (f13 : Nat → Int32) (f14 : Nat → Int32) (HI : INV f0) (HL : k5 ≤ 1600) (HP : PLV f13)  (hx0 : k10 ≤ k6) (hx1 : k6 ≤ k5) (hx2 : (p9 = 0 ∨ k10 < k6)) (hx3 : k10 < k6) (sz : Nat) : Met l yX12_readLayer (WSm yX12_readLayer cX12_readLayer 5 (some .boolean)) (mkR 5 0 0 106) (PreC D Y [.ref h0] [(h0, oC 13 [.ref h1, .ref h2, .int p2, .ref h3, .ref h4, .int (nI k5), .int (nI k6), .int p7, .int p8, .int p9, .int (nI k10), .int p11, .long q12, .ref h5, .ref h6, .int (nI k15), .int (nI k16)]), (h1, aI Y 3640 f0), (h2, aZ Y 2 f1), (h3, aZ Y 80 f3), (h4, aB Y 1600 f4), (h5, aI Y 200 f13), (h6, aI Y 800 f14)] sz) (QI D (fun (r : Int32) (u : WU) => (r = 0 ∨ (r = 1 ∧ k10 < (u.1 1))) ∧ INV (u.2.2.2.1 0) ∧ k10 ≤ (u.1 1) ∧ (u.1 1) ≤ (u.1 0) ∧ (u.1 0) ≤ k5 ∧ ((u.2.1 2) = 0 ∨ (u.1 1) < (u.1 0))) (fun (u : WU) => [(h0, oC 13 [.ref h1, .ref h2, .int p2, .ref h3, .ref h4, .int (nI k5), .int (nI (u.1 0)), .int (u.2.1 0), .int (u.2.1 1), .int (u.2.1 2), .int (nI (u.1 1)), .int (u.2.1 3), .long (u.2.2.1 0), .ref h5, .ref h6, .int (nI k15), .int (nI k16)]), (h1, aI Y 3640 (u.2.2.2.1 0)), (h2, aZ Y 2 f1), (h3, aZ Y 80 f3), (h4, aB Y 1600 f4), (h5, aI Y 200 f13), (h6, aI Y 800 f14)]) (va_A [(h0, oC 13 [.ref h1, .ref h2, .int p2, .ref h3, .ref h4, .int (nI k5), .int (nI k6), .int p7, .int p8, .int p9, .int (nI k10), .int p11, .long q12, .ref h5, .ref h6, .int (nI k15), .int (nI k16)]), (h1, aI Y 3640 f0), (h2, aZ Y 2 f1), (h3, aZ Y 80 f3), (h4, aB Y 1600 f4), (h5, aI Y 200 f13), (h6, aI Y 800 f14)] sz)) 0 0 (va_A [(h0, oC 13 [.ref h1, .ref h2, .int p2, .ref h3, .ref h4, .int (nI k5), .int (nI k6), .int p7, .int p8, .int p9, .int (nI k10), .int p11, .long q12, .ref h5, .ref h6, .int (nI k15), .int (nI k16)]), (h1, aI Y 3640 f0), (h2, aZ Y 2 f1), (h3, aZ Y 80 f3), (h4, aB Y 1600 f4), (h5, aI Y 200 f13), (h6, aI Y 800 f14)] sz) :=
  met_of  (by decide +kernel) (Nat.le_of_ble_eq_true rfl) (fun p e s m args below meth c B hin hsz => by
    have B : VB p s m args meth c D Y (va_A [(h0, oC 13 [.ref h1, .ref h2, .int p2, .ref h3, .ref h4, .int (nI k5), .int (nI k6), .int p7, .int p8, .int p9, .int (nI k10), .int p11, .long q12, .ref h5, .ref h6, .int (nI k15), .int (nI k16)]), (h1, aI Y 3640 f0), (h2, aZ Y 2 f1), (h3, aZ Y 80 f3), (h4, aB Y 1600 f4), (h5, aI Y 200 f13), (h6, aI Y 800 f14)] sz) cX12_readLayer 5 RX12 (some .boolean) := B
    refine V_aload_n 0 B dX12_readLayer_0 0 rfl ?_
    refine V_get 1 B gf_RX12_9 0 rfl rfl dX12_readLayer_1 ?_
    refine V_sipush 4 B (v := 2722) dX12_readLayer_4 (by decide +kernel) ?_
    have x0 : (gN f0 2722) ≤ 4 := gN_le HI (by omega) (show bd 2722 = (0, ((4 : Nat) : Int)) by decide +kernel)
    refine V_iald 7 B (v := (nI (gN f0 2722))) 1 rfl (vpin _ _ (by decide +kernel)) dX12_readLayer_7 (by show f0 2722 = _; exact gN_eq HI (by omega) (show bd 2722 = (0, ((4 : Nat) : Int)) by decide +kernel)) ?_
    refine V_iconst 8 B (v := 4) dX12_readLayer_8 (by decide +kernel) ?_
    refine V_icmp_ne 9 B 18 dX12_readLayer_9 (by decide) (fun kk1 => ?_) (fun kk1 => ?_)
    ·
      have x2 := n_ne (a := (gN f0 2722)) (b := 4) kk1
      refine V_aload_n 18 B dX12_readLayer_18 0 rfl ?_
      refine V_get 19 B gf_RX12_270 0 rfl rfl dX12_readLayer_19 ?_
      refine V_istore_n 22 B (lv2 := [(1, .int (nI k10)), (0, .ref h0)]) dX12_readLayer_22 (by decide) rfl ?_
      refine V_sipush 23 B (v := 3462) dX12_readLayer_23 (by decide +kernel) ?_
      refine V_bipush 26 B (v := 28) dX12_readLayer_26 (by decide +kernel) ?_
      refine V_aload_n 28 B dX12_readLayer_28 1 rfl ?_
      refine V_get 29 B gf_RX12_9 0 rfl rfl dX12_readLayer_29 ?_
      refine V_sipush 32 B (v := 2722) dX12_readLayer_32 (by decide +kernel) ?_
      have x3 : (gN f0 2722) ≤ 4 := gN_le HI (by omega) (show bd 2722 = (0, ((4 : Nat) : Int)) by decide +kernel)
      refine V_iald 35 B (v := (nI (gN f0 2722))) 1 rfl (vpin _ _ (by decide +kernel)) dX12_readLayer_35 (by show f0 2722 = _; exact gN_eq HI (by omega) (show bd 2722 = (0, ((4 : Nat) : Int)) by decide +kernel)) ?_
      refine V_imul 36 B (v := (nI (28 * (gN f0 2722)))) dX12_readLayer_36 (nI_mulE (a := 28) (b := (gN f0 2722)) (by omega)) ?_
      refine V_iadd 37 B (v := (nI (3462 + 28 * (gN f0 2722)))) dX12_readLayer_37 (nI_addE (a := 3462) (b := 28 * (gN f0 2722)) (by omega)) ?_
      refine V_istore_n 38 B (lv2 := [(2, .int (nI (3462 + 28 * (gN f0 2722)))), (1, .int (nI k10)), (0, .ref h0)]) dX12_readLayer_38 (by decide) rfl ?_
      refine V_aload_n 39 B dX12_readLayer_39 2 rfl ?_
      refine V_cvv 40 B (st := []) (As := []) (fun sz => rX12_advance l D Y h0 h1 h2 h3 h4 h5 h6 p2 k5 k6 p7 p8 p9 k10 p11 q12 k15 k16 f0 f1 f3 f4 f13 f14 HI (by omega) HP (by omega) sz) glV_RX12_288 ⟨rfl, rfl⟩ ⟨(Nat.le_of_ble_eq_true rfl), (Nat.le_of_ble_eq_true rfl)⟩ ⟨(Nat.le_of_ble_eq_true rfl), (Nat.le_of_ble_eq_true rfl)⟩ [0, 0, 0, 0, 0, 0, 0] rfl 13 0 rfl rfl rfl rfl (Nat.le_of_ble_eq_true rfl) rfl (fun _ _ => rfl) dX12_readLayer_40 (fun u5 w6 => ?_)
      refine V_ws [(h0, oC 13 [.ref h1, .ref h2, .int p2, .ref h3, .ref h4, .int (nI k5), .int (nI (u5.1 0)), .int p7, .int p8, .int (u5.2.1 0), .int (nI (u5.1 1)), .int p11, .long (u5.2.2.1 0), .ref h5, .ref h6, .int (nI k15), .int (nI k16)]), (h1, aI Y 3640 f0), (h2, aZ Y 2 f1), (h3, aZ Y 80 f3), (h4, aB Y 1600 f4), (h5, aI Y 200 f13), (h6, aI Y 800 f14)] rfl ?_
      obtain ⟨x7, x8, x9, x10⟩ := w6
      refine V_aload_n 43 B dX12_readLayer_43 2 rfl ?_
      refine V_cvi 44 B (st := []) (As := []) (fun sz => rX12_readKey l D Y h0 h1 h2 h3 h4 h5 h6 p2 k5 (u5.1 0) p7 p8 (u5.2.1 0) (u5.1 1) p11 (u5.2.2.1 0) k15 k16 f0 f1 f3 f4 f13 f14 HI (by omega) HP (by omega) (by omega) (by first | assumption | exact Or.inl rfl | exact Or.inr (by omega)) sz) glV_RX12_316 ⟨rfl, rfl⟩ ⟨(Nat.le_of_ble_eq_true rfl), (Nat.le_of_ble_eq_true rfl)⟩ ⟨(Nat.le_of_ble_eq_true rfl), (Nat.le_of_ble_eq_true rfl)⟩ [0, 0, 0, 0, 0, 0, 0] rfl 13 0 rfl rfl rfl rfl (Nat.le_of_ble_eq_true rfl) rfl (fun _ _ _ => rfl) dX12_readLayer_44 (fun j11 u12 w13 => ?_)
      refine V_ws [(h0, oC 13 [.ref h1, .ref h2, .int p2, .ref h3, .ref h4, .int (nI k5), .int (nI (u12.1 0)), .int (u12.2.1 0), .int (u12.2.1 1), .int (u12.2.1 2), .int (nI (u12.1 1)), .int (u12.2.1 3), .long (u12.2.2.1 0), .ref h5, .ref h6, .int (nI k15), .int (nI k16)]), (h1, aI Y 3640 f0), (h2, aZ Y 2 f1), (h3, aZ Y 80 f3), (h4, aB Y 1600 f4), (h5, aI Y 200 f13), (h6, aI Y 800 f14)] rfl ?_
      obtain ⟨x14, x15, x16, x17, x18⟩ := w13
      rcases x14 with rfl | ⟨rfl, x19, x20⟩
      ·
        refine V_if_ne_f 47 B 52 dX12_readLayer_47 (by decide) (by decide +kernel) ?_
        refine V_iconst 50 B (v := 0) dX12_readLayer_50 (by decide +kernel) ?_
        exact V_zret 51 B rfl dX12_readLayer_51 (mkW [(u12.1 0), (u12.1 1)] [(u12.2.1 0), (u12.2.1 1), (u12.2.1 2), (u12.2.1 3)] [(u12.2.2.1 0)] [f0] [] []) ⟨(Or.inl rfl), HI, (show k10 ≤ (u12.1 1) by omega), (show (u12.1 1) ≤ (u12.1 0) by omega), (show (u12.1 0) ≤ k5 by omega), (show ((u12.2.1 2) = 0 ∨ (u12.1 1) < (u12.1 0)) by first | assumption | exact Or.inr (by omega))⟩ rfl
      ·
        generalize u12.2.1 3 = j21 at *
        refine V_if_ne_t 47 B 52 dX12_readLayer_47 (by decide) (by decide +kernel) ?_
        refine V_aload_n 52 B dX12_readLayer_52 2 rfl ?_
        refine V_get 53 B gf_RX12_9 0 rfl rfl dX12_readLayer_53 ?_
        refine V_iload_n 56 B dX12_readLayer_56 0 rfl ?_
        refine V_iconst 57 B (v := 0) dX12_readLayer_57 (by decide +kernel) ?_
        refine V_iadd 58 B (v := (nI (3462 + 28 * (gN f0 2722)))) dX12_readLayer_58 (nI_addE (a := 3462 + 28 * (gN f0 2722)) (b := 0) (by omega)) ?_
        refine V_aload_n 59 B dX12_readLayer_59 2 rfl ?_
        refine V_get 60 B gf_RX12_294 0 rfl rfl dX12_readLayer_60 ?_
        have hv22 : INV (upd f0 (3462 + 28 * (gN f0 2722)) j21) := INV_free HI (rl33 (gN f0 2722) (by omega))
        refine V_iast 63 B 1 rfl (vp_in_nI (n := 3462 + 28 * (gN f0 2722)) (by omega) (by decide)) dX12_readLayer_63 [(h0, oC 13 [.ref h1, .ref h2, .int p2, .ref h3, .ref h4, .int (nI k5), .int (nI (u12.1 0)), .int (u12.2.1 0), .int (u12.2.1 1), .int (u12.2.1 2), .int (nI (u12.1 1)), .int j21, .long (u12.2.2.1 0), .ref h5, .ref h6, .int (nI k15), .int (nI k16)]), (h1, aI Y 3640 (upd f0 (3462 + 28 * (gN f0 2722)) j21)), (h2, aZ Y 2 f1), (h3, aZ Y 80 f3), (h4, aB Y 1600 f4), (h5, aI Y 200 f13), (h6, aI Y 800 f14)] (by rw [nI_clamp (show 3462 + 28 * (gN f0 2722) < 2 ^ 31 by omega)]; rfl) ?_
        refine V_iconst 64 B (v := 0) dX12_readLayer_64 (by decide +kernel) ?_
        refine V_istore_n 65 B (lv2 := [(3, .int 0), (2, .int (nI (3462 + 28 * (gN f0 2722)))), (1, .int (nI k10)), (0, .ref h0)]) dX12_readLayer_65 (by decide) rfl ?_
        refine V_iconst 66 B (v := 0) dX12_readLayer_66 (by decide +kernel) ?_
        refine V_istore 67 B (lv2 := [(4, .int 0), (3, .int 0), (2, .int (nI (3462 + 28 * (gN f0 2722)))), (1, .int (nI k10)), (0, .ref h0)]) dX12_readLayer_67 (by decide) rfl ?_
        refine V_wloop (α := WU) (fun a => 100000 - (a.1 0)) (fun a => (a.1 0) ≤ 4000 ∧ ((a.2.1 0) = 0 ∨ (a.2.1 0) = 1)) (fun a => [(4, .int (nI (a.1 0))), (3, .int (a.2.1 0)), (2, .int (nI (3462 + 28 * (gN f0 2722)))), (1, .int (nI k10)), (0, .ref h0)]) (fun a => [(h0, oC 13 [.ref h1, .ref h2, .int p2, .ref h3, .ref h4, .int (nI k5), .int (nI (u12.1 0)), .int (u12.2.1 0), .int (u12.2.1 1), .int (u12.2.1 2), .int (nI (u12.1 1)), .int j21, .long (u12.2.2.1 0), .ref h5, .ref h6, .int (nI k15), .int (nI k16)]), (h1, aI Y 3640 (upd f0 (3462 + 28 * (gN f0 2722)) j21)), (h2, aZ Y 2 f1), (h3, aZ Y 80 f3), (h4, aB Y 1600 f4), (h5, aI Y 200 f13), (h6, aI Y 800 f14)]) (mkW [0] [0] [] [] [] []) ⟨(show 0 ≤ 4000 by omega), (Or.inl rfl)⟩ rfl rfl (fun a23 hI25 IH24 => ?_)
        refine V_lv [(4, .int (nI (a23.1 0))), (3, .int (a23.2.1 0)), (2, .int (nI (3462 + 28 * (gN f0 2722)))), (1, .int (nI k10)), (0, .ref h0)] [0, 1, 2, 3, 4] rfl ?_
        refine V_ws [(h0, oC 13 [.ref h1, .ref h2, .int p2, .ref h3, .ref h4, .int (nI k5), .int (nI (u12.1 0)), .int (u12.2.1 0), .int (u12.2.1 1), .int (u12.2.1 2), .int (nI (u12.1 1)), .int j21, .long (u12.2.2.1 0), .ref h5, .ref h6, .int (nI k15), .int (nI k16)]), (h1, aI Y 3640 (upd f0 (3462 + 28 * (gN f0 2722)) j21)), (h2, aZ Y 2 f1), (h3, aZ Y 80 f3), (h4, aB Y 1600 f4), (h5, aI Y 200 f13), (h6, aI Y 800 f14)] rfl ?_
        obtain ⟨x26, x27⟩ := hI25
        rcases x27 with e28 | e28
        ·
          refine V_lv [(4, .int (nI (a23.1 0))), (3, .int 0), (2, .int (nI (3462 + 28 * (gN f0 2722)))), (1, .int (nI k10)), (0, .ref h0)] [0, 1, 2, 3, 4] (by rw [e28]; rfl) ?_
          refine V_iload 69 B dX12_readLayer_69 0 rfl ?_
          refine V_aload_n 71 B dX12_readLayer_71 4 rfl ?_
          refine V_get 72 B gf_RX12_9 0 rfl rfl dX12_readLayer_72 ?_
          refine V_sipush 75 B (v := 2722) dX12_readLayer_75 (by decide +kernel) ?_
          have x29 : (gN f0 2722) ≤ 4 := gN_le HI (by omega) (show bd 2722 = (0, ((4 : Nat) : Int)) by decide +kernel)
          refine V_iald 78 B (v := (nI (gN f0 2722))) 1 rfl (vpin _ _ (by decide +kernel)) dX12_readLayer_78 (by show (upd f0 (3462 + 28 * (gN f0 2722)) j21) 2722 = _; rw [upd_ne (by omega)]; exact gN_eq HI (by omega) (show bd 2722 = (0, ((4 : Nat) : Int)) by decide +kernel)) ?_
          refine V_icmp_ge 79 B 119 dX12_readLayer_79 (by decide) (fun kk30 => ?_) (fun kk30 => ?_)
          ·
            have x31 := n_le (a := (gN f0 2722)) (b := (a23.1 0)) kk30 (by omega) (by omega)
            refine V_wloop (α := WU) (fun a => 4000 - (a.1 1)) (fun a => INV (a.2.2.2.1 0) ∧ ((a.2.1 1) = 0 ∨ (a.2.1 1) = 1) ∧ (k10 < (a.1 1) ∧ (a.1 1) ≤ (a.1 0) ∧ (a.1 0) ≤ k5 ∧ ((a.2.1 4) = 0 ∨ (a.1 1) < (a.1 0))) ∧ gN (a.2.2.2.1 0) 2722 = gN f0 2722) (fun a => [(4, .int (a.2.1 0)), (3, .int (a.2.1 1)), (2, .int (nI (3462 + 28 * (gN f0 2722)))), (1, .int (nI k10)), (0, .ref h0)]) (fun a => [(h0, oC 13 [.ref h1, .ref h2, .int p2, .ref h3, .ref h4, .int (nI k5), .int (nI (a.1 0)), .int (a.2.1 2), .int (a.2.1 3), .int (a.2.1 4), .int (nI (a.1 1)), .int (a.2.1 5), .long (a.2.2.1 0), .ref h5, .ref h6, .int (nI k15), .int (nI k16)]), (h1, aI Y 3640 (a.2.2.2.1 0)), (h2, aZ Y 2 f1), (h3, aZ Y 80 f3), (h4, aB Y 1600 f4), (h5, aI Y 200 f13), (h6, aI Y 800 f14)]) (mkW [(u12.1 0), (u12.1 1)] [(nI (a23.1 0)), 0, (u12.2.1 0), (u12.2.1 1), (u12.2.1 2), j21] [(u12.2.2.1 0)] [(upd f0 (3462 + 28 * (gN f0 2722)) j21)] [] []) ⟨hv22, (Or.inl rfl), ⟨(show k10 < (u12.1 1) by omega), (show (u12.1 1) ≤ (u12.1 0) by omega), (show (u12.1 0) ≤ k5 by omega), (show ((u12.2.1 2) = 0 ∨ (u12.1 1) < (u12.1 0)) by first | assumption | exact Or.inr (by omega))⟩, (show gN ((upd f0 (3462 + 28 * (gN f0 2722)) j21)) 2722 = gN f0 2722 by rw [gN_ne (by omega)])⟩ rfl rfl (fun a32 hI34 IH33 => ?_)
            refine V_lv [(4, .int (a32.2.1 0)), (3, .int (a32.2.1 1)), (2, .int (nI (3462 + 28 * (gN f0 2722)))), (1, .int (nI k10)), (0, .ref h0)] [0, 1, 2, 3, 4] rfl ?_
            refine V_ws [(h0, oC 13 [.ref h1, .ref h2, .int p2, .ref h3, .ref h4, .int (nI k5), .int (nI (a32.1 0)), .int (a32.2.1 2), .int (a32.2.1 3), .int (a32.2.1 4), .int (nI (a32.1 1)), .int (a32.2.1 5), .long (a32.2.2.1 0), .ref h5, .ref h6, .int (nI k15), .int (nI k16)]), (h1, aI Y 3640 (a32.2.2.2.1 0)), (h2, aZ Y 2 f1), (h3, aZ Y 80 f3), (h4, aB Y 1600 f4), (h5, aI Y 200 f13), (h6, aI Y 800 f14)] rfl ?_
            obtain ⟨x35, x36, x37, x38⟩ := hI34
            obtain ⟨x39, x40, x41, x42⟩ := x37
            have x43 : (gN (a32.2.2.2.1 0) 2722) ≤ 4 := gN_le x35 (by omega) (show bd 2722 = (0, ((4 : Nat) : Int)) by decide +kernel)
            rcases x36 with e44 | e44
            ·
              refine V_lv [(4, .int (a32.2.1 0)), (3, .int 0), (2, .int (nI (3462 + 28 * (gN f0 2722)))), (1, .int (nI k10)), (0, .ref h0)] [0, 1, 2, 3, 4] (by rw [e44]; rfl) ?_
              refine V_aload_n 119 B dX12_readLayer_119 4 rfl ?_
              refine V_get 120 B gf_RX12_283 0 rfl rfl dX12_readLayer_120 ?_
              refine V_iconst 123 B (v := 1) dX12_readLayer_123 (by decide +kernel) ?_
              refine V_icmp_ne 124 B 193 dX12_readLayer_124 (by decide) (fun kk45 => ?_) (fun kk45 => ?_)
              ·
                have x46 := x_ne kk45
                rw [show (1 : Int32).toInt = 1 by decide +kernel] at x46
                refine V_aload_n 193 B dX12_readLayer_193 4 rfl ?_
                refine V_cvi 194 B (st := []) (As := []) (fun sz => rX12_readEnd l D Y h0 h1 h2 h3 h4 h5 h6 p2 k5 (a32.1 0) (a32.2.1 2) (a32.2.1 3) (a32.2.1 4) (a32.1 1) (a32.2.1 5) (a32.2.2.1 0) k15 k16 (a32.2.2.2.1 0) f1 f3 f4 f13 f14 x35 (by omega) HP (by omega) (by omega) (by first | assumption | exact Or.inl rfl | exact Or.inr (by omega)) sz) glV_RX12_304 ⟨rfl, rfl⟩ ⟨(Nat.le_of_ble_eq_true rfl), (Nat.le_of_ble_eq_true rfl)⟩ ⟨(Nat.le_of_ble_eq_true rfl), (Nat.le_of_ble_eq_true rfl)⟩ [0, 0, 0, 0, 0, 0, 0] rfl 13 0 rfl rfl rfl rfl (Nat.le_of_ble_eq_true rfl) rfl (fun _ _ _ => rfl) dX12_readLayer_194 (fun j47 u48 w49 => ?_)
                refine V_ws [(h0, oC 13 [.ref h1, .ref h2, .int p2, .ref h3, .ref h4, .int (nI k5), .int (nI (u48.1 0)), .int (u48.2.1 0), .int (u48.2.1 1), .int (u48.2.1 2), .int (nI (u48.1 1)), .int (a32.2.1 5), .long (u48.2.2.1 0), .ref h5, .ref h6, .int (nI k15), .int (nI k16)]), (h1, aI Y 3640 (a32.2.2.2.1 0)), (h2, aZ Y 2 f1), (h3, aZ Y 80 f3), (h4, aB Y 1600 f4), (h5, aI Y 200 f13), (h6, aI Y 800 f14)] rfl ?_
                obtain ⟨x50, x51, x52, x53, x54⟩ := w49
                rcases x50 with rfl | ⟨rfl, x55⟩
                ·
                  refine V_if_ne_f 197 B 202 dX12_readLayer_197 (by decide) (by decide +kernel) ?_
                  refine V_iconst 200 B (v := 0) dX12_readLayer_200 (by decide +kernel) ?_
                  exact V_zret 201 B rfl dX12_readLayer_201 (mkW [(u48.1 0), (u48.1 1)] [(u48.2.1 0), (u48.2.1 1), (u48.2.1 2), (a32.2.1 5)] [(u48.2.2.1 0)] [(a32.2.2.2.1 0)] [] []) ⟨(Or.inl rfl), x35, (show k10 ≤ (u48.1 1) by omega), (show (u48.1 1) ≤ (u48.1 0) by omega), (show (u48.1 0) ≤ k5 by omega), (show ((u48.2.1 2) = 0 ∨ (u48.1 1) < (u48.1 0)) by first | assumption | exact Or.inr (by omega))⟩ rfl
                ·
                  refine V_if_ne_t 197 B 202 dX12_readLayer_197 (by decide) (by decide +kernel) ?_
                  refine V_iload_n 202 B dX12_readLayer_202 1 rfl ?_
                  refine V_if_eq_t 203 B 213 dX12_readLayer_203 (by decide) (by decide +kernel) ?_
                  refine V_aload_n 213 B dX12_readLayer_213 4 rfl ?_
                  refine V_get 214 B gf_RX12_9 0 rfl rfl dX12_readLayer_214 ?_
                  refine V_sipush 217 B (v := 2722) dX12_readLayer_217 (by decide +kernel) ?_
                  refine V_dup2_11 220 B dX12_readLayer_220 rfl rfl ?_
                  have x56 : (gN (a32.2.2.2.1 0) 2722) ≤ 4 := gN_le x35 (by omega) (show bd 2722 = (0, ((4 : Nat) : Int)) by decide +kernel)
                  refine V_iald 221 B (v := (nI ((gN (a32.2.2.2.1 0) 2722)))) 1 rfl (vpin _ _ (by decide +kernel)) dX12_readLayer_221 (by show (a32.2.2.2.1 0) 2722 = _; exact gN_eq x35 (by omega) (show bd 2722 = (0, ((4 : Nat) : Int)) by decide +kernel)) ?_
                  refine V_iconst 222 B (v := 1) dX12_readLayer_222 (by decide +kernel) ?_
                  refine V_iadd 223 B (v := (nI (1 + (gN (a32.2.2.2.1 0) 2722)))) dX12_readLayer_223 (nI_addE (a := (gN (a32.2.2.2.1 0) 2722)) (b := 1) (by omega)) ?_
                  have hv57 : INV (upd (a32.2.2.2.1 0) 2722 (nI (1 + (gN (a32.2.2.2.1 0) 2722)))) := INV_nat (v := 1 + (gN (a32.2.2.2.1 0) 2722)) x35 (show bd 2722 = (0, ((4 : Nat) : Int)) by decide +kernel) (by omega) (by decide)
                  refine V_iast 224 B 1 rfl (vpin _ _ (by decide +kernel)) dX12_readLayer_224 [(h0, oC 13 [.ref h1, .ref h2, .int p2, .ref h3, .ref h4, .int (nI k5), .int (nI (u48.1 0)), .int (u48.2.1 0), .int (u48.2.1 1), .int (u48.2.1 2), .int (nI (u48.1 1)), .int (a32.2.1 5), .long (u48.2.2.1 0), .ref h5, .ref h6, .int (nI k15), .int (nI k16)]), (h1, aI Y 3640 (upd (a32.2.2.2.1 0) 2722 (nI (1 + (gN (a32.2.2.2.1 0) 2722))))), (h2, aZ Y 2 f1), (h3, aZ Y 80 f3), (h4, aB Y 1600 f4), (h5, aI Y 200 f13), (h6, aI Y 800 f14)] rfl ?_
                  refine V_iconst 225 B (v := 1) dX12_readLayer_225 (by decide +kernel) ?_
                  exact V_zret 226 B rfl dX12_readLayer_226 (mkW [(u48.1 0), (u48.1 1)] [(u48.2.1 0), (u48.2.1 1), (u48.2.1 2), (a32.2.1 5)] [(u48.2.2.1 0)] [(upd (a32.2.2.2.1 0) 2722 (nI (1 + (gN (a32.2.2.2.1 0) 2722))))] [] []) ⟨(Or.inr ⟨rfl, (show k10 < (u48.1 1) by omega)⟩), hv57, (show k10 ≤ (u48.1 1) by omega), (show (u48.1 1) ≤ (u48.1 0) by omega), (show (u48.1 0) ≤ k5 by omega), (show ((u48.2.1 2) = 0 ∨ (u48.1 1) < (u48.1 0)) by first | assumption | exact Or.inr (by omega))⟩ rfl
              ·
                have x58 := x_eq kk45
                rw [show (1 : Int32).toInt = 1 by decide +kernel] at x58
                refine V_aload_n 127 B dX12_readLayer_127 4 rfl ?_
                refine V_cvi 128 B (st := []) (As := []) (fun sz => rX12_readKey l D Y h0 h1 h2 h3 h4 h5 h6 p2 k5 (a32.1 0) (a32.2.1 2) (a32.2.1 3) (a32.2.1 4) (a32.1 1) (a32.2.1 5) (a32.2.2.1 0) k15 k16 (a32.2.2.2.1 0) f1 f3 f4 f13 f14 x35 (by omega) HP (by omega) (by omega) (by first | assumption | exact Or.inl rfl | exact Or.inr (by omega)) sz) glV_RX12_316 ⟨rfl, rfl⟩ ⟨(Nat.le_of_ble_eq_true rfl), (Nat.le_of_ble_eq_true rfl)⟩ ⟨(Nat.le_of_ble_eq_true rfl), (Nat.le_of_ble_eq_true rfl)⟩ [0, 0, 0, 0, 0, 0, 0] rfl 13 0 rfl rfl rfl rfl (Nat.le_of_ble_eq_true rfl) rfl (fun _ _ _ => rfl) dX12_readLayer_128 (fun j59 u60 w61 => ?_)
                refine V_ws [(h0, oC 13 [.ref h1, .ref h2, .int p2, .ref h3, .ref h4, .int (nI k5), .int (nI (u60.1 0)), .int (u60.2.1 0), .int (u60.2.1 1), .int (u60.2.1 2), .int (nI (u60.1 1)), .int (u60.2.1 3), .long (u60.2.2.1 0), .ref h5, .ref h6, .int (nI k15), .int (nI k16)]), (h1, aI Y 3640 (a32.2.2.2.1 0)), (h2, aZ Y 2 f1), (h3, aZ Y 80 f3), (h4, aB Y 1600 f4), (h5, aI Y 200 f13), (h6, aI Y 800 f14)] rfl ?_
                obtain ⟨x62, x63, x64, x65, x66⟩ := w61
                rcases x62 with rfl | ⟨rfl, x67, x68⟩
                ·
                  refine V_if_ne_f 131 B 136 dX12_readLayer_131 (by decide) (by decide +kernel) ?_
                  refine V_iconst 134 B (v := 0) dX12_readLayer_134 (by decide +kernel) ?_
                  exact V_zret 135 B rfl dX12_readLayer_135 (mkW [(u60.1 0), (u60.1 1)] [(u60.2.1 0), (u60.2.1 1), (u60.2.1 2), (u60.2.1 3)] [(u60.2.2.1 0)] [(a32.2.2.2.1 0)] [] []) ⟨(Or.inl rfl), x35, (show k10 ≤ (u60.1 1) by omega), (show (u60.1 1) ≤ (u60.1 0) by omega), (show (u60.1 0) ≤ k5 by omega), (show ((u60.2.1 2) = 0 ∨ (u60.1 1) < (u60.1 0)) by first | assumption | exact Or.inr (by omega))⟩ rfl
                ·
                  generalize u60.2.1 3 = j69 at *
                  refine V_if_ne_t 131 B 136 dX12_readLayer_131 (by decide) (by decide +kernel) ?_
                  refine V_aload_n 136 B dX12_readLayer_136 4 rfl ?_
                  refine V_get 137 B gf_RX12_294 0 rfl rfl dX12_readLayer_137 ?_
                  refine V_istore 140 B (lv2 := [(4, .int j69), (3, .int 0), (2, .int (nI (3462 + 28 * (gN f0 2722)))), (1, .int (nI k10)), (0, .ref h0)]) dX12_readLayer_140 (by decide) rfl ?_
                  refine V_aload_n 142 B dX12_readLayer_142 4 rfl ?_
                  refine V_cvi 143 B (st := []) (As := []) (fun sz => rX12_readKey l D Y h0 h1 h2 h3 h4 h5 h6 p2 k5 (u60.1 0) (u60.2.1 0) (u60.2.1 1) (u60.2.1 2) (u60.1 1) j69 (u60.2.2.1 0) k15 k16 (a32.2.2.2.1 0) f1 f3 f4 f13 f14 x35 (by omega) HP (by omega) (by omega) (by first | assumption | exact Or.inl rfl | exact Or.inr (by omega)) sz) glV_RX12_316 ⟨rfl, rfl⟩ ⟨(Nat.le_of_ble_eq_true rfl), (Nat.le_of_ble_eq_true rfl)⟩ ⟨(Nat.le_of_ble_eq_true rfl), (Nat.le_of_ble_eq_true rfl)⟩ [0, 0, 0, 0, 0, 0, 0] rfl 13 0 rfl rfl rfl rfl (Nat.le_of_ble_eq_true rfl) rfl (fun _ _ _ => rfl) dX12_readLayer_143 (fun j70 u71 w72 => ?_)
                  refine V_ws [(h0, oC 13 [.ref h1, .ref h2, .int p2, .ref h3, .ref h4, .int (nI k5), .int (nI (u71.1 0)), .int (u71.2.1 0), .int (u71.2.1 1), .int (u71.2.1 2), .int (nI (u71.1 1)), .int (u71.2.1 3), .long (u71.2.2.1 0), .ref h5, .ref h6, .int (nI k15), .int (nI k16)]), (h1, aI Y 3640 (a32.2.2.2.1 0)), (h2, aZ Y 2 f1), (h3, aZ Y 80 f3), (h4, aB Y 1600 f4), (h5, aI Y 200 f13), (h6, aI Y 800 f14)] rfl ?_
                  obtain ⟨x73, x74, x75, x76, x77⟩ := w72
                  rcases x73 with rfl | ⟨rfl, x78, x79⟩
                  ·
                    refine V_if_ne_f 146 B 151 dX12_readLayer_146 (by decide) (by decide +kernel) ?_
                    refine V_iconst 149 B (v := 0) dX12_readLayer_149 (by decide +kernel) ?_
                    exact V_zret 150 B rfl dX12_readLayer_150 (mkW [(u71.1 0), (u71.1 1)] [(u71.2.1 0), (u71.2.1 1), (u71.2.1 2), (u71.2.1 3)] [(u71.2.2.1 0)] [(a32.2.2.2.1 0)] [] []) ⟨(Or.inl rfl), x35, (show k10 ≤ (u71.1 1) by omega), (show (u71.1 1) ≤ (u71.1 0) by omega), (show (u71.1 0) ≤ k5 by omega), (show ((u71.2.1 2) = 0 ∨ (u71.1 1) < (u71.1 0)) by first | assumption | exact Or.inr (by omega))⟩ rfl
                  ·
                    generalize u71.2.1 3 = j80 at *
                    refine V_if_ne_t 146 B 151 dX12_readLayer_146 (by decide) (by decide +kernel) ?_
                    refine V_iload_n 151 B dX12_readLayer_151 1 rfl ?_
                    refine V_aload_n 152 B dX12_readLayer_152 4 rfl ?_
                    refine V_get 153 B gf_RX12_9 0 rfl rfl dX12_readLayer_153 ?_
                    refine V_iload_n 156 B dX12_readLayer_156 2 rfl ?_
                    refine V_iconst 157 B (v := 2) dX12_readLayer_157 (by decide +kernel) ?_
                    refine V_iadd 158 B (v := (nI (3464 + 28 * (gN f0 2722)))) dX12_readLayer_158 (nI_addE (a := 3462 + 28 * (gN f0 2722)) (b := 2) (by omega)) ?_
                    refine V_iload 159 B dX12_readLayer_159 0 rfl ?_
                    obtain ⟨n81, x82, rfl⟩ := nat_of (x := j69) (n := 25) (by omega) (by omega)
                    have e83 := nI_toInt (show n81 < 2 ^ 31 by omega)
                    refine V_iadd 161 B (v := (nI (3464 + 28 * (gN f0 2722) + n81))) dX12_readLayer_161 (nI_addE (a := 3464 + 28 * (gN f0 2722)) (b := n81) (by omega)) ?_
                    refine V_iald 162 B (v := (a32.2.2.2.1 0) (3464 + 28 * (gN f0 2722) + n81)) 1 rfl (vp_in_nI (n := 3464 + 28 * (gN f0 2722) + n81) (by omega) (by decide)) dX12_readLayer_162 (by rw [nI_clamp (show 3464 + 28 * (gN f0 2722) + n81 < 2 ^ 31 by omega)]) ?_
                    refine V_nmi (fun j84 e85 => ?_)
                    refine V_if_le 163 B 170 dX12_readLayer_163 (by decide) (fun kk86 => ?_) (fun kk86 => ?_)
                    ·
                      have x87 := x_le kk86
                      rw [show (0 : Int32).toInt = 0 by decide +kernel] at x87
                      refine V_iconst 170 B (v := 0) dX12_readLayer_170 (by decide +kernel) ?_
                      refine V_ior 171 B (v := 0) dX12_readLayer_171 (by decide +kernel) ?_
                      refine V_istore_n 172 B (lv2 := [(3, .int 0), (4, .int (nI n81)), (2, .int (nI (3462 + 28 * (gN f0 2722)))), (1, .int (nI k10)), (0, .ref h0)]) dX12_readLayer_172 (by decide) rfl ?_
                      refine V_aload_n 173 B dX12_readLayer_173 4 rfl ?_
                      refine V_get 174 B gf_RX12_9 0 rfl rfl dX12_readLayer_174 ?_
                      refine V_iload_n 177 B dX12_readLayer_177 2 rfl ?_
                      refine V_iconst 178 B (v := 2) dX12_readLayer_178 (by decide +kernel) ?_
                      refine V_iadd 179 B (v := (nI (3464 + 28 * (gN f0 2722)))) dX12_readLayer_179 (nI_addE (a := 3462 + 28 * (gN f0 2722)) (b := 2) (by omega)) ?_
                      refine V_iload 180 B dX12_readLayer_180 1 rfl ?_
                      refine V_iadd 182 B (v := (nI (3464 + 28 * (gN f0 2722) + n81))) dX12_readLayer_182 (nI_addE (a := 3464 + 28 * (gN f0 2722)) (b := n81) (by omega)) ?_
                      refine V_aload_n 183 B dX12_readLayer_183 4 rfl ?_
                      refine V_get 184 B gf_RX12_294 0 rfl rfl dX12_readLayer_184 ?_
                      refine V_iconst 187 B (v := 1) dX12_readLayer_187 (by decide +kernel) ?_
                      obtain ⟨n88, x89, rfl⟩ := nat_of (x := j80) (n := 25) (by omega) (by omega)
                      have e90 := nI_toInt (show n88 < 2 ^ 31 by omega)
                      refine V_iadd 188 B (v := (nI (1 + n88))) dX12_readLayer_188 (nI_addE (a := n88) (b := 1) (by omega)) ?_
                      have hv91 : INV (upd (a32.2.2.2.1 0) (3464 + 28 * (gN f0 2722) + n81) (nI (1 + n88))) := INV_free x35 (rl34 (gN f0 2722) (by omega) n81 (by omega))
                      refine V_iast 189 B 1 rfl (vp_in_nI (n := 3464 + 28 * (gN f0 2722) + n81) (by omega) (by decide)) dX12_readLayer_189 [(h0, oC 13 [.ref h1, .ref h2, .int p2, .ref h3, .ref h4, .int (nI k5), .int (nI (u71.1 0)), .int (u71.2.1 0), .int (u71.2.1 1), .int (u71.2.1 2), .int (nI (u71.1 1)), .int (nI n88), .long (u71.2.2.1 0), .ref h5, .ref h6, .int (nI k15), .int (nI k16)]), (h1, aI Y 3640 (upd (a32.2.2.2.1 0) (3464 + 28 * (gN f0 2722) + n81) (nI (1 + n88)))), (h2, aZ Y 2 f1), (h3, aZ Y 80 f3), (h4, aB Y 1600 f4), (h5, aI Y 200 f13), (h6, aI Y 800 f14)] (by rw [nI_clamp (show 3464 + 28 * (gN f0 2722) + n81 < 2 ^ 31 by omega)]; rfl) ?_
                      refine V_goto 190 B 119 dX12_readLayer_190 (by decide) ?_
                      refine V_lv [(4, .int (nI n81)), (3, .int 0), (2, .int (nI (3462 + 28 * (gN f0 2722)))), (1, .int (nI k10)), (0, .ref h0)] [1, 0, 2, 3, 4] rfl ?_
                      exact IH33 (mkW [(u71.1 0), (u71.1 1)] [(nI n81), 0, (u71.2.1 0), (u71.2.1 1), (u71.2.1 2), (nI n88)] [(u71.2.2.1 0)] [(upd (a32.2.2.2.1 0) (3464 + 28 * (gN f0 2722) + n81) (nI (1 + n88)))] [] []) ⟨hv91, (Or.inl rfl), ⟨(show k10 < (u71.1 1) by omega), (show (u71.1 1) ≤ (u71.1 0) by omega), (show (u71.1 0) ≤ k5 by omega), (show ((u71.2.1 2) = 0 ∨ (u71.1 1) < (u71.1 0)) by first | assumption | exact Or.inr (by omega))⟩, ((gN_ne (by omega)).trans x38)⟩ (by show 4000 - ((u71.1 1)) < _; omega)
                    ·
                      have x92 := x_nle kk86
                      rw [show (0 : Int32).toInt = 0 by decide +kernel] at x92
                      refine V_iconst 166 B (v := 1) dX12_readLayer_166 (by decide +kernel) ?_
                      refine V_goto 167 B 171 dX12_readLayer_167 (by decide) ?_
                      refine V_ior 171 B (v := 1) dX12_readLayer_171 (by decide +kernel) ?_
                      refine V_istore_n 172 B (lv2 := [(3, .int 1), (4, .int (nI n81)), (2, .int (nI (3462 + 28 * (gN f0 2722)))), (1, .int (nI k10)), (0, .ref h0)]) dX12_readLayer_172 (by decide) rfl ?_
                      refine V_aload_n 173 B dX12_readLayer_173 4 rfl ?_
                      refine V_get 174 B gf_RX12_9 0 rfl rfl dX12_readLayer_174 ?_
                      refine V_iload_n 177 B dX12_readLayer_177 2 rfl ?_
                      refine V_iconst 178 B (v := 2) dX12_readLayer_178 (by decide +kernel) ?_
                      refine V_iadd 179 B (v := (nI (3464 + 28 * (gN f0 2722)))) dX12_readLayer_179 (nI_addE (a := 3462 + 28 * (gN f0 2722)) (b := 2) (by omega)) ?_
                      refine V_iload 180 B dX12_readLayer_180 1 rfl ?_
                      refine V_iadd 182 B (v := (nI (3464 + 28 * (gN f0 2722) + n81))) dX12_readLayer_182 (nI_addE (a := 3464 + 28 * (gN f0 2722)) (b := n81) (by omega)) ?_
                      refine V_aload_n 183 B dX12_readLayer_183 4 rfl ?_
                      refine V_get 184 B gf_RX12_294 0 rfl rfl dX12_readLayer_184 ?_
                      refine V_iconst 187 B (v := 1) dX12_readLayer_187 (by decide +kernel) ?_
                      obtain ⟨n93, x94, rfl⟩ := nat_of (x := j80) (n := 25) (by omega) (by omega)
                      have e95 := nI_toInt (show n93 < 2 ^ 31 by omega)
                      refine V_iadd 188 B (v := (nI (1 + n93))) dX12_readLayer_188 (nI_addE (a := n93) (b := 1) (by omega)) ?_
                      have hv96 : INV (upd (a32.2.2.2.1 0) (3464 + 28 * (gN f0 2722) + n81) (nI (1 + n93))) := INV_free x35 (rl34 (gN f0 2722) (by omega) n81 (by omega))
                      refine V_iast 189 B 1 rfl (vp_in_nI (n := 3464 + 28 * (gN f0 2722) + n81) (by omega) (by decide)) dX12_readLayer_189 [(h0, oC 13 [.ref h1, .ref h2, .int p2, .ref h3, .ref h4, .int (nI k5), .int (nI (u71.1 0)), .int (u71.2.1 0), .int (u71.2.1 1), .int (u71.2.1 2), .int (nI (u71.1 1)), .int (nI n93), .long (u71.2.2.1 0), .ref h5, .ref h6, .int (nI k15), .int (nI k16)]), (h1, aI Y 3640 (upd (a32.2.2.2.1 0) (3464 + 28 * (gN f0 2722) + n81) (nI (1 + n93)))), (h2, aZ Y 2 f1), (h3, aZ Y 80 f3), (h4, aB Y 1600 f4), (h5, aI Y 200 f13), (h6, aI Y 800 f14)] (by rw [nI_clamp (show 3464 + 28 * (gN f0 2722) + n81 < 2 ^ 31 by omega)]; rfl) ?_
                      refine V_goto 190 B 119 dX12_readLayer_190 (by decide) ?_
                      refine V_lv [(4, .int (nI n81)), (3, .int 1), (2, .int (nI (3462 + 28 * (gN f0 2722)))), (1, .int (nI k10)), (0, .ref h0)] [1, 0, 2, 3, 4] rfl ?_
                      exact IH33 (mkW [(u71.1 0), (u71.1 1)] [(nI n81), 1, (u71.2.1 0), (u71.2.1 1), (u71.2.1 2), (nI n93)] [(u71.2.2.1 0)] [(upd (a32.2.2.2.1 0) (3464 + 28 * (gN f0 2722) + n81) (nI (1 + n93)))] [] []) ⟨hv96, (Or.inr rfl), ⟨(show k10 < (u71.1 1) by omega), (show (u71.1 1) ≤ (u71.1 0) by omega), (show (u71.1 0) ≤ k5 by omega), (show ((u71.2.1 2) = 0 ∨ (u71.1 1) < (u71.1 0)) by first | assumption | exact Or.inr (by omega))⟩, ((gN_ne (by omega)).trans x38)⟩ (by show 4000 - ((u71.1 1)) < _; omega)
            ·
              refine V_lv [(4, .int (a32.2.1 0)), (3, .int 1), (2, .int (nI (3462 + 28 * (gN f0 2722)))), (1, .int (nI k10)), (0, .ref h0)] [0, 1, 2, 3, 4] (by rw [e44]; rfl) ?_
              refine V_aload_n 119 B dX12_readLayer_119 4 rfl ?_
              refine V_get 120 B gf_RX12_283 0 rfl rfl dX12_readLayer_120 ?_
              refine V_iconst 123 B (v := 1) dX12_readLayer_123 (by decide +kernel) ?_
              refine V_icmp_ne 124 B 193 dX12_readLayer_124 (by decide) (fun kk97 => ?_) (fun kk97 => ?_)
              ·
                have x98 := x_ne kk97
                rw [show (1 : Int32).toInt = 1 by decide +kernel] at x98
                refine V_aload_n 193 B dX12_readLayer_193 4 rfl ?_
                refine V_cvi 194 B (st := []) (As := []) (fun sz => rX12_readEnd l D Y h0 h1 h2 h3 h4 h5 h6 p2 k5 (a32.1 0) (a32.2.1 2) (a32.2.1 3) (a32.2.1 4) (a32.1 1) (a32.2.1 5) (a32.2.2.1 0) k15 k16 (a32.2.2.2.1 0) f1 f3 f4 f13 f14 x35 (by omega) HP (by omega) (by omega) (by first | assumption | exact Or.inl rfl | exact Or.inr (by omega)) sz) glV_RX12_304 ⟨rfl, rfl⟩ ⟨(Nat.le_of_ble_eq_true rfl), (Nat.le_of_ble_eq_true rfl)⟩ ⟨(Nat.le_of_ble_eq_true rfl), (Nat.le_of_ble_eq_true rfl)⟩ [0, 0, 0, 0, 0, 0, 0] rfl 13 0 rfl rfl rfl rfl (Nat.le_of_ble_eq_true rfl) rfl (fun _ _ _ => rfl) dX12_readLayer_194 (fun j99 u100 w101 => ?_)
                refine V_ws [(h0, oC 13 [.ref h1, .ref h2, .int p2, .ref h3, .ref h4, .int (nI k5), .int (nI (u100.1 0)), .int (u100.2.1 0), .int (u100.2.1 1), .int (u100.2.1 2), .int (nI (u100.1 1)), .int (a32.2.1 5), .long (u100.2.2.1 0), .ref h5, .ref h6, .int (nI k15), .int (nI k16)]), (h1, aI Y 3640 (a32.2.2.2.1 0)), (h2, aZ Y 2 f1), (h3, aZ Y 80 f3), (h4, aB Y 1600 f4), (h5, aI Y 200 f13), (h6, aI Y 800 f14)] rfl ?_
                obtain ⟨x102, x103, x104, x105, x106⟩ := w101
                rcases x102 with rfl | ⟨rfl, x107⟩
                ·
                  refine V_if_ne_f 197 B 202 dX12_readLayer_197 (by decide) (by decide +kernel) ?_
                  refine V_iconst 200 B (v := 0) dX12_readLayer_200 (by decide +kernel) ?_
                  exact V_zret 201 B rfl dX12_readLayer_201 (mkW [(u100.1 0), (u100.1 1)] [(u100.2.1 0), (u100.2.1 1), (u100.2.1 2), (a32.2.1 5)] [(u100.2.2.1 0)] [(a32.2.2.2.1 0)] [] []) ⟨(Or.inl rfl), x35, (show k10 ≤ (u100.1 1) by omega), (show (u100.1 1) ≤ (u100.1 0) by omega), (show (u100.1 0) ≤ k5 by omega), (show ((u100.2.1 2) = 0 ∨ (u100.1 1) < (u100.1 0)) by first | assumption | exact Or.inr (by omega))⟩ rfl
                ·
                  refine V_if_ne_t 197 B 202 dX12_readLayer_197 (by decide) (by decide +kernel) ?_
                  refine V_iload_n 202 B dX12_readLayer_202 1 rfl ?_
                  refine V_if_eq_f 203 B 213 dX12_readLayer_203 (by decide) (by decide +kernel) ?_
                  refine V_aload_n 206 B dX12_readLayer_206 4 rfl ?_
                  refine V_iconst 207 B (v := 4) dX12_readLayer_207 (by decide +kernel) ?_
                  refine V_iload_n 208 B dX12_readLayer_208 3 rfl ?_
                  refine V_cvi 209 B (st := []) (As := [.int 4, .int (nI k10)]) (fun sz => rX12_failAt l D Y h0 h1 h2 h3 h4 h5 h6 p2 k5 (u100.1 0) (u100.2.1 0) (u100.2.1 1) (u100.2.1 2) (u100.1 1) (a32.2.1 5) (u100.2.2.1 0) k15 k16 (a32.2.2.2.1 0) f1 f3 f4 f13 f14 x35 (by omega) HP 4 (nI k10) sz) glV_RX12_313 ⟨rfl, rfl⟩ ⟨(Nat.le_of_ble_eq_true rfl), (Nat.le_of_ble_eq_true rfl)⟩ ⟨(Nat.le_of_ble_eq_true rfl), (Nat.le_of_ble_eq_true rfl)⟩ [0, 0, 0, 0, 0, 0, 0] rfl 13 0 rfl rfl rfl rfl (Nat.le_of_ble_eq_true rfl) rfl (fun _ _ _ => rfl) dX12_readLayer_209 (fun j108 u109 w110 => ?_)
                  refine V_ws [(h0, oC 13 [.ref h1, .ref h2, .int p2, .ref h3, .ref h4, .int (nI k5), .int (nI (u100.1 0)), .int (u109.2.1 0), .int (u109.2.1 1), .int (u100.2.1 2), .int (nI (u100.1 1)), .int (a32.2.1 5), .long (u100.2.2.1 0), .ref h5, .ref h6, .int (nI k15), .int (nI k16)]), (h1, aI Y 3640 (a32.2.2.2.1 0)), (h2, aZ Y 2 f1), (h3, aZ Y 80 f3), (h4, aB Y 1600 f4), (h5, aI Y 200 f13), (h6, aI Y 800 f14)] rfl ?_
                  have x111 := w110
                  clear w110
                  obtain rfl := x111
                  exact V_zret 212 B rfl dX12_readLayer_212 (mkW [(u100.1 0), (u100.1 1)] [(u109.2.1 0), (u109.2.1 1), (u100.2.1 2), (a32.2.1 5)] [(u100.2.2.1 0)] [(a32.2.2.2.1 0)] [] []) ⟨(Or.inl rfl), x35, (show k10 ≤ (u100.1 1) by omega), (show (u100.1 1) ≤ (u100.1 0) by omega), (show (u100.1 0) ≤ k5 by omega), (show ((u100.2.1 2) = 0 ∨ (u100.1 1) < (u100.1 0)) by first | assumption | exact Or.inr (by omega))⟩ rfl
              ·
                have x112 := x_eq kk97
                rw [show (1 : Int32).toInt = 1 by decide +kernel] at x112
                refine V_aload_n 127 B dX12_readLayer_127 4 rfl ?_
                refine V_cvi 128 B (st := []) (As := []) (fun sz => rX12_readKey l D Y h0 h1 h2 h3 h4 h5 h6 p2 k5 (a32.1 0) (a32.2.1 2) (a32.2.1 3) (a32.2.1 4) (a32.1 1) (a32.2.1 5) (a32.2.2.1 0) k15 k16 (a32.2.2.2.1 0) f1 f3 f4 f13 f14 x35 (by omega) HP (by omega) (by omega) (by first | assumption | exact Or.inl rfl | exact Or.inr (by omega)) sz) glV_RX12_316 ⟨rfl, rfl⟩ ⟨(Nat.le_of_ble_eq_true rfl), (Nat.le_of_ble_eq_true rfl)⟩ ⟨(Nat.le_of_ble_eq_true rfl), (Nat.le_of_ble_eq_true rfl)⟩ [0, 0, 0, 0, 0, 0, 0] rfl 13 0 rfl rfl rfl rfl (Nat.le_of_ble_eq_true rfl) rfl (fun _ _ _ => rfl) dX12_readLayer_128 (fun j113 u114 w115 => ?_)
                refine V_ws [(h0, oC 13 [.ref h1, .ref h2, .int p2, .ref h3, .ref h4, .int (nI k5), .int (nI (u114.1 0)), .int (u114.2.1 0), .int (u114.2.1 1), .int (u114.2.1 2), .int (nI (u114.1 1)), .int (u114.2.1 3), .long (u114.2.2.1 0), .ref h5, .ref h6, .int (nI k15), .int (nI k16)]), (h1, aI Y 3640 (a32.2.2.2.1 0)), (h2, aZ Y 2 f1), (h3, aZ Y 80 f3), (h4, aB Y 1600 f4), (h5, aI Y 200 f13), (h6, aI Y 800 f14)] rfl ?_
                obtain ⟨x116, x117, x118, x119, x120⟩ := w115
                rcases x116 with rfl | ⟨rfl, x121, x122⟩
                ·
                  refine V_if_ne_f 131 B 136 dX12_readLayer_131 (by decide) (by decide +kernel) ?_
                  refine V_iconst 134 B (v := 0) dX12_readLayer_134 (by decide +kernel) ?_
                  exact V_zret 135 B rfl dX12_readLayer_135 (mkW [(u114.1 0), (u114.1 1)] [(u114.2.1 0), (u114.2.1 1), (u114.2.1 2), (u114.2.1 3)] [(u114.2.2.1 0)] [(a32.2.2.2.1 0)] [] []) ⟨(Or.inl rfl), x35, (show k10 ≤ (u114.1 1) by omega), (show (u114.1 1) ≤ (u114.1 0) by omega), (show (u114.1 0) ≤ k5 by omega), (show ((u114.2.1 2) = 0 ∨ (u114.1 1) < (u114.1 0)) by first | assumption | exact Or.inr (by omega))⟩ rfl
                ·
                  generalize u114.2.1 3 = j123 at *
                  refine V_if_ne_t 131 B 136 dX12_readLayer_131 (by decide) (by decide +kernel) ?_
                  refine V_aload_n 136 B dX12_readLayer_136 4 rfl ?_
                  refine V_get 137 B gf_RX12_294 0 rfl rfl dX12_readLayer_137 ?_
                  refine V_istore 140 B (lv2 := [(4, .int j123), (3, .int 1), (2, .int (nI (3462 + 28 * (gN f0 2722)))), (1, .int (nI k10)), (0, .ref h0)]) dX12_readLayer_140 (by decide) rfl ?_
                  refine V_aload_n 142 B dX12_readLayer_142 4 rfl ?_
                  refine V_cvi 143 B (st := []) (As := []) (fun sz => rX12_readKey l D Y h0 h1 h2 h3 h4 h5 h6 p2 k5 (u114.1 0) (u114.2.1 0) (u114.2.1 1) (u114.2.1 2) (u114.1 1) j123 (u114.2.2.1 0) k15 k16 (a32.2.2.2.1 0) f1 f3 f4 f13 f14 x35 (by omega) HP (by omega) (by omega) (by first | assumption | exact Or.inl rfl | exact Or.inr (by omega)) sz) glV_RX12_316 ⟨rfl, rfl⟩ ⟨(Nat.le_of_ble_eq_true rfl), (Nat.le_of_ble_eq_true rfl)⟩ ⟨(Nat.le_of_ble_eq_true rfl), (Nat.le_of_ble_eq_true rfl)⟩ [0, 0, 0, 0, 0, 0, 0] rfl 13 0 rfl rfl rfl rfl (Nat.le_of_ble_eq_true rfl) rfl (fun _ _ _ => rfl) dX12_readLayer_143 (fun j124 u125 w126 => ?_)
                  refine V_ws [(h0, oC 13 [.ref h1, .ref h2, .int p2, .ref h3, .ref h4, .int (nI k5), .int (nI (u125.1 0)), .int (u125.2.1 0), .int (u125.2.1 1), .int (u125.2.1 2), .int (nI (u125.1 1)), .int (u125.2.1 3), .long (u125.2.2.1 0), .ref h5, .ref h6, .int (nI k15), .int (nI k16)]), (h1, aI Y 3640 (a32.2.2.2.1 0)), (h2, aZ Y 2 f1), (h3, aZ Y 80 f3), (h4, aB Y 1600 f4), (h5, aI Y 200 f13), (h6, aI Y 800 f14)] rfl ?_
                  obtain ⟨x127, x128, x129, x130, x131⟩ := w126
                  rcases x127 with rfl | ⟨rfl, x132, x133⟩
                  ·
                    refine V_if_ne_f 146 B 151 dX12_readLayer_146 (by decide) (by decide +kernel) ?_
                    refine V_iconst 149 B (v := 0) dX12_readLayer_149 (by decide +kernel) ?_
                    exact V_zret 150 B rfl dX12_readLayer_150 (mkW [(u125.1 0), (u125.1 1)] [(u125.2.1 0), (u125.2.1 1), (u125.2.1 2), (u125.2.1 3)] [(u125.2.2.1 0)] [(a32.2.2.2.1 0)] [] []) ⟨(Or.inl rfl), x35, (show k10 ≤ (u125.1 1) by omega), (show (u125.1 1) ≤ (u125.1 0) by omega), (show (u125.1 0) ≤ k5 by omega), (show ((u125.2.1 2) = 0 ∨ (u125.1 1) < (u125.1 0)) by first | assumption | exact Or.inr (by omega))⟩ rfl
                  ·
                    generalize u125.2.1 3 = j134 at *
                    refine V_if_ne_t 146 B 151 dX12_readLayer_146 (by decide) (by decide +kernel) ?_
                    refine V_iload_n 151 B dX12_readLayer_151 1 rfl ?_
                    refine V_aload_n 152 B dX12_readLayer_152 4 rfl ?_
                    refine V_get 153 B gf_RX12_9 0 rfl rfl dX12_readLayer_153 ?_
                    refine V_iload_n 156 B dX12_readLayer_156 2 rfl ?_
                    refine V_iconst 157 B (v := 2) dX12_readLayer_157 (by decide +kernel) ?_
                    refine V_iadd 158 B (v := (nI (3464 + 28 * (gN f0 2722)))) dX12_readLayer_158 (nI_addE (a := 3462 + 28 * (gN f0 2722)) (b := 2) (by omega)) ?_
                    refine V_iload 159 B dX12_readLayer_159 0 rfl ?_
                    obtain ⟨n135, x136, rfl⟩ := nat_of (x := j123) (n := 25) (by omega) (by omega)
                    have e137 := nI_toInt (show n135 < 2 ^ 31 by omega)
                    refine V_iadd 161 B (v := (nI (3464 + 28 * (gN f0 2722) + n135))) dX12_readLayer_161 (nI_addE (a := 3464 + 28 * (gN f0 2722)) (b := n135) (by omega)) ?_
                    refine V_iald 162 B (v := (a32.2.2.2.1 0) (3464 + 28 * (gN f0 2722) + n135)) 1 rfl (vp_in_nI (n := 3464 + 28 * (gN f0 2722) + n135) (by omega) (by decide)) dX12_readLayer_162 (by rw [nI_clamp (show 3464 + 28 * (gN f0 2722) + n135 < 2 ^ 31 by omega)]) ?_
                    refine V_nmi (fun j138 e139 => ?_)
                    refine V_if_le 163 B 170 dX12_readLayer_163 (by decide) (fun kk140 => ?_) (fun kk140 => ?_)
                    ·
                      have x141 := x_le kk140
                      rw [show (0 : Int32).toInt = 0 by decide +kernel] at x141
                      refine V_iconst 170 B (v := 0) dX12_readLayer_170 (by decide +kernel) ?_
                      refine V_ior 171 B (v := 1) dX12_readLayer_171 (by decide +kernel) ?_
                      refine V_istore_n 172 B (lv2 := [(3, .int 1), (4, .int (nI n135)), (2, .int (nI (3462 + 28 * (gN f0 2722)))), (1, .int (nI k10)), (0, .ref h0)]) dX12_readLayer_172 (by decide) rfl ?_
                      refine V_aload_n 173 B dX12_readLayer_173 4 rfl ?_
                      refine V_get 174 B gf_RX12_9 0 rfl rfl dX12_readLayer_174 ?_
                      refine V_iload_n 177 B dX12_readLayer_177 2 rfl ?_
                      refine V_iconst 178 B (v := 2) dX12_readLayer_178 (by decide +kernel) ?_
                      refine V_iadd 179 B (v := (nI (3464 + 28 * (gN f0 2722)))) dX12_readLayer_179 (nI_addE (a := 3462 + 28 * (gN f0 2722)) (b := 2) (by omega)) ?_
                      refine V_iload 180 B dX12_readLayer_180 1 rfl ?_
                      refine V_iadd 182 B (v := (nI (3464 + 28 * (gN f0 2722) + n135))) dX12_readLayer_182 (nI_addE (a := 3464 + 28 * (gN f0 2722)) (b := n135) (by omega)) ?_
                      refine V_aload_n 183 B dX12_readLayer_183 4 rfl ?_
                      refine V_get 184 B gf_RX12_294 0 rfl rfl dX12_readLayer_184 ?_
                      refine V_iconst 187 B (v := 1) dX12_readLayer_187 (by decide +kernel) ?_
                      obtain ⟨n142, x143, rfl⟩ := nat_of (x := j134) (n := 25) (by omega) (by omega)
                      have e144 := nI_toInt (show n142 < 2 ^ 31 by omega)
                      refine V_iadd 188 B (v := (nI (1 + n142))) dX12_readLayer_188 (nI_addE (a := n142) (b := 1) (by omega)) ?_
                      have hv145 : INV (upd (a32.2.2.2.1 0) (3464 + 28 * (gN f0 2722) + n135) (nI (1 + n142))) := INV_free x35 (rl34 (gN f0 2722) (by omega) n135 (by omega))
                      refine V_iast 189 B 1 rfl (vp_in_nI (n := 3464 + 28 * (gN f0 2722) + n135) (by omega) (by decide)) dX12_readLayer_189 [(h0, oC 13 [.ref h1, .ref h2, .int p2, .ref h3, .ref h4, .int (nI k5), .int (nI (u125.1 0)), .int (u125.2.1 0), .int (u125.2.1 1), .int (u125.2.1 2), .int (nI (u125.1 1)), .int (nI n142), .long (u125.2.2.1 0), .ref h5, .ref h6, .int (nI k15), .int (nI k16)]), (h1, aI Y 3640 (upd (a32.2.2.2.1 0) (3464 + 28 * (gN f0 2722) + n135) (nI (1 + n142)))), (h2, aZ Y 2 f1), (h3, aZ Y 80 f3), (h4, aB Y 1600 f4), (h5, aI Y 200 f13), (h6, aI Y 800 f14)] (by rw [nI_clamp (show 3464 + 28 * (gN f0 2722) + n135 < 2 ^ 31 by omega)]; rfl) ?_
                      refine V_goto 190 B 119 dX12_readLayer_190 (by decide) ?_
                      refine V_lv [(4, .int (nI n135)), (3, .int 1), (2, .int (nI (3462 + 28 * (gN f0 2722)))), (1, .int (nI k10)), (0, .ref h0)] [1, 0, 2, 3, 4] rfl ?_
                      exact IH33 (mkW [(u125.1 0), (u125.1 1)] [(nI n135), 1, (u125.2.1 0), (u125.2.1 1), (u125.2.1 2), (nI n142)] [(u125.2.2.1 0)] [(upd (a32.2.2.2.1 0) (3464 + 28 * (gN f0 2722) + n135) (nI (1 + n142)))] [] []) ⟨hv145, (Or.inr rfl), ⟨(show k10 < (u125.1 1) by omega), (show (u125.1 1) ≤ (u125.1 0) by omega), (show (u125.1 0) ≤ k5 by omega), (show ((u125.2.1 2) = 0 ∨ (u125.1 1) < (u125.1 0)) by first | assumption | exact Or.inr (by omega))⟩, ((gN_ne (by omega)).trans x38)⟩ (by show 4000 - ((u125.1 1)) < _; omega)
                    ·
                      have x146 := x_nle kk140
                      rw [show (0 : Int32).toInt = 0 by decide +kernel] at x146
                      refine V_iconst 166 B (v := 1) dX12_readLayer_166 (by decide +kernel) ?_
                      refine V_goto 167 B 171 dX12_readLayer_167 (by decide) ?_
                      refine V_ior 171 B (v := 1) dX12_readLayer_171 (by decide +kernel) ?_
                      refine V_istore_n 172 B (lv2 := [(3, .int 1), (4, .int (nI n135)), (2, .int (nI (3462 + 28 * (gN f0 2722)))), (1, .int (nI k10)), (0, .ref h0)]) dX12_readLayer_172 (by decide) rfl ?_
                      refine V_aload_n 173 B dX12_readLayer_173 4 rfl ?_
                      refine V_get 174 B gf_RX12_9 0 rfl rfl dX12_readLayer_174 ?_
                      refine V_iload_n 177 B dX12_readLayer_177 2 rfl ?_
                      refine V_iconst 178 B (v := 2) dX12_readLayer_178 (by decide +kernel) ?_
                      refine V_iadd 179 B (v := (nI (3464 + 28 * (gN f0 2722)))) dX12_readLayer_179 (nI_addE (a := 3462 + 28 * (gN f0 2722)) (b := 2) (by omega)) ?_
                      refine V_iload 180 B dX12_readLayer_180 1 rfl ?_
                      refine V_iadd 182 B (v := (nI (3464 + 28 * (gN f0 2722) + n135))) dX12_readLayer_182 (nI_addE (a := 3464 + 28 * (gN f0 2722)) (b := n135) (by omega)) ?_
                      refine V_aload_n 183 B dX12_readLayer_183 4 rfl ?_
                      refine V_get 184 B gf_RX12_294 0 rfl rfl dX12_readLayer_184 ?_
                      refine V_iconst 187 B (v := 1) dX12_readLayer_187 (by decide +kernel) ?_
                      obtain ⟨n147, x148, rfl⟩ := nat_of (x := j134) (n := 25) (by omega) (by omega)
                      have e149 := nI_toInt (show n147 < 2 ^ 31 by omega)
                      refine V_iadd 188 B (v := (nI (1 + n147))) dX12_readLayer_188 (nI_addE (a := n147) (b := 1) (by omega)) ?_
                      have hv150 : INV (upd (a32.2.2.2.1 0) (3464 + 28 * (gN f0 2722) + n135) (nI (1 + n147))) := INV_free x35 (rl34 (gN f0 2722) (by omega) n135 (by omega))
                      refine V_iast 189 B 1 rfl (vp_in_nI (n := 3464 + 28 * (gN f0 2722) + n135) (by omega) (by decide)) dX12_readLayer_189 [(h0, oC 13 [.ref h1, .ref h2, .int p2, .ref h3, .ref h4, .int (nI k5), .int (nI (u125.1 0)), .int (u125.2.1 0), .int (u125.2.1 1), .int (u125.2.1 2), .int (nI (u125.1 1)), .int (nI n147), .long (u125.2.2.1 0), .ref h5, .ref h6, .int (nI k15), .int (nI k16)]), (h1, aI Y 3640 (upd (a32.2.2.2.1 0) (3464 + 28 * (gN f0 2722) + n135) (nI (1 + n147)))), (h2, aZ Y 2 f1), (h3, aZ Y 80 f3), (h4, aB Y 1600 f4), (h5, aI Y 200 f13), (h6, aI Y 800 f14)] (by rw [nI_clamp (show 3464 + 28 * (gN f0 2722) + n135 < 2 ^ 31 by omega)]; rfl) ?_
                      refine V_goto 190 B 119 dX12_readLayer_190 (by decide) ?_
                      refine V_lv [(4, .int (nI n135)), (3, .int 1), (2, .int (nI (3462 + 28 * (gN f0 2722)))), (1, .int (nI k10)), (0, .ref h0)] [1, 0, 2, 3, 4] rfl ?_
                      exact IH33 (mkW [(u125.1 0), (u125.1 1)] [(nI n135), 1, (u125.2.1 0), (u125.2.1 1), (u125.2.1 2), (nI n147)] [(u125.2.2.1 0)] [(upd (a32.2.2.2.1 0) (3464 + 28 * (gN f0 2722) + n135) (nI (1 + n147)))] [] []) ⟨hv150, (Or.inr rfl), ⟨(show k10 < (u125.1 1) by omega), (show (u125.1 1) ≤ (u125.1 0) by omega), (show (u125.1 0) ≤ k5 by omega), (show ((u125.2.1 2) = 0 ∨ (u125.1 1) < (u125.1 0)) by first | assumption | exact Or.inr (by omega))⟩, ((gN_ne (by omega)).trans x38)⟩ (by show 4000 - ((u125.1 1)) < _; omega)
          ·
            have x151 := n_nle (a := (gN f0 2722)) (b := (a23.1 0)) kk30 (by omega) (by omega)
            refine V_iload_n 82 B dX12_readLayer_82 1 rfl ?_
            refine V_aload_n 83 B dX12_readLayer_83 4 rfl ?_
            refine V_get 84 B gf_RX12_9 0 rfl rfl dX12_readLayer_84 ?_
            refine V_sipush 87 B (v := 3462) dX12_readLayer_87 (by decide +kernel) ?_
            refine V_bipush 90 B (v := 28) dX12_readLayer_90 (by decide +kernel) ?_
            refine V_iload 92 B dX12_readLayer_92 0 rfl ?_
            refine V_imul 94 B (v := (nI (28 * (a23.1 0)))) dX12_readLayer_94 (nI_mulE (a := 28) (b := (a23.1 0)) (by omega)) ?_
            refine V_iadd 95 B (v := (nI (3462 + 28 * (a23.1 0)))) dX12_readLayer_95 (nI_addE (a := 3462) (b := 28 * (a23.1 0)) (by omega)) ?_
            refine V_iconst 96 B (v := 0) dX12_readLayer_96 (by decide +kernel) ?_
            refine V_iadd 97 B (v := (nI (3462 + 28 * (a23.1 0)))) dX12_readLayer_97 (nI_addE (a := 3462 + 28 * (a23.1 0)) (b := 0) (by omega)) ?_
            refine V_iald 98 B (v := (upd f0 (3462 + 28 * (gN f0 2722)) j21) (3462 + 28 * (a23.1 0))) 1 rfl (vp_in_nI (n := 3462 + 28 * (a23.1 0)) (by omega) (by decide)) dX12_readLayer_98 (by rw [nI_clamp (show 3462 + 28 * (a23.1 0) < 2 ^ 31 by omega)]) ?_
            refine V_nmi (fun j152 e153 => ?_)
            refine V_aload_n 99 B dX12_readLayer_99 4 rfl ?_
            refine V_get 100 B gf_RX12_294 0 rfl rfl dX12_readLayer_100 ?_
            refine V_icmp_ne 103 B 110 dX12_readLayer_103 (by decide) (fun kk154 => ?_) (fun kk154 => ?_)
            ·
              have x155 := x_ne kk154
              refine V_iconst 110 B (v := 0) dX12_readLayer_110 (by decide +kernel) ?_
              refine V_ior 111 B (v := 0) dX12_readLayer_111 (by decide +kernel) ?_
              refine V_istore_n 112 B (lv2 := [(3, .int 0), (4, .int (nI (a23.1 0))), (2, .int (nI (3462 + 28 * (gN f0 2722)))), (1, .int (nI k10)), (0, .ref h0)]) dX12_readLayer_112 (by decide) rfl ?_
              refine V_iinc 113 B (v := (nI (1 + (a23.1 0)))) (lv2 := [(4, .int (nI (1 + (a23.1 0)))), (3, .int 0), (2, .int (nI (3462 + 28 * (gN f0 2722)))), (1, .int (nI k10)), (0, .ref h0)]) dX12_readLayer_113 1 rfl (nI_addE (a := (a23.1 0)) (b := 1) (by omega)) (by decide) rfl ?_
              refine V_goto 116 B 69 dX12_readLayer_116 (by decide) ?_
              refine V_lv [(4, .int (nI (1 + (a23.1 0)))), (3, .int 0), (2, .int (nI (3462 + 28 * (gN f0 2722)))), (1, .int (nI k10)), (0, .ref h0)] [0, 1, 2, 3, 4] rfl ?_
              exact IH24 (mkW [1 + (a23.1 0)] [0] [] [] [] []) ⟨(show 1 + (a23.1 0) ≤ 4000 by omega), (Or.inl rfl)⟩ (by show 100000 - (1 + (a23.1 0)) < 100000 - (a23.1 0); omega)
            ·
              have x156 := x_eq kk154
              refine V_iconst 106 B (v := 1) dX12_readLayer_106 (by decide +kernel) ?_
              refine V_goto 107 B 111 dX12_readLayer_107 (by decide) ?_
              refine V_ior 111 B (v := 1) dX12_readLayer_111 (by decide +kernel) ?_
              refine V_istore_n 112 B (lv2 := [(3, .int 1), (4, .int (nI (a23.1 0))), (2, .int (nI (3462 + 28 * (gN f0 2722)))), (1, .int (nI k10)), (0, .ref h0)]) dX12_readLayer_112 (by decide) rfl ?_
              refine V_iinc 113 B (v := (nI (1 + (a23.1 0)))) (lv2 := [(4, .int (nI (1 + (a23.1 0)))), (3, .int 1), (2, .int (nI (3462 + 28 * (gN f0 2722)))), (1, .int (nI k10)), (0, .ref h0)]) dX12_readLayer_113 1 rfl (nI_addE (a := (a23.1 0)) (b := 1) (by omega)) (by decide) rfl ?_
              refine V_goto 116 B 69 dX12_readLayer_116 (by decide) ?_
              refine V_lv [(4, .int (nI (1 + (a23.1 0)))), (3, .int 1), (2, .int (nI (3462 + 28 * (gN f0 2722)))), (1, .int (nI k10)), (0, .ref h0)] [0, 1, 2, 3, 4] rfl ?_
              exact IH24 (mkW [1 + (a23.1 0)] [1] [] [] [] []) ⟨(show 1 + (a23.1 0) ≤ 4000 by omega), (Or.inr rfl)⟩ (by show 100000 - (1 + (a23.1 0)) < 100000 - (a23.1 0); omega)
        ·
          refine V_lv [(4, .int (nI (a23.1 0))), (3, .int 1), (2, .int (nI (3462 + 28 * (gN f0 2722)))), (1, .int (nI k10)), (0, .ref h0)] [0, 1, 2, 3, 4] (by rw [e28]; rfl) ?_
          refine V_iload 69 B dX12_readLayer_69 0 rfl ?_
          refine V_aload_n 71 B dX12_readLayer_71 4 rfl ?_
          refine V_get 72 B gf_RX12_9 0 rfl rfl dX12_readLayer_72 ?_
          refine V_sipush 75 B (v := 2722) dX12_readLayer_75 (by decide +kernel) ?_
          have x157 : (gN f0 2722) ≤ 4 := gN_le HI (by omega) (show bd 2722 = (0, ((4 : Nat) : Int)) by decide +kernel)
          refine V_iald 78 B (v := (nI (gN f0 2722))) 1 rfl (vpin _ _ (by decide +kernel)) dX12_readLayer_78 (by show (upd f0 (3462 + 28 * (gN f0 2722)) j21) 2722 = _; rw [upd_ne (by omega)]; exact gN_eq HI (by omega) (show bd 2722 = (0, ((4 : Nat) : Int)) by decide +kernel)) ?_
          refine V_icmp_ge 79 B 119 dX12_readLayer_79 (by decide) (fun kk158 => ?_) (fun kk158 => ?_)
          ·
            have x159 := n_le (a := (gN f0 2722)) (b := (a23.1 0)) kk158 (by omega) (by omega)
            refine V_wloop (α := WU) (fun a => 4000 - (a.1 1)) (fun a => INV (a.2.2.2.1 0) ∧ ((a.2.1 1) = 0 ∨ (a.2.1 1) = 1) ∧ (k10 < (a.1 1) ∧ (a.1 1) ≤ (a.1 0) ∧ (a.1 0) ≤ k5 ∧ ((a.2.1 4) = 0 ∨ (a.1 1) < (a.1 0))) ∧ gN (a.2.2.2.1 0) 2722 = gN f0 2722) (fun a => [(4, .int (a.2.1 0)), (3, .int (a.2.1 1)), (2, .int (nI (3462 + 28 * (gN f0 2722)))), (1, .int (nI k10)), (0, .ref h0)]) (fun a => [(h0, oC 13 [.ref h1, .ref h2, .int p2, .ref h3, .ref h4, .int (nI k5), .int (nI (a.1 0)), .int (a.2.1 2), .int (a.2.1 3), .int (a.2.1 4), .int (nI (a.1 1)), .int (a.2.1 5), .long (a.2.2.1 0), .ref h5, .ref h6, .int (nI k15), .int (nI k16)]), (h1, aI Y 3640 (a.2.2.2.1 0)), (h2, aZ Y 2 f1), (h3, aZ Y 80 f3), (h4, aB Y 1600 f4), (h5, aI Y 200 f13), (h6, aI Y 800 f14)]) (mkW [(u12.1 0), (u12.1 1)] [(nI (a23.1 0)), 1, (u12.2.1 0), (u12.2.1 1), (u12.2.1 2), j21] [(u12.2.2.1 0)] [(upd f0 (3462 + 28 * (gN f0 2722)) j21)] [] []) ⟨hv22, (Or.inr rfl), ⟨(show k10 < (u12.1 1) by omega), (show (u12.1 1) ≤ (u12.1 0) by omega), (show (u12.1 0) ≤ k5 by omega), (show ((u12.2.1 2) = 0 ∨ (u12.1 1) < (u12.1 0)) by first | assumption | exact Or.inr (by omega))⟩, (show gN ((upd f0 (3462 + 28 * (gN f0 2722)) j21)) 2722 = gN f0 2722 by rw [gN_ne (by omega)])⟩ rfl rfl (fun a160 hI162 IH161 => ?_)
            refine V_lv [(4, .int (a160.2.1 0)), (3, .int (a160.2.1 1)), (2, .int (nI (3462 + 28 * (gN f0 2722)))), (1, .int (nI k10)), (0, .ref h0)] [0, 1, 2, 3, 4] rfl ?_
            refine V_ws [(h0, oC 13 [.ref h1, .ref h2, .int p2, .ref h3, .ref h4, .int (nI k5), .int (nI (a160.1 0)), .int (a160.2.1 2), .int (a160.2.1 3), .int (a160.2.1 4), .int (nI (a160.1 1)), .int (a160.2.1 5), .long (a160.2.2.1 0), .ref h5, .ref h6, .int (nI k15), .int (nI k16)]), (h1, aI Y 3640 (a160.2.2.2.1 0)), (h2, aZ Y 2 f1), (h3, aZ Y 80 f3), (h4, aB Y 1600 f4), (h5, aI Y 200 f13), (h6, aI Y 800 f14)] rfl ?_
            obtain ⟨x163, x164, x165, x166⟩ := hI162
            obtain ⟨x167, x168, x169, x170⟩ := x165
            have x171 : (gN (a160.2.2.2.1 0) 2722) ≤ 4 := gN_le x163 (by omega) (show bd 2722 = (0, ((4 : Nat) : Int)) by decide +kernel)
            rcases x164 with e172 | e172
            ·
              refine V_lv [(4, .int (a160.2.1 0)), (3, .int 0), (2, .int (nI (3462 + 28 * (gN f0 2722)))), (1, .int (nI k10)), (0, .ref h0)] [0, 1, 2, 3, 4] (by rw [e172]; rfl) ?_
              refine V_aload_n 119 B dX12_readLayer_119 4 rfl ?_
              refine V_get 120 B gf_RX12_283 0 rfl rfl dX12_readLayer_120 ?_
              refine V_iconst 123 B (v := 1) dX12_readLayer_123 (by decide +kernel) ?_
              refine V_icmp_ne 124 B 193 dX12_readLayer_124 (by decide) (fun kk173 => ?_) (fun kk173 => ?_)
              ·
                have x174 := x_ne kk173
                rw [show (1 : Int32).toInt = 1 by decide +kernel] at x174
                refine V_aload_n 193 B dX12_readLayer_193 4 rfl ?_
                refine V_cvi 194 B (st := []) (As := []) (fun sz => rX12_readEnd l D Y h0 h1 h2 h3 h4 h5 h6 p2 k5 (a160.1 0) (a160.2.1 2) (a160.2.1 3) (a160.2.1 4) (a160.1 1) (a160.2.1 5) (a160.2.2.1 0) k15 k16 (a160.2.2.2.1 0) f1 f3 f4 f13 f14 x163 (by omega) HP (by omega) (by omega) (by first | assumption | exact Or.inl rfl | exact Or.inr (by omega)) sz) glV_RX12_304 ⟨rfl, rfl⟩ ⟨(Nat.le_of_ble_eq_true rfl), (Nat.le_of_ble_eq_true rfl)⟩ ⟨(Nat.le_of_ble_eq_true rfl), (Nat.le_of_ble_eq_true rfl)⟩ [0, 0, 0, 0, 0, 0, 0] rfl 13 0 rfl rfl rfl rfl (Nat.le_of_ble_eq_true rfl) rfl (fun _ _ _ => rfl) dX12_readLayer_194 (fun j175 u176 w177 => ?_)
                refine V_ws [(h0, oC 13 [.ref h1, .ref h2, .int p2, .ref h3, .ref h4, .int (nI k5), .int (nI (u176.1 0)), .int (u176.2.1 0), .int (u176.2.1 1), .int (u176.2.1 2), .int (nI (u176.1 1)), .int (a160.2.1 5), .long (u176.2.2.1 0), .ref h5, .ref h6, .int (nI k15), .int (nI k16)]), (h1, aI Y 3640 (a160.2.2.2.1 0)), (h2, aZ Y 2 f1), (h3, aZ Y 80 f3), (h4, aB Y 1600 f4), (h5, aI Y 200 f13), (h6, aI Y 800 f14)] rfl ?_
                obtain ⟨x178, x179, x180, x181, x182⟩ := w177
                rcases x178 with rfl | ⟨rfl, x183⟩
                ·
                  refine V_if_ne_f 197 B 202 dX12_readLayer_197 (by decide) (by decide +kernel) ?_
                  refine V_iconst 200 B (v := 0) dX12_readLayer_200 (by decide +kernel) ?_
                  exact V_zret 201 B rfl dX12_readLayer_201 (mkW [(u176.1 0), (u176.1 1)] [(u176.2.1 0), (u176.2.1 1), (u176.2.1 2), (a160.2.1 5)] [(u176.2.2.1 0)] [(a160.2.2.2.1 0)] [] []) ⟨(Or.inl rfl), x163, (show k10 ≤ (u176.1 1) by omega), (show (u176.1 1) ≤ (u176.1 0) by omega), (show (u176.1 0) ≤ k5 by omega), (show ((u176.2.1 2) = 0 ∨ (u176.1 1) < (u176.1 0)) by first | assumption | exact Or.inr (by omega))⟩ rfl
                ·
                  refine V_if_ne_t 197 B 202 dX12_readLayer_197 (by decide) (by decide +kernel) ?_
                  refine V_iload_n 202 B dX12_readLayer_202 1 rfl ?_
                  refine V_if_eq_t 203 B 213 dX12_readLayer_203 (by decide) (by decide +kernel) ?_
                  refine V_aload_n 213 B dX12_readLayer_213 4 rfl ?_
                  refine V_get 214 B gf_RX12_9 0 rfl rfl dX12_readLayer_214 ?_
                  refine V_sipush 217 B (v := 2722) dX12_readLayer_217 (by decide +kernel) ?_
                  refine V_dup2_11 220 B dX12_readLayer_220 rfl rfl ?_
                  have x184 : (gN (a160.2.2.2.1 0) 2722) ≤ 4 := gN_le x163 (by omega) (show bd 2722 = (0, ((4 : Nat) : Int)) by decide +kernel)
                  refine V_iald 221 B (v := (nI ((gN (a160.2.2.2.1 0) 2722)))) 1 rfl (vpin _ _ (by decide +kernel)) dX12_readLayer_221 (by show (a160.2.2.2.1 0) 2722 = _; exact gN_eq x163 (by omega) (show bd 2722 = (0, ((4 : Nat) : Int)) by decide +kernel)) ?_
                  refine V_iconst 222 B (v := 1) dX12_readLayer_222 (by decide +kernel) ?_
                  refine V_iadd 223 B (v := (nI (1 + (gN (a160.2.2.2.1 0) 2722)))) dX12_readLayer_223 (nI_addE (a := (gN (a160.2.2.2.1 0) 2722)) (b := 1) (by omega)) ?_
                  have hv185 : INV (upd (a160.2.2.2.1 0) 2722 (nI (1 + (gN (a160.2.2.2.1 0) 2722)))) := INV_nat (v := 1 + (gN (a160.2.2.2.1 0) 2722)) x163 (show bd 2722 = (0, ((4 : Nat) : Int)) by decide +kernel) (by omega) (by decide)
                  refine V_iast 224 B 1 rfl (vpin _ _ (by decide +kernel)) dX12_readLayer_224 [(h0, oC 13 [.ref h1, .ref h2, .int p2, .ref h3, .ref h4, .int (nI k5), .int (nI (u176.1 0)), .int (u176.2.1 0), .int (u176.2.1 1), .int (u176.2.1 2), .int (nI (u176.1 1)), .int (a160.2.1 5), .long (u176.2.2.1 0), .ref h5, .ref h6, .int (nI k15), .int (nI k16)]), (h1, aI Y 3640 (upd (a160.2.2.2.1 0) 2722 (nI (1 + (gN (a160.2.2.2.1 0) 2722))))), (h2, aZ Y 2 f1), (h3, aZ Y 80 f3), (h4, aB Y 1600 f4), (h5, aI Y 200 f13), (h6, aI Y 800 f14)] rfl ?_
                  refine V_iconst 225 B (v := 1) dX12_readLayer_225 (by decide +kernel) ?_
                  exact V_zret 226 B rfl dX12_readLayer_226 (mkW [(u176.1 0), (u176.1 1)] [(u176.2.1 0), (u176.2.1 1), (u176.2.1 2), (a160.2.1 5)] [(u176.2.2.1 0)] [(upd (a160.2.2.2.1 0) 2722 (nI (1 + (gN (a160.2.2.2.1 0) 2722))))] [] []) ⟨(Or.inr ⟨rfl, (show k10 < (u176.1 1) by omega)⟩), hv185, (show k10 ≤ (u176.1 1) by omega), (show (u176.1 1) ≤ (u176.1 0) by omega), (show (u176.1 0) ≤ k5 by omega), (show ((u176.2.1 2) = 0 ∨ (u176.1 1) < (u176.1 0)) by first | assumption | exact Or.inr (by omega))⟩ rfl
              ·
                have x186 := x_eq kk173
                rw [show (1 : Int32).toInt = 1 by decide +kernel] at x186
                refine V_aload_n 127 B dX12_readLayer_127 4 rfl ?_
                refine V_cvi 128 B (st := []) (As := []) (fun sz => rX12_readKey l D Y h0 h1 h2 h3 h4 h5 h6 p2 k5 (a160.1 0) (a160.2.1 2) (a160.2.1 3) (a160.2.1 4) (a160.1 1) (a160.2.1 5) (a160.2.2.1 0) k15 k16 (a160.2.2.2.1 0) f1 f3 f4 f13 f14 x163 (by omega) HP (by omega) (by omega) (by first | assumption | exact Or.inl rfl | exact Or.inr (by omega)) sz) glV_RX12_316 ⟨rfl, rfl⟩ ⟨(Nat.le_of_ble_eq_true rfl), (Nat.le_of_ble_eq_true rfl)⟩ ⟨(Nat.le_of_ble_eq_true rfl), (Nat.le_of_ble_eq_true rfl)⟩ [0, 0, 0, 0, 0, 0, 0] rfl 13 0 rfl rfl rfl rfl (Nat.le_of_ble_eq_true rfl) rfl (fun _ _ _ => rfl) dX12_readLayer_128 (fun j187 u188 w189 => ?_)
                refine V_ws [(h0, oC 13 [.ref h1, .ref h2, .int p2, .ref h3, .ref h4, .int (nI k5), .int (nI (u188.1 0)), .int (u188.2.1 0), .int (u188.2.1 1), .int (u188.2.1 2), .int (nI (u188.1 1)), .int (u188.2.1 3), .long (u188.2.2.1 0), .ref h5, .ref h6, .int (nI k15), .int (nI k16)]), (h1, aI Y 3640 (a160.2.2.2.1 0)), (h2, aZ Y 2 f1), (h3, aZ Y 80 f3), (h4, aB Y 1600 f4), (h5, aI Y 200 f13), (h6, aI Y 800 f14)] rfl ?_
                obtain ⟨x190, x191, x192, x193, x194⟩ := w189
                rcases x190 with rfl | ⟨rfl, x195, x196⟩
                ·
                  refine V_if_ne_f 131 B 136 dX12_readLayer_131 (by decide) (by decide +kernel) ?_
                  refine V_iconst 134 B (v := 0) dX12_readLayer_134 (by decide +kernel) ?_
                  exact V_zret 135 B rfl dX12_readLayer_135 (mkW [(u188.1 0), (u188.1 1)] [(u188.2.1 0), (u188.2.1 1), (u188.2.1 2), (u188.2.1 3)] [(u188.2.2.1 0)] [(a160.2.2.2.1 0)] [] []) ⟨(Or.inl rfl), x163, (show k10 ≤ (u188.1 1) by omega), (show (u188.1 1) ≤ (u188.1 0) by omega), (show (u188.1 0) ≤ k5 by omega), (show ((u188.2.1 2) = 0 ∨ (u188.1 1) < (u188.1 0)) by first | assumption | exact Or.inr (by omega))⟩ rfl
                ·
                  generalize u188.2.1 3 = j197 at *
                  refine V_if_ne_t 131 B 136 dX12_readLayer_131 (by decide) (by decide +kernel) ?_
                  refine V_aload_n 136 B dX12_readLayer_136 4 rfl ?_
                  refine V_get 137 B gf_RX12_294 0 rfl rfl dX12_readLayer_137 ?_
                  refine V_istore 140 B (lv2 := [(4, .int j197), (3, .int 0), (2, .int (nI (3462 + 28 * (gN f0 2722)))), (1, .int (nI k10)), (0, .ref h0)]) dX12_readLayer_140 (by decide) rfl ?_
                  refine V_aload_n 142 B dX12_readLayer_142 4 rfl ?_
                  refine V_cvi 143 B (st := []) (As := []) (fun sz => rX12_readKey l D Y h0 h1 h2 h3 h4 h5 h6 p2 k5 (u188.1 0) (u188.2.1 0) (u188.2.1 1) (u188.2.1 2) (u188.1 1) j197 (u188.2.2.1 0) k15 k16 (a160.2.2.2.1 0) f1 f3 f4 f13 f14 x163 (by omega) HP (by omega) (by omega) (by first | assumption | exact Or.inl rfl | exact Or.inr (by omega)) sz) glV_RX12_316 ⟨rfl, rfl⟩ ⟨(Nat.le_of_ble_eq_true rfl), (Nat.le_of_ble_eq_true rfl)⟩ ⟨(Nat.le_of_ble_eq_true rfl), (Nat.le_of_ble_eq_true rfl)⟩ [0, 0, 0, 0, 0, 0, 0] rfl 13 0 rfl rfl rfl rfl (Nat.le_of_ble_eq_true rfl) rfl (fun _ _ _ => rfl) dX12_readLayer_143 (fun j198 u199 w200 => ?_)
                  refine V_ws [(h0, oC 13 [.ref h1, .ref h2, .int p2, .ref h3, .ref h4, .int (nI k5), .int (nI (u199.1 0)), .int (u199.2.1 0), .int (u199.2.1 1), .int (u199.2.1 2), .int (nI (u199.1 1)), .int (u199.2.1 3), .long (u199.2.2.1 0), .ref h5, .ref h6, .int (nI k15), .int (nI k16)]), (h1, aI Y 3640 (a160.2.2.2.1 0)), (h2, aZ Y 2 f1), (h3, aZ Y 80 f3), (h4, aB Y 1600 f4), (h5, aI Y 200 f13), (h6, aI Y 800 f14)] rfl ?_
                  obtain ⟨x201, x202, x203, x204, x205⟩ := w200
                  rcases x201 with rfl | ⟨rfl, x206, x207⟩
                  ·
                    refine V_if_ne_f 146 B 151 dX12_readLayer_146 (by decide) (by decide +kernel) ?_
                    refine V_iconst 149 B (v := 0) dX12_readLayer_149 (by decide +kernel) ?_
                    exact V_zret 150 B rfl dX12_readLayer_150 (mkW [(u199.1 0), (u199.1 1)] [(u199.2.1 0), (u199.2.1 1), (u199.2.1 2), (u199.2.1 3)] [(u199.2.2.1 0)] [(a160.2.2.2.1 0)] [] []) ⟨(Or.inl rfl), x163, (show k10 ≤ (u199.1 1) by omega), (show (u199.1 1) ≤ (u199.1 0) by omega), (show (u199.1 0) ≤ k5 by omega), (show ((u199.2.1 2) = 0 ∨ (u199.1 1) < (u199.1 0)) by first | assumption | exact Or.inr (by omega))⟩ rfl
                  ·
                    generalize u199.2.1 3 = j208 at *
                    refine V_if_ne_t 146 B 151 dX12_readLayer_146 (by decide) (by decide +kernel) ?_
                    refine V_iload_n 151 B dX12_readLayer_151 1 rfl ?_
                    refine V_aload_n 152 B dX12_readLayer_152 4 rfl ?_
                    refine V_get 153 B gf_RX12_9 0 rfl rfl dX12_readLayer_153 ?_
                    refine V_iload_n 156 B dX12_readLayer_156 2 rfl ?_
                    refine V_iconst 157 B (v := 2) dX12_readLayer_157 (by decide +kernel) ?_
                    refine V_iadd 158 B (v := (nI (3464 + 28 * (gN f0 2722)))) dX12_readLayer_158 (nI_addE (a := 3462 + 28 * (gN f0 2722)) (b := 2) (by omega)) ?_
                    refine V_iload 159 B dX12_readLayer_159 0 rfl ?_
                    obtain ⟨n209, x210, rfl⟩ := nat_of (x := j197) (n := 25) (by omega) (by omega)
                    have e211 := nI_toInt (show n209 < 2 ^ 31 by omega)
                    refine V_iadd 161 B (v := (nI (3464 + 28 * (gN f0 2722) + n209))) dX12_readLayer_161 (nI_addE (a := 3464 + 28 * (gN f0 2722)) (b := n209) (by omega)) ?_
                    refine V_iald 162 B (v := (a160.2.2.2.1 0) (3464 + 28 * (gN f0 2722) + n209)) 1 rfl (vp_in_nI (n := 3464 + 28 * (gN f0 2722) + n209) (by omega) (by decide)) dX12_readLayer_162 (by rw [nI_clamp (show 3464 + 28 * (gN f0 2722) + n209 < 2 ^ 31 by omega)]) ?_
                    refine V_nmi (fun j212 e213 => ?_)
                    refine V_if_le 163 B 170 dX12_readLayer_163 (by decide) (fun kk214 => ?_) (fun kk214 => ?_)
                    ·
                      have x215 := x_le kk214
                      rw [show (0 : Int32).toInt = 0 by decide +kernel] at x215
                      refine V_iconst 170 B (v := 0) dX12_readLayer_170 (by decide +kernel) ?_
                      refine V_ior 171 B (v := 0) dX12_readLayer_171 (by decide +kernel) ?_
                      refine V_istore_n 172 B (lv2 := [(3, .int 0), (4, .int (nI n209)), (2, .int (nI (3462 + 28 * (gN f0 2722)))), (1, .int (nI k10)), (0, .ref h0)]) dX12_readLayer_172 (by decide) rfl ?_
                      refine V_aload_n 173 B dX12_readLayer_173 4 rfl ?_
                      refine V_get 174 B gf_RX12_9 0 rfl rfl dX12_readLayer_174 ?_
                      refine V_iload_n 177 B dX12_readLayer_177 2 rfl ?_
                      refine V_iconst 178 B (v := 2) dX12_readLayer_178 (by decide +kernel) ?_
                      refine V_iadd 179 B (v := (nI (3464 + 28 * (gN f0 2722)))) dX12_readLayer_179 (nI_addE (a := 3462 + 28 * (gN f0 2722)) (b := 2) (by omega)) ?_
                      refine V_iload 180 B dX12_readLayer_180 1 rfl ?_
                      refine V_iadd 182 B (v := (nI (3464 + 28 * (gN f0 2722) + n209))) dX12_readLayer_182 (nI_addE (a := 3464 + 28 * (gN f0 2722)) (b := n209) (by omega)) ?_
                      refine V_aload_n 183 B dX12_readLayer_183 4 rfl ?_
                      refine V_get 184 B gf_RX12_294 0 rfl rfl dX12_readLayer_184 ?_
                      refine V_iconst 187 B (v := 1) dX12_readLayer_187 (by decide +kernel) ?_
                      obtain ⟨n216, x217, rfl⟩ := nat_of (x := j208) (n := 25) (by omega) (by omega)
                      have e218 := nI_toInt (show n216 < 2 ^ 31 by omega)
                      refine V_iadd 188 B (v := (nI (1 + n216))) dX12_readLayer_188 (nI_addE (a := n216) (b := 1) (by omega)) ?_
                      have hv219 : INV (upd (a160.2.2.2.1 0) (3464 + 28 * (gN f0 2722) + n209) (nI (1 + n216))) := INV_free x163 (rl34 (gN f0 2722) (by omega) n209 (by omega))
                      refine V_iast 189 B 1 rfl (vp_in_nI (n := 3464 + 28 * (gN f0 2722) + n209) (by omega) (by decide)) dX12_readLayer_189 [(h0, oC 13 [.ref h1, .ref h2, .int p2, .ref h3, .ref h4, .int (nI k5), .int (nI (u199.1 0)), .int (u199.2.1 0), .int (u199.2.1 1), .int (u199.2.1 2), .int (nI (u199.1 1)), .int (nI n216), .long (u199.2.2.1 0), .ref h5, .ref h6, .int (nI k15), .int (nI k16)]), (h1, aI Y 3640 (upd (a160.2.2.2.1 0) (3464 + 28 * (gN f0 2722) + n209) (nI (1 + n216)))), (h2, aZ Y 2 f1), (h3, aZ Y 80 f3), (h4, aB Y 1600 f4), (h5, aI Y 200 f13), (h6, aI Y 800 f14)] (by rw [nI_clamp (show 3464 + 28 * (gN f0 2722) + n209 < 2 ^ 31 by omega)]; rfl) ?_
                      refine V_goto 190 B 119 dX12_readLayer_190 (by decide) ?_
                      refine V_lv [(4, .int (nI n209)), (3, .int 0), (2, .int (nI (3462 + 28 * (gN f0 2722)))), (1, .int (nI k10)), (0, .ref h0)] [1, 0, 2, 3, 4] rfl ?_
                      exact IH161 (mkW [(u199.1 0), (u199.1 1)] [(nI n209), 0, (u199.2.1 0), (u199.2.1 1), (u199.2.1 2), (nI n216)] [(u199.2.2.1 0)] [(upd (a160.2.2.2.1 0) (3464 + 28 * (gN f0 2722) + n209) (nI (1 + n216)))] [] []) ⟨hv219, (Or.inl rfl), ⟨(show k10 < (u199.1 1) by omega), (show (u199.1 1) ≤ (u199.1 0) by omega), (show (u199.1 0) ≤ k5 by omega), (show ((u199.2.1 2) = 0 ∨ (u199.1 1) < (u199.1 0)) by first | assumption | exact Or.inr (by omega))⟩, ((gN_ne (by omega)).trans x166)⟩ (by show 4000 - ((u199.1 1)) < _; omega)
                    ·
                      have x220 := x_nle kk214
                      rw [show (0 : Int32).toInt = 0 by decide +kernel] at x220
                      refine V_iconst 166 B (v := 1) dX12_readLayer_166 (by decide +kernel) ?_
                      refine V_goto 167 B 171 dX12_readLayer_167 (by decide) ?_
                      refine V_ior 171 B (v := 1) dX12_readLayer_171 (by decide +kernel) ?_
                      refine V_istore_n 172 B (lv2 := [(3, .int 1), (4, .int (nI n209)), (2, .int (nI (3462 + 28 * (gN f0 2722)))), (1, .int (nI k10)), (0, .ref h0)]) dX12_readLayer_172 (by decide) rfl ?_
                      refine V_aload_n 173 B dX12_readLayer_173 4 rfl ?_
                      refine V_get 174 B gf_RX12_9 0 rfl rfl dX12_readLayer_174 ?_
                      refine V_iload_n 177 B dX12_readLayer_177 2 rfl ?_
                      refine V_iconst 178 B (v := 2) dX12_readLayer_178 (by decide +kernel) ?_
                      refine V_iadd 179 B (v := (nI (3464 + 28 * (gN f0 2722)))) dX12_readLayer_179 (nI_addE (a := 3462 + 28 * (gN f0 2722)) (b := 2) (by omega)) ?_
                      refine V_iload 180 B dX12_readLayer_180 1 rfl ?_
                      refine V_iadd 182 B (v := (nI (3464 + 28 * (gN f0 2722) + n209))) dX12_readLayer_182 (nI_addE (a := 3464 + 28 * (gN f0 2722)) (b := n209) (by omega)) ?_
                      refine V_aload_n 183 B dX12_readLayer_183 4 rfl ?_
                      refine V_get 184 B gf_RX12_294 0 rfl rfl dX12_readLayer_184 ?_
                      refine V_iconst 187 B (v := 1) dX12_readLayer_187 (by decide +kernel) ?_
                      obtain ⟨n221, x222, rfl⟩ := nat_of (x := j208) (n := 25) (by omega) (by omega)
                      have e223 := nI_toInt (show n221 < 2 ^ 31 by omega)
                      refine V_iadd 188 B (v := (nI (1 + n221))) dX12_readLayer_188 (nI_addE (a := n221) (b := 1) (by omega)) ?_
                      have hv224 : INV (upd (a160.2.2.2.1 0) (3464 + 28 * (gN f0 2722) + n209) (nI (1 + n221))) := INV_free x163 (rl34 (gN f0 2722) (by omega) n209 (by omega))
                      refine V_iast 189 B 1 rfl (vp_in_nI (n := 3464 + 28 * (gN f0 2722) + n209) (by omega) (by decide)) dX12_readLayer_189 [(h0, oC 13 [.ref h1, .ref h2, .int p2, .ref h3, .ref h4, .int (nI k5), .int (nI (u199.1 0)), .int (u199.2.1 0), .int (u199.2.1 1), .int (u199.2.1 2), .int (nI (u199.1 1)), .int (nI n221), .long (u199.2.2.1 0), .ref h5, .ref h6, .int (nI k15), .int (nI k16)]), (h1, aI Y 3640 (upd (a160.2.2.2.1 0) (3464 + 28 * (gN f0 2722) + n209) (nI (1 + n221)))), (h2, aZ Y 2 f1), (h3, aZ Y 80 f3), (h4, aB Y 1600 f4), (h5, aI Y 200 f13), (h6, aI Y 800 f14)] (by rw [nI_clamp (show 3464 + 28 * (gN f0 2722) + n209 < 2 ^ 31 by omega)]; rfl) ?_
                      refine V_goto 190 B 119 dX12_readLayer_190 (by decide) ?_
                      refine V_lv [(4, .int (nI n209)), (3, .int 1), (2, .int (nI (3462 + 28 * (gN f0 2722)))), (1, .int (nI k10)), (0, .ref h0)] [1, 0, 2, 3, 4] rfl ?_
                      exact IH161 (mkW [(u199.1 0), (u199.1 1)] [(nI n209), 1, (u199.2.1 0), (u199.2.1 1), (u199.2.1 2), (nI n221)] [(u199.2.2.1 0)] [(upd (a160.2.2.2.1 0) (3464 + 28 * (gN f0 2722) + n209) (nI (1 + n221)))] [] []) ⟨hv224, (Or.inr rfl), ⟨(show k10 < (u199.1 1) by omega), (show (u199.1 1) ≤ (u199.1 0) by omega), (show (u199.1 0) ≤ k5 by omega), (show ((u199.2.1 2) = 0 ∨ (u199.1 1) < (u199.1 0)) by first | assumption | exact Or.inr (by omega))⟩, ((gN_ne (by omega)).trans x166)⟩ (by show 4000 - ((u199.1 1)) < _; omega)
            ·
              refine V_lv [(4, .int (a160.2.1 0)), (3, .int 1), (2, .int (nI (3462 + 28 * (gN f0 2722)))), (1, .int (nI k10)), (0, .ref h0)] [0, 1, 2, 3, 4] (by rw [e172]; rfl) ?_
              refine V_aload_n 119 B dX12_readLayer_119 4 rfl ?_
              refine V_get 120 B gf_RX12_283 0 rfl rfl dX12_readLayer_120 ?_
              refine V_iconst 123 B (v := 1) dX12_readLayer_123 (by decide +kernel) ?_
              refine V_icmp_ne 124 B 193 dX12_readLayer_124 (by decide) (fun kk225 => ?_) (fun kk225 => ?_)
              ·
                have x226 := x_ne kk225
                rw [show (1 : Int32).toInt = 1 by decide +kernel] at x226
                refine V_aload_n 193 B dX12_readLayer_193 4 rfl ?_
                refine V_cvi 194 B (st := []) (As := []) (fun sz => rX12_readEnd l D Y h0 h1 h2 h3 h4 h5 h6 p2 k5 (a160.1 0) (a160.2.1 2) (a160.2.1 3) (a160.2.1 4) (a160.1 1) (a160.2.1 5) (a160.2.2.1 0) k15 k16 (a160.2.2.2.1 0) f1 f3 f4 f13 f14 x163 (by omega) HP (by omega) (by omega) (by first | assumption | exact Or.inl rfl | exact Or.inr (by omega)) sz) glV_RX12_304 ⟨rfl, rfl⟩ ⟨(Nat.le_of_ble_eq_true rfl), (Nat.le_of_ble_eq_true rfl)⟩ ⟨(Nat.le_of_ble_eq_true rfl), (Nat.le_of_ble_eq_true rfl)⟩ [0, 0, 0, 0, 0, 0, 0] rfl 13 0 rfl rfl rfl rfl (Nat.le_of_ble_eq_true rfl) rfl (fun _ _ _ => rfl) dX12_readLayer_194 (fun j227 u228 w229 => ?_)
                refine V_ws [(h0, oC 13 [.ref h1, .ref h2, .int p2, .ref h3, .ref h4, .int (nI k5), .int (nI (u228.1 0)), .int (u228.2.1 0), .int (u228.2.1 1), .int (u228.2.1 2), .int (nI (u228.1 1)), .int (a160.2.1 5), .long (u228.2.2.1 0), .ref h5, .ref h6, .int (nI k15), .int (nI k16)]), (h1, aI Y 3640 (a160.2.2.2.1 0)), (h2, aZ Y 2 f1), (h3, aZ Y 80 f3), (h4, aB Y 1600 f4), (h5, aI Y 200 f13), (h6, aI Y 800 f14)] rfl ?_
                obtain ⟨x230, x231, x232, x233, x234⟩ := w229
                rcases x230 with rfl | ⟨rfl, x235⟩
                ·
                  refine V_if_ne_f 197 B 202 dX12_readLayer_197 (by decide) (by decide +kernel) ?_
                  refine V_iconst 200 B (v := 0) dX12_readLayer_200 (by decide +kernel) ?_
                  exact V_zret 201 B rfl dX12_readLayer_201 (mkW [(u228.1 0), (u228.1 1)] [(u228.2.1 0), (u228.2.1 1), (u228.2.1 2), (a160.2.1 5)] [(u228.2.2.1 0)] [(a160.2.2.2.1 0)] [] []) ⟨(Or.inl rfl), x163, (show k10 ≤ (u228.1 1) by omega), (show (u228.1 1) ≤ (u228.1 0) by omega), (show (u228.1 0) ≤ k5 by omega), (show ((u228.2.1 2) = 0 ∨ (u228.1 1) < (u228.1 0)) by first | assumption | exact Or.inr (by omega))⟩ rfl
                ·
                  refine V_if_ne_t 197 B 202 dX12_readLayer_197 (by decide) (by decide +kernel) ?_
                  refine V_iload_n 202 B dX12_readLayer_202 1 rfl ?_
                  refine V_if_eq_f 203 B 213 dX12_readLayer_203 (by decide) (by decide +kernel) ?_
                  refine V_aload_n 206 B dX12_readLayer_206 4 rfl ?_
                  refine V_iconst 207 B (v := 4) dX12_readLayer_207 (by decide +kernel) ?_
                  refine V_iload_n 208 B dX12_readLayer_208 3 rfl ?_
                  refine V_cvi 209 B (st := []) (As := [.int 4, .int (nI k10)]) (fun sz => rX12_failAt l D Y h0 h1 h2 h3 h4 h5 h6 p2 k5 (u228.1 0) (u228.2.1 0) (u228.2.1 1) (u228.2.1 2) (u228.1 1) (a160.2.1 5) (u228.2.2.1 0) k15 k16 (a160.2.2.2.1 0) f1 f3 f4 f13 f14 x163 (by omega) HP 4 (nI k10) sz) glV_RX12_313 ⟨rfl, rfl⟩ ⟨(Nat.le_of_ble_eq_true rfl), (Nat.le_of_ble_eq_true rfl)⟩ ⟨(Nat.le_of_ble_eq_true rfl), (Nat.le_of_ble_eq_true rfl)⟩ [0, 0, 0, 0, 0, 0, 0] rfl 13 0 rfl rfl rfl rfl (Nat.le_of_ble_eq_true rfl) rfl (fun _ _ _ => rfl) dX12_readLayer_209 (fun j236 u237 w238 => ?_)
                  refine V_ws [(h0, oC 13 [.ref h1, .ref h2, .int p2, .ref h3, .ref h4, .int (nI k5), .int (nI (u228.1 0)), .int (u237.2.1 0), .int (u237.2.1 1), .int (u228.2.1 2), .int (nI (u228.1 1)), .int (a160.2.1 5), .long (u228.2.2.1 0), .ref h5, .ref h6, .int (nI k15), .int (nI k16)]), (h1, aI Y 3640 (a160.2.2.2.1 0)), (h2, aZ Y 2 f1), (h3, aZ Y 80 f3), (h4, aB Y 1600 f4), (h5, aI Y 200 f13), (h6, aI Y 800 f14)] rfl ?_
                  have x239 := w238
                  clear w238
                  obtain rfl := x239
                  exact V_zret 212 B rfl dX12_readLayer_212 (mkW [(u228.1 0), (u228.1 1)] [(u237.2.1 0), (u237.2.1 1), (u228.2.1 2), (a160.2.1 5)] [(u228.2.2.1 0)] [(a160.2.2.2.1 0)] [] []) ⟨(Or.inl rfl), x163, (show k10 ≤ (u228.1 1) by omega), (show (u228.1 1) ≤ (u228.1 0) by omega), (show (u228.1 0) ≤ k5 by omega), (show ((u228.2.1 2) = 0 ∨ (u228.1 1) < (u228.1 0)) by first | assumption | exact Or.inr (by omega))⟩ rfl
              ·
                have x240 := x_eq kk225
                rw [show (1 : Int32).toInt = 1 by decide +kernel] at x240
                refine V_aload_n 127 B dX12_readLayer_127 4 rfl ?_
                refine V_cvi 128 B (st := []) (As := []) (fun sz => rX12_readKey l D Y h0 h1 h2 h3 h4 h5 h6 p2 k5 (a160.1 0) (a160.2.1 2) (a160.2.1 3) (a160.2.1 4) (a160.1 1) (a160.2.1 5) (a160.2.2.1 0) k15 k16 (a160.2.2.2.1 0) f1 f3 f4 f13 f14 x163 (by omega) HP (by omega) (by omega) (by first | assumption | exact Or.inl rfl | exact Or.inr (by omega)) sz) glV_RX12_316 ⟨rfl, rfl⟩ ⟨(Nat.le_of_ble_eq_true rfl), (Nat.le_of_ble_eq_true rfl)⟩ ⟨(Nat.le_of_ble_eq_true rfl), (Nat.le_of_ble_eq_true rfl)⟩ [0, 0, 0, 0, 0, 0, 0] rfl 13 0 rfl rfl rfl rfl (Nat.le_of_ble_eq_true rfl) rfl (fun _ _ _ => rfl) dX12_readLayer_128 (fun j241 u242 w243 => ?_)
                refine V_ws [(h0, oC 13 [.ref h1, .ref h2, .int p2, .ref h3, .ref h4, .int (nI k5), .int (nI (u242.1 0)), .int (u242.2.1 0), .int (u242.2.1 1), .int (u242.2.1 2), .int (nI (u242.1 1)), .int (u242.2.1 3), .long (u242.2.2.1 0), .ref h5, .ref h6, .int (nI k15), .int (nI k16)]), (h1, aI Y 3640 (a160.2.2.2.1 0)), (h2, aZ Y 2 f1), (h3, aZ Y 80 f3), (h4, aB Y 1600 f4), (h5, aI Y 200 f13), (h6, aI Y 800 f14)] rfl ?_
                obtain ⟨x244, x245, x246, x247, x248⟩ := w243
                rcases x244 with rfl | ⟨rfl, x249, x250⟩
                ·
                  refine V_if_ne_f 131 B 136 dX12_readLayer_131 (by decide) (by decide +kernel) ?_
                  refine V_iconst 134 B (v := 0) dX12_readLayer_134 (by decide +kernel) ?_
                  exact V_zret 135 B rfl dX12_readLayer_135 (mkW [(u242.1 0), (u242.1 1)] [(u242.2.1 0), (u242.2.1 1), (u242.2.1 2), (u242.2.1 3)] [(u242.2.2.1 0)] [(a160.2.2.2.1 0)] [] []) ⟨(Or.inl rfl), x163, (show k10 ≤ (u242.1 1) by omega), (show (u242.1 1) ≤ (u242.1 0) by omega), (show (u242.1 0) ≤ k5 by omega), (show ((u242.2.1 2) = 0 ∨ (u242.1 1) < (u242.1 0)) by first | assumption | exact Or.inr (by omega))⟩ rfl
                ·
                  generalize u242.2.1 3 = j251 at *
                  refine V_if_ne_t 131 B 136 dX12_readLayer_131 (by decide) (by decide +kernel) ?_
                  refine V_aload_n 136 B dX12_readLayer_136 4 rfl ?_
                  refine V_get 137 B gf_RX12_294 0 rfl rfl dX12_readLayer_137 ?_
                  refine V_istore 140 B (lv2 := [(4, .int j251), (3, .int 1), (2, .int (nI (3462 + 28 * (gN f0 2722)))), (1, .int (nI k10)), (0, .ref h0)]) dX12_readLayer_140 (by decide) rfl ?_
                  refine V_aload_n 142 B dX12_readLayer_142 4 rfl ?_
                  refine V_cvi 143 B (st := []) (As := []) (fun sz => rX12_readKey l D Y h0 h1 h2 h3 h4 h5 h6 p2 k5 (u242.1 0) (u242.2.1 0) (u242.2.1 1) (u242.2.1 2) (u242.1 1) j251 (u242.2.2.1 0) k15 k16 (a160.2.2.2.1 0) f1 f3 f4 f13 f14 x163 (by omega) HP (by omega) (by omega) (by first | assumption | exact Or.inl rfl | exact Or.inr (by omega)) sz) glV_RX12_316 ⟨rfl, rfl⟩ ⟨(Nat.le_of_ble_eq_true rfl), (Nat.le_of_ble_eq_true rfl)⟩ ⟨(Nat.le_of_ble_eq_true rfl), (Nat.le_of_ble_eq_true rfl)⟩ [0, 0, 0, 0, 0, 0, 0] rfl 13 0 rfl rfl rfl rfl (Nat.le_of_ble_eq_true rfl) rfl (fun _ _ _ => rfl) dX12_readLayer_143 (fun j252 u253 w254 => ?_)
                  refine V_ws [(h0, oC 13 [.ref h1, .ref h2, .int p2, .ref h3, .ref h4, .int (nI k5), .int (nI (u253.1 0)), .int (u253.2.1 0), .int (u253.2.1 1), .int (u253.2.1 2), .int (nI (u253.1 1)), .int (u253.2.1 3), .long (u253.2.2.1 0), .ref h5, .ref h6, .int (nI k15), .int (nI k16)]), (h1, aI Y 3640 (a160.2.2.2.1 0)), (h2, aZ Y 2 f1), (h3, aZ Y 80 f3), (h4, aB Y 1600 f4), (h5, aI Y 200 f13), (h6, aI Y 800 f14)] rfl ?_
                  obtain ⟨x255, x256, x257, x258, x259⟩ := w254
                  rcases x255 with rfl | ⟨rfl, x260, x261⟩
                  ·
                    refine V_if_ne_f 146 B 151 dX12_readLayer_146 (by decide) (by decide +kernel) ?_
                    refine V_iconst 149 B (v := 0) dX12_readLayer_149 (by decide +kernel) ?_
                    exact V_zret 150 B rfl dX12_readLayer_150 (mkW [(u253.1 0), (u253.1 1)] [(u253.2.1 0), (u253.2.1 1), (u253.2.1 2), (u253.2.1 3)] [(u253.2.2.1 0)] [(a160.2.2.2.1 0)] [] []) ⟨(Or.inl rfl), x163, (show k10 ≤ (u253.1 1) by omega), (show (u253.1 1) ≤ (u253.1 0) by omega), (show (u253.1 0) ≤ k5 by omega), (show ((u253.2.1 2) = 0 ∨ (u253.1 1) < (u253.1 0)) by first | assumption | exact Or.inr (by omega))⟩ rfl
                  ·
                    generalize u253.2.1 3 = j262 at *
                    refine V_if_ne_t 146 B 151 dX12_readLayer_146 (by decide) (by decide +kernel) ?_
                    refine V_iload_n 151 B dX12_readLayer_151 1 rfl ?_
                    refine V_aload_n 152 B dX12_readLayer_152 4 rfl ?_
                    refine V_get 153 B gf_RX12_9 0 rfl rfl dX12_readLayer_153 ?_
                    refine V_iload_n 156 B dX12_readLayer_156 2 rfl ?_
                    refine V_iconst 157 B (v := 2) dX12_readLayer_157 (by decide +kernel) ?_
                    refine V_iadd 158 B (v := (nI (3464 + 28 * (gN f0 2722)))) dX12_readLayer_158 (nI_addE (a := 3462 + 28 * (gN f0 2722)) (b := 2) (by omega)) ?_
                    refine V_iload 159 B dX12_readLayer_159 0 rfl ?_
                    obtain ⟨n263, x264, rfl⟩ := nat_of (x := j251) (n := 25) (by omega) (by omega)
                    have e265 := nI_toInt (show n263 < 2 ^ 31 by omega)
                    refine V_iadd 161 B (v := (nI (3464 + 28 * (gN f0 2722) + n263))) dX12_readLayer_161 (nI_addE (a := 3464 + 28 * (gN f0 2722)) (b := n263) (by omega)) ?_
                    refine V_iald 162 B (v := (a160.2.2.2.1 0) (3464 + 28 * (gN f0 2722) + n263)) 1 rfl (vp_in_nI (n := 3464 + 28 * (gN f0 2722) + n263) (by omega) (by decide)) dX12_readLayer_162 (by rw [nI_clamp (show 3464 + 28 * (gN f0 2722) + n263 < 2 ^ 31 by omega)]) ?_
                    refine V_nmi (fun j266 e267 => ?_)
                    refine V_if_le 163 B 170 dX12_readLayer_163 (by decide) (fun kk268 => ?_) (fun kk268 => ?_)
                    ·
                      have x269 := x_le kk268
                      rw [show (0 : Int32).toInt = 0 by decide +kernel] at x269
                      refine V_iconst 170 B (v := 0) dX12_readLayer_170 (by decide +kernel) ?_
                      refine V_ior 171 B (v := 1) dX12_readLayer_171 (by decide +kernel) ?_
                      refine V_istore_n 172 B (lv2 := [(3, .int 1), (4, .int (nI n263)), (2, .int (nI (3462 + 28 * (gN f0 2722)))), (1, .int (nI k10)), (0, .ref h0)]) dX12_readLayer_172 (by decide) rfl ?_
                      refine V_aload_n 173 B dX12_readLayer_173 4 rfl ?_
                      refine V_get 174 B gf_RX12_9 0 rfl rfl dX12_readLayer_174 ?_
                      refine V_iload_n 177 B dX12_readLayer_177 2 rfl ?_
                      refine V_iconst 178 B (v := 2) dX12_readLayer_178 (by decide +kernel) ?_
                      refine V_iadd 179 B (v := (nI (3464 + 28 * (gN f0 2722)))) dX12_readLayer_179 (nI_addE (a := 3462 + 28 * (gN f0 2722)) (b := 2) (by omega)) ?_
                      refine V_iload 180 B dX12_readLayer_180 1 rfl ?_
                      refine V_iadd 182 B (v := (nI (3464 + 28 * (gN f0 2722) + n263))) dX12_readLayer_182 (nI_addE (a := 3464 + 28 * (gN f0 2722)) (b := n263) (by omega)) ?_
                      refine V_aload_n 183 B dX12_readLayer_183 4 rfl ?_
                      refine V_get 184 B gf_RX12_294 0 rfl rfl dX12_readLayer_184 ?_
                      refine V_iconst 187 B (v := 1) dX12_readLayer_187 (by decide +kernel) ?_
                      obtain ⟨n270, x271, rfl⟩ := nat_of (x := j262) (n := 25) (by omega) (by omega)
                      have e272 := nI_toInt (show n270 < 2 ^ 31 by omega)
                      refine V_iadd 188 B (v := (nI (1 + n270))) dX12_readLayer_188 (nI_addE (a := n270) (b := 1) (by omega)) ?_
                      have hv273 : INV (upd (a160.2.2.2.1 0) (3464 + 28 * (gN f0 2722) + n263) (nI (1 + n270))) := INV_free x163 (rl34 (gN f0 2722) (by omega) n263 (by omega))
                      refine V_iast 189 B 1 rfl (vp_in_nI (n := 3464 + 28 * (gN f0 2722) + n263) (by omega) (by decide)) dX12_readLayer_189 [(h0, oC 13 [.ref h1, .ref h2, .int p2, .ref h3, .ref h4, .int (nI k5), .int (nI (u253.1 0)), .int (u253.2.1 0), .int (u253.2.1 1), .int (u253.2.1 2), .int (nI (u253.1 1)), .int (nI n270), .long (u253.2.2.1 0), .ref h5, .ref h6, .int (nI k15), .int (nI k16)]), (h1, aI Y 3640 (upd (a160.2.2.2.1 0) (3464 + 28 * (gN f0 2722) + n263) (nI (1 + n270)))), (h2, aZ Y 2 f1), (h3, aZ Y 80 f3), (h4, aB Y 1600 f4), (h5, aI Y 200 f13), (h6, aI Y 800 f14)] (by rw [nI_clamp (show 3464 + 28 * (gN f0 2722) + n263 < 2 ^ 31 by omega)]; rfl) ?_
                      refine V_goto 190 B 119 dX12_readLayer_190 (by decide) ?_
                      refine V_lv [(4, .int (nI n263)), (3, .int 1), (2, .int (nI (3462 + 28 * (gN f0 2722)))), (1, .int (nI k10)), (0, .ref h0)] [1, 0, 2, 3, 4] rfl ?_
                      exact IH161 (mkW [(u253.1 0), (u253.1 1)] [(nI n263), 1, (u253.2.1 0), (u253.2.1 1), (u253.2.1 2), (nI n270)] [(u253.2.2.1 0)] [(upd (a160.2.2.2.1 0) (3464 + 28 * (gN f0 2722) + n263) (nI (1 + n270)))] [] []) ⟨hv273, (Or.inr rfl), ⟨(show k10 < (u253.1 1) by omega), (show (u253.1 1) ≤ (u253.1 0) by omega), (show (u253.1 0) ≤ k5 by omega), (show ((u253.2.1 2) = 0 ∨ (u253.1 1) < (u253.1 0)) by first | assumption | exact Or.inr (by omega))⟩, ((gN_ne (by omega)).trans x166)⟩ (by show 4000 - ((u253.1 1)) < _; omega)
                    ·
                      have x274 := x_nle kk268
                      rw [show (0 : Int32).toInt = 0 by decide +kernel] at x274
                      refine V_iconst 166 B (v := 1) dX12_readLayer_166 (by decide +kernel) ?_
                      refine V_goto 167 B 171 dX12_readLayer_167 (by decide) ?_
                      refine V_ior 171 B (v := 1) dX12_readLayer_171 (by decide +kernel) ?_
                      refine V_istore_n 172 B (lv2 := [(3, .int 1), (4, .int (nI n263)), (2, .int (nI (3462 + 28 * (gN f0 2722)))), (1, .int (nI k10)), (0, .ref h0)]) dX12_readLayer_172 (by decide) rfl ?_
                      refine V_aload_n 173 B dX12_readLayer_173 4 rfl ?_
                      refine V_get 174 B gf_RX12_9 0 rfl rfl dX12_readLayer_174 ?_
                      refine V_iload_n 177 B dX12_readLayer_177 2 rfl ?_
                      refine V_iconst 178 B (v := 2) dX12_readLayer_178 (by decide +kernel) ?_
                      refine V_iadd 179 B (v := (nI (3464 + 28 * (gN f0 2722)))) dX12_readLayer_179 (nI_addE (a := 3462 + 28 * (gN f0 2722)) (b := 2) (by omega)) ?_
                      refine V_iload 180 B dX12_readLayer_180 1 rfl ?_
                      refine V_iadd 182 B (v := (nI (3464 + 28 * (gN f0 2722) + n263))) dX12_readLayer_182 (nI_addE (a := 3464 + 28 * (gN f0 2722)) (b := n263) (by omega)) ?_
                      refine V_aload_n 183 B dX12_readLayer_183 4 rfl ?_
                      refine V_get 184 B gf_RX12_294 0 rfl rfl dX12_readLayer_184 ?_
                      refine V_iconst 187 B (v := 1) dX12_readLayer_187 (by decide +kernel) ?_
                      obtain ⟨n275, x276, rfl⟩ := nat_of (x := j262) (n := 25) (by omega) (by omega)
                      have e277 := nI_toInt (show n275 < 2 ^ 31 by omega)
                      refine V_iadd 188 B (v := (nI (1 + n275))) dX12_readLayer_188 (nI_addE (a := n275) (b := 1) (by omega)) ?_
                      have hv278 : INV (upd (a160.2.2.2.1 0) (3464 + 28 * (gN f0 2722) + n263) (nI (1 + n275))) := INV_free x163 (rl34 (gN f0 2722) (by omega) n263 (by omega))
                      refine V_iast 189 B 1 rfl (vp_in_nI (n := 3464 + 28 * (gN f0 2722) + n263) (by omega) (by decide)) dX12_readLayer_189 [(h0, oC 13 [.ref h1, .ref h2, .int p2, .ref h3, .ref h4, .int (nI k5), .int (nI (u253.1 0)), .int (u253.2.1 0), .int (u253.2.1 1), .int (u253.2.1 2), .int (nI (u253.1 1)), .int (nI n275), .long (u253.2.2.1 0), .ref h5, .ref h6, .int (nI k15), .int (nI k16)]), (h1, aI Y 3640 (upd (a160.2.2.2.1 0) (3464 + 28 * (gN f0 2722) + n263) (nI (1 + n275)))), (h2, aZ Y 2 f1), (h3, aZ Y 80 f3), (h4, aB Y 1600 f4), (h5, aI Y 200 f13), (h6, aI Y 800 f14)] (by rw [nI_clamp (show 3464 + 28 * (gN f0 2722) + n263 < 2 ^ 31 by omega)]; rfl) ?_
                      refine V_goto 190 B 119 dX12_readLayer_190 (by decide) ?_
                      refine V_lv [(4, .int (nI n263)), (3, .int 1), (2, .int (nI (3462 + 28 * (gN f0 2722)))), (1, .int (nI k10)), (0, .ref h0)] [1, 0, 2, 3, 4] rfl ?_
                      exact IH161 (mkW [(u253.1 0), (u253.1 1)] [(nI n263), 1, (u253.2.1 0), (u253.2.1 1), (u253.2.1 2), (nI n275)] [(u253.2.2.1 0)] [(upd (a160.2.2.2.1 0) (3464 + 28 * (gN f0 2722) + n263) (nI (1 + n275)))] [] []) ⟨hv278, (Or.inr rfl), ⟨(show k10 < (u253.1 1) by omega), (show (u253.1 1) ≤ (u253.1 0) by omega), (show (u253.1 0) ≤ k5 by omega), (show ((u253.2.1 2) = 0 ∨ (u253.1 1) < (u253.1 0)) by first | assumption | exact Or.inr (by omega))⟩, ((gN_ne (by omega)).trans x166)⟩ (by show 4000 - ((u253.1 1)) < _; omega)
          ·
            have x279 := n_nle (a := (gN f0 2722)) (b := (a23.1 0)) kk158 (by omega) (by omega)
            refine V_iload_n 82 B dX12_readLayer_82 1 rfl ?_
            refine V_aload_n 83 B dX12_readLayer_83 4 rfl ?_
            refine V_get 84 B gf_RX12_9 0 rfl rfl dX12_readLayer_84 ?_
            refine V_sipush 87 B (v := 3462) dX12_readLayer_87 (by decide +kernel) ?_
            refine V_bipush 90 B (v := 28) dX12_readLayer_90 (by decide +kernel) ?_
            refine V_iload 92 B dX12_readLayer_92 0 rfl ?_
            refine V_imul 94 B (v := (nI (28 * (a23.1 0)))) dX12_readLayer_94 (nI_mulE (a := 28) (b := (a23.1 0)) (by omega)) ?_
            refine V_iadd 95 B (v := (nI (3462 + 28 * (a23.1 0)))) dX12_readLayer_95 (nI_addE (a := 3462) (b := 28 * (a23.1 0)) (by omega)) ?_
            refine V_iconst 96 B (v := 0) dX12_readLayer_96 (by decide +kernel) ?_
            refine V_iadd 97 B (v := (nI (3462 + 28 * (a23.1 0)))) dX12_readLayer_97 (nI_addE (a := 3462 + 28 * (a23.1 0)) (b := 0) (by omega)) ?_
            refine V_iald 98 B (v := (upd f0 (3462 + 28 * (gN f0 2722)) j21) (3462 + 28 * (a23.1 0))) 1 rfl (vp_in_nI (n := 3462 + 28 * (a23.1 0)) (by omega) (by decide)) dX12_readLayer_98 (by rw [nI_clamp (show 3462 + 28 * (a23.1 0) < 2 ^ 31 by omega)]) ?_
            refine V_nmi (fun j280 e281 => ?_)
            refine V_aload_n 99 B dX12_readLayer_99 4 rfl ?_
            refine V_get 100 B gf_RX12_294 0 rfl rfl dX12_readLayer_100 ?_
            refine V_icmp_ne 103 B 110 dX12_readLayer_103 (by decide) (fun kk282 => ?_) (fun kk282 => ?_)
            ·
              have x283 := x_ne kk282
              refine V_iconst 110 B (v := 0) dX12_readLayer_110 (by decide +kernel) ?_
              refine V_ior 111 B (v := 1) dX12_readLayer_111 (by decide +kernel) ?_
              refine V_istore_n 112 B (lv2 := [(3, .int 1), (4, .int (nI (a23.1 0))), (2, .int (nI (3462 + 28 * (gN f0 2722)))), (1, .int (nI k10)), (0, .ref h0)]) dX12_readLayer_112 (by decide) rfl ?_
              refine V_iinc 113 B (v := (nI (1 + (a23.1 0)))) (lv2 := [(4, .int (nI (1 + (a23.1 0)))), (3, .int 1), (2, .int (nI (3462 + 28 * (gN f0 2722)))), (1, .int (nI k10)), (0, .ref h0)]) dX12_readLayer_113 1 rfl (nI_addE (a := (a23.1 0)) (b := 1) (by omega)) (by decide) rfl ?_
              refine V_goto 116 B 69 dX12_readLayer_116 (by decide) ?_
              refine V_lv [(4, .int (nI (1 + (a23.1 0)))), (3, .int 1), (2, .int (nI (3462 + 28 * (gN f0 2722)))), (1, .int (nI k10)), (0, .ref h0)] [0, 1, 2, 3, 4] rfl ?_
              exact IH24 (mkW [1 + (a23.1 0)] [1] [] [] [] []) ⟨(show 1 + (a23.1 0) ≤ 4000 by omega), (Or.inr rfl)⟩ (by show 100000 - (1 + (a23.1 0)) < 100000 - (a23.1 0); omega)
            ·
              have x284 := x_eq kk282
              refine V_iconst 106 B (v := 1) dX12_readLayer_106 (by decide +kernel) ?_
              refine V_goto 107 B 111 dX12_readLayer_107 (by decide) ?_
              refine V_ior 111 B (v := 1) dX12_readLayer_111 (by decide +kernel) ?_
              refine V_istore_n 112 B (lv2 := [(3, .int 1), (4, .int (nI (a23.1 0))), (2, .int (nI (3462 + 28 * (gN f0 2722)))), (1, .int (nI k10)), (0, .ref h0)]) dX12_readLayer_112 (by decide) rfl ?_
              refine V_iinc 113 B (v := (nI (1 + (a23.1 0)))) (lv2 := [(4, .int (nI (1 + (a23.1 0)))), (3, .int 1), (2, .int (nI (3462 + 28 * (gN f0 2722)))), (1, .int (nI k10)), (0, .ref h0)]) dX12_readLayer_113 1 rfl (nI_addE (a := (a23.1 0)) (b := 1) (by omega)) (by decide) rfl ?_
              refine V_goto 116 B 69 dX12_readLayer_116 (by decide) ?_
              refine V_lv [(4, .int (nI (1 + (a23.1 0)))), (3, .int 1), (2, .int (nI (3462 + 28 * (gN f0 2722)))), (1, .int (nI k10)), (0, .ref h0)] [0, 1, 2, 3, 4] rfl ?_
              exact IH24 (mkW [1 + (a23.1 0)] [1] [] [] [] []) ⟨(show 1 + (a23.1 0) ≤ 4000 by omega), (Or.inr rfl)⟩ (by show 100000 - (1 + (a23.1 0)) < 100000 - (a23.1 0); omega)
    ·
      have x285 := n_eq (a := (gN f0 2722)) (b := 4) kk1 (by omega) (by omega)
      refine V_aload_n 12 B dX12_readLayer_12 0 rfl ?_
      refine V_iconst 13 B (v := 3) dX12_readLayer_13 (by decide +kernel) ?_
      refine V_cvi 14 B (st := []) (As := [.int 3]) (fun sz => rX12_fail l D Y h0 h1 h2 h3 h4 h5 h6 p2 k5 k6 p7 p8 p9 k10 p11 q12 k15 k16 f0 f1 f3 f4 f13 f14 HI (by omega) HP 3 sz) glV_RX12_291 ⟨rfl, rfl⟩ ⟨(Nat.le_of_ble_eq_true rfl), (Nat.le_of_ble_eq_true rfl)⟩ ⟨(Nat.le_of_ble_eq_true rfl), (Nat.le_of_ble_eq_true rfl)⟩ [0, 0, 0, 0, 0, 0, 0] rfl 13 0 rfl rfl rfl rfl (Nat.le_of_ble_eq_true rfl) rfl (fun _ _ _ => rfl) dX12_readLayer_14 (fun j286 u287 w288 => ?_)
      refine V_ws [(h0, oC 13 [.ref h1, .ref h2, .int p2, .ref h3, .ref h4, .int (nI k5), .int (nI k6), .int (u287.2.1 0), .int (u287.2.1 1), .int p9, .int (nI k10), .int p11, .long q12, .ref h5, .ref h6, .int (nI k15), .int (nI k16)]), (h1, aI Y 3640 f0), (h2, aZ Y 2 f1), (h3, aZ Y 80 f3), (h4, aB Y 1600 f4), (h5, aI Y 200 f13), (h6, aI Y 800 f14)] rfl ?_
      have x289 := w288
      clear w288
      obtain rfl := x289
      exact V_zret 17 B rfl dX12_readLayer_17 (mkW [k6, k10] [(u287.2.1 0), (u287.2.1 1), p9, p11] [q12] [f0] [] []) ⟨(Or.inl rfl), HI, (show k10 ≤ k10 by omega), (show k10 ≤ k6 by omega), (show k6 ≤ k5 by omega), (show (p9 = 0 ∨ k10 < k6) by first | assumption | exact Or.inr (by omega))⟩ rfl)
theorem dX12_readTimeout_0 : decode cX12_readTimeout 0 = .ok (.aload_n 0, 1) := by decide +kernel
theorem dX12_readTimeout_1 : decode cX12_readTimeout 1 = .ok (.invokevirtual 288, 3) := by decide +kernel
theorem dX12_readTimeout_4 : decode cX12_readTimeout 4 = .ok (.aload_n 0, 1) := by decide +kernel
theorem dX12_readTimeout_5 : decode cX12_readTimeout 5 = .ok (.iconst 0, 1) := by decide +kernel
theorem dX12_readTimeout_6 : decode cX12_readTimeout 6 = .ok (.sipush 999, 3) := by decide +kernel
theorem dX12_readTimeout_9 : decode cX12_readTimeout 9 = .ok (.invokevirtual 301, 3) := by decide +kernel
theorem dX12_readTimeout_12 : decode cX12_readTimeout 12 = .ok (.ifCond .ne 5, 3) := by decide +kernel
theorem dX12_readTimeout_15 : decode cX12_readTimeout 15 = .ok (.iconst 0, 1) := by decide +kernel
theorem dX12_readTimeout_16 : decode cX12_readTimeout 16 = .ok (.ireturn, 1) := by decide +kernel
theorem dX12_readTimeout_17 : decode cX12_readTimeout 17 = .ok (.aload_n 0, 1) := by decide +kernel
theorem dX12_readTimeout_18 : decode cX12_readTimeout 18 = .ok (.getfield 9, 3) := by decide +kernel
theorem dX12_readTimeout_21 : decode cX12_readTimeout 21 = .ok (.sipush 2723, 3) := by decide +kernel
theorem dX12_readTimeout_24 : decode cX12_readTimeout 24 = .ok (.aload_n 0, 1) := by decide +kernel
theorem dX12_readTimeout_25 : decode cX12_readTimeout 25 = .ok (.getfield 294, 3) := by decide +kernel
theorem dX12_readTimeout_28 : decode cX12_readTimeout 28 = .ok (.iastore, 1) := by decide +kernel
theorem dX12_readTimeout_29 : decode cX12_readTimeout 29 = .ok (.aload_n 0, 1) := by decide +kernel
theorem dX12_readTimeout_30 : decode cX12_readTimeout 30 = .ok (.invokevirtual 304, 3) := by decide +kernel
theorem dX12_readTimeout_33 : decode cX12_readTimeout 33 = .ok (.ireturn, 1) := by decide +kernel
set_option maxRecDepth 100000 in
set_option maxHeartbeats 4000000 in
theorem rX12_readTimeout (l : Launch) (D : va_G) (Y : Nat → ClassId) (h0 : Nat) (h1 : Nat) (h2 : Nat) (h3 : Nat) (h4 : Nat) (h5 : Nat) (h6 : Nat) (p2 : Int32) (k5 : Nat) (k6 : Nat) (p7 : Int32) (p8 : Int32) (p9 : Int32) (k10 : Nat) (p11 : Int32) (q12 : Int64) (k15 : Nat) (k16 : Nat) (f0 : Nat → Int32) (f1 : Nat → Int32) (f3 : Nat → Int32) (f4 : Nat → Int32) (f13 : Nat → Int32) (f14 : Nat → Int32) (HI : INV f0) (HL : k5 ≤ 1600) (HP : PLV f13)  (hx0 : k10 ≤ k6) (hx1 : k6 ≤ k5) (hx2 : (p9 = 0 ∨ k10 < k6)) (hx3 : k10 < k6) (sz : Nat) : Met l yX12_readTimeout (WSm yX12_readTimeout cX12_readTimeout 1 (some .boolean)) (mkR 5 0 0 108) (PreC D Y [.ref h0] [(h0, oC 13 [.ref h1, .ref h2, .int p2, .ref h3, .ref h4, .int (nI k5), .int (nI k6), .int p7, .int p8, .int p9, .int (nI k10), .int p11, .long q12, .ref h5, .ref h6, .int (nI k15), .int (nI k16)]), (h1, aI Y 3640 f0), (h2, aZ Y 2 f1), (h3, aZ Y 80 f3), (h4, aB Y 1600 f4), (h5, aI Y 200 f13), (h6, aI Y 800 f14)] sz) (QI D (fun (r : Int32) (u : WU) => (r = 0 ∨ (r = 1 ∧ k10 < (u.1 1))) ∧ INV (u.2.2.2.1 0) ∧ k10 ≤ (u.1 1) ∧ (u.1 1) ≤ (u.1 0) ∧ (u.1 0) ≤ k5 ∧ ((u.2.1 2) = 0 ∨ (u.1 1) < (u.1 0))) (fun (u : WU) => [(h0, oC 13 [.ref h1, .ref h2, .int p2, .ref h3, .ref h4, .int (nI k5), .int (nI (u.1 0)), .int (u.2.1 0), .int (u.2.1 1), .int (u.2.1 2), .int (nI (u.1 1)), .int (u.2.1 3), .long (u.2.2.1 0), .ref h5, .ref h6, .int (nI k15), .int (nI k16)]), (h1, aI Y 3640 (u.2.2.2.1 0)), (h2, aZ Y 2 f1), (h3, aZ Y 80 f3), (h4, aB Y 1600 f4), (h5, aI Y 200 f13), (h6, aI Y 800 f14)]) (va_A [(h0, oC 13 [.ref h1, .ref h2, .int p2, .ref h3, .ref h4, .int (nI k5), .int (nI k6), .int p7, .int p8, .int p9, .int (nI k10), .int p11, .long q12, .ref h5, .ref h6, .int (nI k15), .int (nI k16)]), (h1, aI Y 3640 f0), (h2, aZ Y 2 f1), (h3, aZ Y 80 f3), (h4, aB Y 1600 f4), (h5, aI Y 200 f13), (h6, aI Y 800 f14)] sz)) 0 0 (va_A [(h0, oC 13 [.ref h1, .ref h2, .int p2, .ref h3, .ref h4, .int (nI k5), .int (nI k6), .int p7, .int p8, .int p9, .int (nI k10), .int p11, .long q12, .ref h5, .ref h6, .int (nI k15), .int (nI k16)]), (h1, aI Y 3640 f0), (h2, aZ Y 2 f1), (h3, aZ Y 80 f3), (h4, aB Y 1600 f4), (h5, aI Y 200 f13), (h6, aI Y 800 f14)] sz) :=
  met_of  (by decide +kernel) (Nat.le_of_ble_eq_true rfl) (fun p e s m args below meth c B hin hsz => by
    have B : VB p s m args meth c D Y (va_A [(h0, oC 13 [.ref h1, .ref h2, .int p2, .ref h3, .ref h4, .int (nI k5), .int (nI k6), .int p7, .int p8, .int p9, .int (nI k10), .int p11, .long q12, .ref h5, .ref h6, .int (nI k15), .int (nI k16)]), (h1, aI Y 3640 f0), (h2, aZ Y 2 f1), (h3, aZ Y 80 f3), (h4, aB Y 1600 f4), (h5, aI Y 200 f13), (h6, aI Y 800 f14)] sz) cX12_readTimeout 1 RX12 (some .boolean) := B
    refine V_aload_n 0 B dX12_readTimeout_0 0 rfl ?_
    refine V_cvv 1 B (st := []) (As := []) (fun sz => rX12_advance l D Y h0 h1 h2 h3 h4 h5 h6 p2 k5 k6 p7 p8 p9 k10 p11 q12 k15 k16 f0 f1 f3 f4 f13 f14 HI (by omega) HP (by omega) sz) glV_RX12_288 ⟨rfl, rfl⟩ ⟨(Nat.le_of_ble_eq_true rfl), (Nat.le_of_ble_eq_true rfl)⟩ ⟨(Nat.le_of_ble_eq_true rfl), (Nat.le_of_ble_eq_true rfl)⟩ [0, 0, 0, 0, 0, 0, 0] rfl 13 0 rfl rfl rfl rfl (Nat.le_of_ble_eq_true rfl) rfl (fun _ _ => rfl) dX12_readTimeout_1 (fun u1 w2 => ?_)
    refine V_ws [(h0, oC 13 [.ref h1, .ref h2, .int p2, .ref h3, .ref h4, .int (nI k5), .int (nI (u1.1 0)), .int p7, .int p8, .int (u1.2.1 0), .int (nI (u1.1 1)), .int p11, .long (u1.2.2.1 0), .ref h5, .ref h6, .int (nI k15), .int (nI k16)]), (h1, aI Y 3640 f0), (h2, aZ Y 2 f1), (h3, aZ Y 80 f3), (h4, aB Y 1600 f4), (h5, aI Y 200 f13), (h6, aI Y 800 f14)] rfl ?_
    obtain ⟨x3, x4, x5, x6⟩ := w2
    refine V_aload_n 4 B dX12_readTimeout_4 0 rfl ?_
    refine V_iconst 5 B (v := 0) dX12_readTimeout_5 (by decide +kernel) ?_
    refine V_sipush 6 B (v := 999) dX12_readTimeout_6 (by decide +kernel) ?_
    refine V_cvi 9 B (st := []) (As := [.int 0, .int 999]) (fun sz => rX12_readNumber l D Y h0 h1 h2 h3 h4 h5 h6 p2 k5 (u1.1 0) p7 p8 (u1.2.1 0) (u1.1 1) p11 (u1.2.2.1 0) k15 k16 f0 f1 f3 f4 f13 f14 HI (by omega) HP 0 999 (by omega) (by omega) (by first | assumption | exact Or.inl rfl | exact Or.inr (by omega)) (by decide +kernel) sz) glV_RX12_301 ⟨rfl, rfl⟩ ⟨(Nat.le_of_ble_eq_true rfl), (Nat.le_of_ble_eq_true rfl)⟩ ⟨(Nat.le_of_ble_eq_true rfl), (Nat.le_of_ble_eq_true rfl)⟩ [0, 0, 0, 0, 0, 0, 0] rfl 13 0 rfl rfl rfl rfl (Nat.le_of_ble_eq_true rfl) rfl (fun _ _ _ => rfl) dX12_readTimeout_9 (fun j7 u8 w9 => ?_)
    refine V_ws [(h0, oC 13 [.ref h1, .ref h2, .int p2, .ref h3, .ref h4, .int (nI k5), .int (nI (u8.1 0)), .int (u8.2.1 0), .int (u8.2.1 1), .int (u8.2.1 2), .int (nI (u8.1 1)), .int (u8.2.1 3), .long (u8.2.2.1 0), .ref h5, .ref h6, .int (nI k15), .int (nI k16)]), (h1, aI Y 3640 f0), (h2, aZ Y 2 f1), (h3, aZ Y 80 f3), (h4, aB Y 1600 f4), (h5, aI Y 200 f13), (h6, aI Y 800 f14)] rfl ?_
    obtain ⟨x10, x11, x12, x13, x14⟩ := w9
    rcases x10 with rfl | ⟨rfl, x15, x16⟩
    ·
      refine V_if_ne_f 12 B 17 dX12_readTimeout_12 (by decide) (by decide +kernel) ?_
      refine V_iconst 15 B (v := 0) dX12_readTimeout_15 (by decide +kernel) ?_
      exact V_zret 16 B rfl dX12_readTimeout_16 (mkW [(u8.1 0), (u8.1 1)] [(u8.2.1 0), (u8.2.1 1), (u8.2.1 2), (u8.2.1 3)] [(u8.2.2.1 0)] [f0] [] []) ⟨(Or.inl rfl), HI, (show k10 ≤ (u8.1 1) by omega), (show (u8.1 1) ≤ (u8.1 0) by omega), (show (u8.1 0) ≤ k5 by omega), (show ((u8.2.1 2) = 0 ∨ (u8.1 1) < (u8.1 0)) by first | assumption | exact Or.inr (by omega))⟩ rfl
    ·
      have e17 : (0 : Int32).toInt = 0 := by decide +kernel
      have e18 : (999 : Int32).toInt = 999 := by decide +kernel
      generalize u8.2.1 3 = j19 at *
      refine V_if_ne_t 12 B 17 dX12_readTimeout_12 (by decide) (by decide +kernel) ?_
      refine V_aload_n 17 B dX12_readTimeout_17 0 rfl ?_
      refine V_get 18 B gf_RX12_9 0 rfl rfl dX12_readTimeout_18 ?_
      refine V_sipush 21 B (v := 2723) dX12_readTimeout_21 (by decide +kernel) ?_
      refine V_aload_n 24 B dX12_readTimeout_24 0 rfl ?_
      refine V_get 25 B gf_RX12_294 0 rfl rfl dX12_readTimeout_25 ?_
      have hv20 : INV (upd f0 2723 j19) := INV_free HI (show bd 2723 = FREE by decide +kernel)
      refine V_iast 28 B 1 rfl (vpin _ _ (by decide +kernel)) dX12_readTimeout_28 [(h0, oC 13 [.ref h1, .ref h2, .int p2, .ref h3, .ref h4, .int (nI k5), .int (nI (u8.1 0)), .int (u8.2.1 0), .int (u8.2.1 1), .int (u8.2.1 2), .int (nI (u8.1 1)), .int j19, .long (u8.2.2.1 0), .ref h5, .ref h6, .int (nI k15), .int (nI k16)]), (h1, aI Y 3640 (upd f0 2723 j19)), (h2, aZ Y 2 f1), (h3, aZ Y 80 f3), (h4, aB Y 1600 f4), (h5, aI Y 200 f13), (h6, aI Y 800 f14)] rfl ?_
      refine V_aload_n 29 B dX12_readTimeout_29 0 rfl ?_
      refine V_cvi 30 B (st := []) (As := []) (fun sz => rX12_readEnd l D Y h0 h1 h2 h3 h4 h5 h6 p2 k5 (u8.1 0) (u8.2.1 0) (u8.2.1 1) (u8.2.1 2) (u8.1 1) j19 (u8.2.2.1 0) k15 k16 (upd f0 2723 j19) f1 f3 f4 f13 f14 hv20 (by omega) HP (by omega) (by omega) (by first | assumption | exact Or.inl rfl | exact Or.inr (by omega)) sz) glV_RX12_304 ⟨rfl, rfl⟩ ⟨(Nat.le_of_ble_eq_true rfl), (Nat.le_of_ble_eq_true rfl)⟩ ⟨(Nat.le_of_ble_eq_true rfl), (Nat.le_of_ble_eq_true rfl)⟩ [0, 0, 0, 0, 0, 0, 0] rfl 13 0 rfl rfl rfl rfl (Nat.le_of_ble_eq_true rfl) rfl (fun _ _ _ => rfl) dX12_readTimeout_30 (fun j21 u22 w23 => ?_)
      refine V_ws [(h0, oC 13 [.ref h1, .ref h2, .int p2, .ref h3, .ref h4, .int (nI k5), .int (nI (u22.1 0)), .int (u22.2.1 0), .int (u22.2.1 1), .int (u22.2.1 2), .int (nI (u22.1 1)), .int j19, .long (u22.2.2.1 0), .ref h5, .ref h6, .int (nI k15), .int (nI k16)]), (h1, aI Y 3640 (upd f0 2723 j19)), (h2, aZ Y 2 f1), (h3, aZ Y 80 f3), (h4, aB Y 1600 f4), (h5, aI Y 200 f13), (h6, aI Y 800 f14)] rfl ?_
      obtain ⟨x24, x25, x26, x27, x28⟩ := w23
      rcases x24 with rfl | ⟨rfl, x29⟩
      ·
        exact V_zret 33 B rfl dX12_readTimeout_33 (mkW [(u22.1 0), (u22.1 1)] [(u22.2.1 0), (u22.2.1 1), (u22.2.1 2), j19] [(u22.2.2.1 0)] [(upd f0 2723 j19)] [] []) ⟨(Or.inl rfl), hv20, (show k10 ≤ (u22.1 1) by omega), (show (u22.1 1) ≤ (u22.1 0) by omega), (show (u22.1 0) ≤ k5 by omega), (show ((u22.2.1 2) = 0 ∨ (u22.1 1) < (u22.1 0)) by first | assumption | exact Or.inr (by omega))⟩ rfl
      ·
        exact V_zret 33 B rfl dX12_readTimeout_33 (mkW [(u22.1 0), (u22.1 1)] [(u22.2.1 0), (u22.2.1 1), (u22.2.1 2), j19] [(u22.2.2.1 0)] [(upd f0 2723 j19)] [] []) ⟨(Or.inr ⟨rfl, (show k10 < (u22.1 1) by omega)⟩), hv20, (show k10 ≤ (u22.1 1) by omega), (show (u22.1 1) ≤ (u22.1 0) by omega), (show (u22.1 0) ≤ k5 by omega), (show ((u22.2.1 2) = 0 ∨ (u22.1 1) < (u22.1 0)) by first | assumption | exact Or.inr (by omega))⟩ rfl)
theorem dX12_readStatement_0 : decode cX12_readStatement 0 = .ok (.aload_n 0, 1) := by decide +kernel
theorem dX12_readStatement_1 : decode cX12_readStatement 1 = .ok (.bipush 109, 2) := by decide +kernel
theorem dX12_readStatement_3 : decode cX12_readStatement 3 = .ok (.bipush 111, 2) := by decide +kernel
theorem dX12_readStatement_5 : decode cX12_readStatement 5 = .ok (.bipush 100, 2) := by decide +kernel
theorem dX12_readStatement_7 : decode cX12_readStatement 7 = .ok (.bipush 101, 2) := by decide +kernel
theorem dX12_readStatement_9 : decode cX12_readStatement 9 = .ok (.iconst 0, 1) := by decide +kernel
theorem dX12_readStatement_10 : decode cX12_readStatement 10 = .ok (.iconst 0, 1) := by decide +kernel
theorem dX12_readStatement_11 : decode cX12_readStatement 11 = .ok (.invokestatic 319, 3) := by decide +kernel
theorem glS_RX12_319 : GLS RX12 319 yX12_pack cX12_pack 8 (some .long) 6 := ⟨⟨(mT9 225 rfl rfl), (mT9 226 rfl rfl), (mT1 13 rfl rfl), (mT9 227 rfl rfl)⟩, by decide +kernel⟩
theorem dX12_readStatement_14 : decode cX12_readStatement 14 = .ok (.invokevirtual 323, 3) := by decide +kernel
theorem glV_RX12_323 : GLV RX12 323 yX12_isWord RX12 cX12_isWord 3 (some .boolean) 1 := ⟨⟨(mT9 228 rfl rfl), (mT9 230 rfl rfl), (mTs 76 rfl rfl), (mT1 13 rfl rfl), (mT9 231 rfl rfl)⟩, by decide +kernel⟩
theorem dX12_readStatement_17 : decode cX12_readStatement 17 = .ok (.ifCond .eq 8, 3) := by decide +kernel
theorem dX12_readStatement_25 : decode cX12_readStatement 25 = .ok (.aload_n 0, 1) := by decide +kernel
theorem dX12_readStatement_26 : decode cX12_readStatement 26 = .ok (.bipush 112, 2) := by decide +kernel
theorem dX12_readStatement_28 : decode cX12_readStatement 28 = .ok (.bipush 108, 2) := by decide +kernel
theorem dX12_readStatement_30 : decode cX12_readStatement 30 = .ok (.bipush 97, 2) := by decide +kernel
theorem dX12_readStatement_32 : decode cX12_readStatement 32 = .ok (.bipush 105, 2) := by decide +kernel
theorem dX12_readStatement_34 : decode cX12_readStatement 34 = .ok (.bipush 110, 2) := by decide +kernel
theorem dX12_readStatement_36 : decode cX12_readStatement 36 = .ok (.iconst 0, 1) := by decide +kernel
theorem dX12_readStatement_37 : decode cX12_readStatement 37 = .ok (.invokestatic 319, 3) := by decide +kernel
theorem dX12_readStatement_40 : decode cX12_readStatement 40 = .ok (.invokevirtual 323, 3) := by decide +kernel
theorem dX12_readStatement_43 : decode cX12_readStatement 43 = .ok (.ifCond .eq 9, 3) := by decide +kernel
theorem dX12_readStatement_52 : decode cX12_readStatement 52 = .ok (.aload_n 0, 1) := by decide +kernel
theorem dX12_readStatement_53 : decode cX12_readStatement 53 = .ok (.bipush 115, 2) := by decide +kernel
theorem dX12_readStatement_55 : decode cX12_readStatement 55 = .ok (.bipush 119, 2) := by decide +kernel
theorem dX12_readStatement_57 : decode cX12_readStatement 57 = .ok (.bipush 105, 2) := by decide +kernel
theorem dX12_readStatement_59 : decode cX12_readStatement 59 = .ok (.bipush 116, 2) := by decide +kernel
theorem dX12_readStatement_61 : decode cX12_readStatement 61 = .ok (.bipush 99, 2) := by decide +kernel
theorem dX12_readStatement_63 : decode cX12_readStatement 63 = .ok (.bipush 104, 2) := by decide +kernel
theorem dX12_readStatement_65 : decode cX12_readStatement 65 = .ok (.invokestatic 319, 3) := by decide +kernel
theorem dX12_readStatement_68 : decode cX12_readStatement 68 = .ok (.invokevirtual 323, 3) := by decide +kernel
theorem dX12_readStatement_71 : decode cX12_readStatement 71 = .ok (.ifCond .eq 9, 3) := by decide +kernel
theorem dX12_readStatement_80 : decode cX12_readStatement 80 = .ok (.aload_n 0, 1) := by decide +kernel
theorem dX12_readStatement_81 : decode cX12_readStatement 81 = .ok (.bipush 98, 2) := by decide +kernel
theorem dX12_readStatement_83 : decode cX12_readStatement 83 = .ok (.bipush 97, 2) := by decide +kernel
theorem dX12_readStatement_85 : decode cX12_readStatement 85 = .ok (.bipush 99, 2) := by decide +kernel
theorem dX12_readStatement_87 : decode cX12_readStatement 87 = .ok (.bipush 107, 2) := by decide +kernel
theorem dX12_readStatement_89 : decode cX12_readStatement 89 = .ok (.iconst 0, 1) := by decide +kernel
theorem dX12_readStatement_90 : decode cX12_readStatement 90 = .ok (.iconst 0, 1) := by decide +kernel
theorem dX12_readStatement_91 : decode cX12_readStatement 91 = .ok (.invokestatic 319, 3) := by decide +kernel
theorem dX12_readStatement_94 : decode cX12_readStatement 94 = .ok (.invokevirtual 323, 3) := by decide +kernel
theorem dX12_readStatement_97 : decode cX12_readStatement 97 = .ok (.ifCond .eq 9, 3) := by decide +kernel
theorem dX12_readStatement_106 : decode cX12_readStatement 106 = .ok (.aload_n 0, 1) := by decide +kernel
theorem dX12_readStatement_107 : decode cX12_readStatement 107 = .ok (.bipush 114, 2) := by decide +kernel
theorem dX12_readStatement_109 : decode cX12_readStatement 109 = .ok (.bipush 101, 2) := by decide +kernel
theorem dX12_readStatement_111 : decode cX12_readStatement 111 = .ok (.bipush 115, 2) := by decide +kernel
theorem dX12_readStatement_113 : decode cX12_readStatement 113 = .ok (.bipush 101, 2) := by decide +kernel
theorem dX12_readStatement_115 : decode cX12_readStatement 115 = .ok (.bipush 114, 2) := by decide +kernel
theorem dX12_readStatement_117 : decode cX12_readStatement 117 = .ok (.bipush 118, 2) := by decide +kernel
theorem dX12_readStatement_119 : decode cX12_readStatement 119 = .ok (.invokestatic 319, 3) := by decide +kernel
theorem dX12_readStatement_122 : decode cX12_readStatement 122 = .ok (.bipush 7, 2) := by decide +kernel
theorem dX12_readStatement_124 : decode cX12_readStatement 124 = .ok (.lshl, 1) := by decide +kernel
theorem dX12_readStatement_125 : decode cX12_readStatement 125 = .ok (.ldc2_w 333, 3) := by decide +kernel
theorem dX12_readStatement_128 : decode cX12_readStatement 128 = .ok (.lor, 1) := by decide +kernel
theorem dX12_readStatement_129 : decode cX12_readStatement 129 = .ok (.invokevirtual 323, 3) := by decide +kernel
theorem dX12_readStatement_132 : decode cX12_readStatement 132 = .ok (.ifCond .eq 8, 3) := by decide +kernel
theorem dX12_readStatement_140 : decode cX12_readStatement 140 = .ok (.aload_n 0, 1) := by decide +kernel
theorem dX12_readStatement_141 : decode cX12_readStatement 141 = .ok (.bipush 98, 2) := by decide +kernel
theorem dX12_readStatement_143 : decode cX12_readStatement 143 = .ok (.bipush 105, 2) := by decide +kernel
theorem dX12_readStatement_145 : decode cX12_readStatement 145 = .ok (.bipush 110, 2) := by decide +kernel
theorem dX12_readStatement_147 : decode cX12_readStatement 147 = .ok (.bipush 100, 2) := by decide +kernel
theorem dX12_readStatement_149 : decode cX12_readStatement 149 = .ok (.iconst 0, 1) := by decide +kernel
theorem dX12_readStatement_150 : decode cX12_readStatement 150 = .ok (.iconst 0, 1) := by decide +kernel
theorem dX12_readStatement_151 : decode cX12_readStatement 151 = .ok (.invokestatic 319, 3) := by decide +kernel
theorem dX12_readStatement_154 : decode cX12_readStatement 154 = .ok (.invokevirtual 323, 3) := by decide +kernel
theorem dX12_readStatement_157 : decode cX12_readStatement 157 = .ok (.ifCond .eq 8, 3) := by decide +kernel
theorem dX12_readStatement_165 : decode cX12_readStatement 165 = .ok (.aload_n 0, 1) := by decide +kernel
theorem dX12_readStatement_166 : decode cX12_readStatement 166 = .ok (.bipush 108, 2) := by decide +kernel
theorem dX12_readStatement_168 : decode cX12_readStatement 168 = .ok (.bipush 97, 2) := by decide +kernel
theorem dX12_readStatement_170 : decode cX12_readStatement 170 = .ok (.bipush 121, 2) := by decide +kernel
theorem dX12_readStatement_172 : decode cX12_readStatement 172 = .ok (.bipush 101, 2) := by decide +kernel
theorem dX12_readStatement_174 : decode cX12_readStatement 174 = .ok (.bipush 114, 2) := by decide +kernel
theorem dX12_readStatement_176 : decode cX12_readStatement 176 = .ok (.iconst 0, 1) := by decide +kernel
theorem dX12_readStatement_177 : decode cX12_readStatement 177 = .ok (.invokestatic 319, 3) := by decide +kernel
theorem dX12_readStatement_180 : decode cX12_readStatement 180 = .ok (.invokevirtual 323, 3) := by decide +kernel
theorem dX12_readStatement_183 : decode cX12_readStatement 183 = .ok (.ifCond .eq 8, 3) := by decide +kernel
theorem dX12_readStatement_191 : decode cX12_readStatement 191 = .ok (.aload_n 0, 1) := by decide +kernel
theorem dX12_readStatement_192 : decode cX12_readStatement 192 = .ok (.bipush 116, 2) := by decide +kernel
theorem dX12_readStatement_194 : decode cX12_readStatement 194 = .ok (.bipush 105, 2) := by decide +kernel
