theorem dX12_count_0 : decode cX12_count 0 = .ok (.aload_n 0, 1) := by decide +kernel
theorem dX12_count_1 : decode cX12_count 1 = .ok (.iconst 0, 1) := by decide +kernel
theorem dX12_count_2 : decode cX12_count 2 = .ok (.putfield 38, 3) := by decide +kernel
theorem dX12_count_5 : decode cX12_count 5 = .ok (.iload_n 1, 1) := by decide +kernel
theorem dX12_count_6 : decode cX12_count 6 = .ok (.tableswitch 141 0 10 #[58, 65, 72, 79, 86, 93, 101, 109, 117, 125, 132], 58) := by decide +kernel
theorem dX12_count_64 : decode cX12_count 64 = .ok (.aload_n 0, 1) := by decide +kernel
theorem dX12_count_65 : decode cX12_count 65 = .ok (.getfield 9, 3) := by decide +kernel
theorem dX12_count_68 : decode cX12_count 68 = .ok (.iconst 0, 1) := by decide +kernel
theorem dX12_count_69 : decode cX12_count 69 = .ok (.iaload, 1) := by decide +kernel
theorem dX12_count_70 : decode cX12_count 70 = .ok (.ireturn, 1) := by decide +kernel
theorem dX12_count_71 : decode cX12_count 71 = .ok (.aload_n 0, 1) := by decide +kernel
theorem dX12_count_72 : decode cX12_count 72 = .ok (.getfield 9, 3) := by decide +kernel
theorem dX12_count_75 : decode cX12_count 75 = .ok (.iconst 4, 1) := by decide +kernel
theorem dX12_count_76 : decode cX12_count 76 = .ok (.iaload, 1) := by decide +kernel
theorem dX12_count_77 : decode cX12_count 77 = .ok (.ireturn, 1) := by decide +kernel
theorem dX12_count_78 : decode cX12_count 78 = .ok (.aload_n 0, 1) := by decide +kernel
theorem dX12_count_79 : decode cX12_count 79 = .ok (.getfield 9, 3) := by decide +kernel
theorem dX12_count_82 : decode cX12_count 82 = .ok (.iconst 1, 1) := by decide +kernel
theorem dX12_count_83 : decode cX12_count 83 = .ok (.iaload, 1) := by decide +kernel
theorem dX12_count_84 : decode cX12_count 84 = .ok (.ireturn, 1) := by decide +kernel
theorem dX12_count_85 : decode cX12_count 85 = .ok (.aload_n 0, 1) := by decide +kernel
theorem dX12_count_86 : decode cX12_count 86 = .ok (.getfield 9, 3) := by decide +kernel
theorem dX12_count_89 : decode cX12_count 89 = .ok (.iconst 3, 1) := by decide +kernel
theorem dX12_count_90 : decode cX12_count 90 = .ok (.iaload, 1) := by decide +kernel
theorem dX12_count_91 : decode cX12_count 91 = .ok (.ireturn, 1) := by decide +kernel
theorem dX12_count_92 : decode cX12_count 92 = .ok (.aload_n 0, 1) := by decide +kernel
theorem dX12_count_93 : decode cX12_count 93 = .ok (.getfield 9, 3) := by decide +kernel
theorem dX12_count_96 : decode cX12_count 96 = .ok (.iconst 2, 1) := by decide +kernel
theorem dX12_count_97 : decode cX12_count 97 = .ok (.iaload, 1) := by decide +kernel
theorem dX12_count_98 : decode cX12_count 98 = .ok (.ireturn, 1) := by decide +kernel
theorem dX12_count_99 : decode cX12_count 99 = .ok (.aload_n 0, 1) := by decide +kernel
theorem dX12_count_100 : decode cX12_count 100 = .ok (.getfield 9, 3) := by decide +kernel
theorem dX12_count_103 : decode cX12_count 103 = .ok (.bipush 8, 2) := by decide +kernel
theorem dX12_count_105 : decode cX12_count 105 = .ok (.iaload, 1) := by decide +kernel
theorem dX12_count_106 : decode cX12_count 106 = .ok (.ireturn, 1) := by decide +kernel
theorem dX12_count_107 : decode cX12_count 107 = .ok (.aload_n 0, 1) := by decide +kernel
theorem dX12_count_108 : decode cX12_count 108 = .ok (.getfield 9, 3) := by decide +kernel
theorem dX12_count_111 : decode cX12_count 111 = .ok (.bipush 9, 2) := by decide +kernel
theorem dX12_count_113 : decode cX12_count 113 = .ok (.iaload, 1) := by decide +kernel
theorem dX12_count_114 : decode cX12_count 114 = .ok (.ireturn, 1) := by decide +kernel
theorem dX12_count_115 : decode cX12_count 115 = .ok (.aload_n 0, 1) := by decide +kernel
theorem dX12_count_116 : decode cX12_count 116 = .ok (.getfield 9, 3) := by decide +kernel
theorem dX12_count_119 : decode cX12_count 119 = .ok (.bipush 7, 2) := by decide +kernel
theorem dX12_count_121 : decode cX12_count 121 = .ok (.iaload, 1) := by decide +kernel
theorem dX12_count_122 : decode cX12_count 122 = .ok (.ireturn, 1) := by decide +kernel
theorem dX12_count_123 : decode cX12_count 123 = .ok (.aload_n 0, 1) := by decide +kernel
theorem dX12_count_124 : decode cX12_count 124 = .ok (.getfield 9, 3) := by decide +kernel
theorem dX12_count_127 : decode cX12_count 127 = .ok (.bipush 15, 2) := by decide +kernel
theorem dX12_count_129 : decode cX12_count 129 = .ok (.iaload, 1) := by decide +kernel
theorem dX12_count_130 : decode cX12_count 130 = .ok (.ireturn, 1) := by decide +kernel
theorem dX12_count_131 : decode cX12_count 131 = .ok (.aload_n 0, 1) := by decide +kernel
theorem dX12_count_132 : decode cX12_count 132 = .ok (.getfield 9, 3) := by decide +kernel
theorem dX12_count_135 : decode cX12_count 135 = .ok (.iconst 5, 1) := by decide +kernel
theorem dX12_count_136 : decode cX12_count 136 = .ok (.iaload, 1) := by decide +kernel
theorem dX12_count_137 : decode cX12_count 137 = .ok (.ireturn, 1) := by decide +kernel
theorem dX12_count_138 : decode cX12_count 138 = .ok (.aload_n 0, 1) := by decide +kernel
theorem dX12_count_139 : decode cX12_count 139 = .ok (.getfield 9, 3) := by decide +kernel
theorem dX12_count_142 : decode cX12_count 142 = .ok (.sipush 3624, 3) := by decide +kernel
theorem dX12_count_145 : decode cX12_count 145 = .ok (.iaload, 1) := by decide +kernel
theorem dX12_count_146 : decode cX12_count 146 = .ok (.ireturn, 1) := by decide +kernel
theorem dX12_count_147 : decode cX12_count 147 = .ok (.iconst (-1), 1) := by decide +kernel
theorem dX12_count_148 : decode cX12_count 148 = .ok (.ireturn, 1) := by decide +kernel
set_option maxRecDepth 100000 in
set_option maxHeartbeats 4000000 in
theorem rX12_count (l : Launch) (D : va_G) (Y : Nat → ClassId) (h0 : Nat) (h1 : Nat) (h2 : Nat) (h3 : Nat) (h4 : Nat) (h5 : Nat) (h6 : Nat) (p2 : Int32) (k5 : Nat) (k6 : Nat) (p7 : Int32) (p8 : Int32) (p9 : Int32) (k10 : Nat) (p11 : Int32) (q12 : Int64) (k15 : Nat) (k16 : Nat) (f0 : Nat → Int32) (f1 : Nat → Int32) (f3 : Nat → Int32) (f4 : Nat → Int32) (f13 : Nat → Int32) (f14 : Nat → Int32) (ph : Nat → Int32) (HI : INV ph f0) (HL : k5 ≤ 1600) (HP : PLV f13) (s0 : Int32)  (sz : Nat) : Met l yX12_count (WSm yX12_count cX12_count 2 (some .int)) (mkR 0 0 0 0) (PreC D Y [.ref h0, .int s0] [(h0, oC 13 [.ref h1, .ref h2, .int p2, .ref h3, .ref h4, .int (nI k5), .int (nI k6), .int p7, .int p8, .int p9, .int (nI k10), .int p11, .long q12, .ref h5, .ref h6, .int (nI k15), .int (nI k16)]), (h1, aI Y 3640 f0), (h2, aZ Y 2 f1), (h3, aZ Y 80 f3), (h4, aB Y 1600 f4), (h5, aI Y 200 f13), (h6, aI Y 800 f14)] sz) (QI D (fun (r : Int32) (u : WU) => True) (fun (u : WU) => [(h0, oC 13 [.ref h1, .ref h2, .int (u.2.1 0), .ref h3, .ref h4, .int (nI k5), .int (nI k6), .int p7, .int p8, .int p9, .int (nI k10), .int p11, .long q12, .ref h5, .ref h6, .int (nI k15), .int (nI k16)]), (h1, aI Y 3640 f0), (h2, aZ Y 2 f1), (h3, aZ Y 80 f3), (h4, aB Y 1600 f4), (h5, aI Y 200 f13), (h6, aI Y 800 f14)]) (va_A [(h0, oC 13 [.ref h1, .ref h2, .int p2, .ref h3, .ref h4, .int (nI k5), .int (nI k6), .int p7, .int p8, .int p9, .int (nI k10), .int p11, .long q12, .ref h5, .ref h6, .int (nI k15), .int (nI k16)]), (h1, aI Y 3640 f0), (h2, aZ Y 2 f1), (h3, aZ Y 80 f3), (h4, aB Y 1600 f4), (h5, aI Y 200 f13), (h6, aI Y 800 f14)] sz)) 0 0 (va_A [(h0, oC 13 [.ref h1, .ref h2, .int p2, .ref h3, .ref h4, .int (nI k5), .int (nI k6), .int p7, .int p8, .int p9, .int (nI k10), .int p11, .long q12, .ref h5, .ref h6, .int (nI k15), .int (nI k16)]), (h1, aI Y 3640 f0), (h2, aZ Y 2 f1), (h3, aZ Y 80 f3), (h4, aB Y 1600 f4), (h5, aI Y 200 f13), (h6, aI Y 800 f14)] sz) :=
  met_of  (by decide +kernel) (Nat.le_of_ble_eq_true rfl) (fun p e s m args below meth c B hin hsz => by
    have B : VB p s m args meth c D Y (va_A [(h0, oC 13 [.ref h1, .ref h2, .int p2, .ref h3, .ref h4, .int (nI k5), .int (nI k6), .int p7, .int p8, .int p9, .int (nI k10), .int p11, .long q12, .ref h5, .ref h6, .int (nI k15), .int (nI k16)]), (h1, aI Y 3640 f0), (h2, aZ Y 2 f1), (h3, aZ Y 80 f3), (h4, aB Y 1600 f4), (h5, aI Y 200 f13), (h6, aI Y 800 f14)] sz) cX12_count 2 RX12 (some .int) := B
    refine V_aload_n 0 B dX12_count_0 0 rfl ?_
    refine V_iconst 1 B (v := 0) dX12_count_1 (by decide +kernel) ?_
    refine V_put 2 B gp_RX12_38 0 rfl (Nat.le_of_ble_eq_true rfl) rfl rfl dX12_count_2 [(h0, oC 13 [.ref h1, .ref h2, .int 0, .ref h3, .ref h4, .int (nI k5), .int (nI k6), .int p7, .int p8, .int p9, .int (nI k10), .int p11, .long q12, .ref h5, .ref h6, .int (nI k15), .int (nI k16)]), (h1, aI Y 3640 f0), (h2, aZ Y 2 f1), (h3, aZ Y 80 f3), (h4, aB Y 1600 f4), (h5, aI Y 200 f13), (h6, aI Y 800 f14)] rfl ?_
    refine V_iload_n 5 B dX12_count_5 1 rfl ?_
    by_cases kk0 : s0 = 0
    ·
      refine V_eqi _ 0 kk0 ?_
      refine V_tableIn 6 B 64 dX12_count_6 (by decide +kernel) (by decide +kernel) (off := 58) (by decide +kernel) (by decide) ?_
      refine V_aload_n 64 B dX12_count_64 0 rfl ?_
      refine V_get 65 B gf_RX12_9 0 rfl rfl dX12_count_65 ?_
      refine V_iconst 68 B (v := 0) dX12_count_68 (by decide +kernel) ?_
      have x1 : (gN f0 0) ≤ 6 := gN_le HI (by omega) (show bd 0 = (0, ((6 : Nat) : Int)) by decide +kernel)
      refine V_iald 69 B (v := (nI (gN f0 0))) 1 rfl (vpin _ _ (by decide +kernel)) dX12_count_69 (by show f0 0 = _; exact gN_eq HI (by omega) (show bd 0 = (0, ((6 : Nat) : Int)) by decide +kernel)) ?_
      exact V_iret 70 B dX12_count_70 (mkW [] [0] [] [] [] []) trivial rfl
    ·
      by_cases kk2 : s0 = 1
      ·
        refine V_eqi _ 1 kk2 ?_
        refine V_tableIn 6 B 71 dX12_count_6 (by decide +kernel) (by decide +kernel) (off := 65) (by decide +kernel) (by decide) ?_
        refine V_aload_n 71 B dX12_count_71 0 rfl ?_
        refine V_get 72 B gf_RX12_9 0 rfl rfl dX12_count_72 ?_
        refine V_iconst 75 B (v := 4) dX12_count_75 (by decide +kernel) ?_
        have x3 : (gN f0 4) ≤ 4 := gN_le HI (by omega) (show bd 4 = (0, ((4 : Nat) : Int)) by decide +kernel)
        refine V_iald 76 B (v := (nI (gN f0 4))) 1 rfl (vpin _ _ (by decide +kernel)) dX12_count_76 (by show f0 4 = _; exact gN_eq HI (by omega) (show bd 4 = (0, ((4 : Nat) : Int)) by decide +kernel)) ?_
        exact V_iret 77 B dX12_count_77 (mkW [] [0] [] [] [] []) trivial rfl
      ·
        by_cases kk4 : s0 = 2
        ·
          refine V_eqi _ 2 kk4 ?_
          refine V_tableIn 6 B 78 dX12_count_6 (by decide +kernel) (by decide +kernel) (off := 72) (by decide +kernel) (by decide) ?_
          refine V_aload_n 78 B dX12_count_78 0 rfl ?_
          refine V_get 79 B gf_RX12_9 0 rfl rfl dX12_count_79 ?_
          refine V_iconst 82 B (v := 1) dX12_count_82 (by decide +kernel) ?_
          have x5 : (gN f0 1) ≤ 40 := gN_le HI (by omega) (show bd 1 = (0, ((40 : Nat) : Int)) by decide +kernel)
          refine V_iald 83 B (v := (nI (gN f0 1))) 1 rfl (vpin _ _ (by decide +kernel)) dX12_count_83 (by show f0 1 = _; exact gN_eq HI (by omega) (show bd 1 = (0, ((40 : Nat) : Int)) by decide +kernel)) ?_
          exact V_iret 84 B dX12_count_84 (mkW [] [0] [] [] [] []) trivial rfl
        ·
          by_cases kk6 : s0 = 3
          ·
            refine V_eqi _ 3 kk6 ?_
            refine V_tableIn 6 B 85 dX12_count_6 (by decide +kernel) (by decide +kernel) (off := 79) (by decide +kernel) (by decide) ?_
            refine V_aload_n 85 B dX12_count_85 0 rfl ?_
            refine V_get 86 B gf_RX12_9 0 rfl rfl dX12_count_86 ?_
            refine V_iconst 89 B (v := 3) dX12_count_89 (by decide +kernel) ?_
            have x7 : (gN f0 3) ≤ 80 := gN_le HI (by omega) (show bd 3 = (0, ((80 : Nat) : Int)) by decide +kernel)
            refine V_iald 90 B (v := (nI (gN f0 3))) 1 rfl (vpin _ _ (by decide +kernel)) dX12_count_90 (by show f0 3 = _; exact gN_eq HI (by omega) (show bd 3 = (0, ((80 : Nat) : Int)) by decide +kernel)) ?_
            exact V_iret 91 B dX12_count_91 (mkW [] [0] [] [] [] []) trivial rfl
          ·
            by_cases kk8 : s0 = 4
            ·
              refine V_eqi _ 4 kk8 ?_
              refine V_tableIn 6 B 92 dX12_count_6 (by decide +kernel) (by decide +kernel) (off := 86) (by decide +kernel) (by decide) ?_
              refine V_aload_n 92 B dX12_count_92 0 rfl ?_
              refine V_get 93 B gf_RX12_9 0 rfl rfl dX12_count_93 ?_
              refine V_iconst 96 B (v := 2) dX12_count_96 (by decide +kernel) ?_
              have x9 : (gN f0 2) ≤ 6 := gN_le HI (by omega) (show bd 2 = (0, ((6 : Nat) : Int)) by decide +kernel)
              refine V_iald 97 B (v := (nI (gN f0 2))) 1 rfl (vpin _ _ (by decide +kernel)) dX12_count_97 (by show f0 2 = _; exact gN_eq HI (by omega) (show bd 2 = (0, ((6 : Nat) : Int)) by decide +kernel)) ?_
              exact V_iret 98 B dX12_count_98 (mkW [] [0] [] [] [] []) trivial rfl
            ·
              by_cases kk10 : s0 = 5
              ·
                refine V_eqi _ 5 kk10 ?_
                refine V_tableIn 6 B 99 dX12_count_6 (by decide +kernel) (by decide +kernel) (off := 93) (by decide +kernel) (by decide) ?_
                refine V_aload_n 99 B dX12_count_99 0 rfl ?_
                refine V_get 100 B gf_RX12_9 0 rfl rfl dX12_count_100 ?_
                refine V_bipush 103 B (v := 8) dX12_count_103 (by decide +kernel) ?_
                have x11 : (gN f0 8) ≤ 3 := gN_le HI (by omega) (show bd 8 = (0, ((3 : Nat) : Int)) by decide +kernel)
                refine V_iald 105 B (v := (nI (gN f0 8))) 1 rfl (vpin _ _ (by decide +kernel)) dX12_count_105 (by show f0 8 = _; exact gN_eq HI (by omega) (show bd 8 = (0, ((3 : Nat) : Int)) by decide +kernel)) ?_
                exact V_iret 106 B dX12_count_106 (mkW [] [0] [] [] [] []) trivial rfl
              ·
                by_cases kk12 : s0 = 6
                ·
                  refine V_eqi _ 6 kk12 ?_
                  refine V_tableIn 6 B 107 dX12_count_6 (by decide +kernel) (by decide +kernel) (off := 101) (by decide +kernel) (by decide) ?_
                  refine V_aload_n 107 B dX12_count_107 0 rfl ?_
                  refine V_get 108 B gf_RX12_9 0 rfl rfl dX12_count_108 ?_
                  refine V_bipush 111 B (v := 9) dX12_count_111 (by decide +kernel) ?_
                  refine V_iald 113 B (v := f0 (9)) 1 rfl (vpin _ _ (by decide +kernel)) dX12_count_113 (by rfl) ?_
                  refine V_nmi (fun j13 e14 => ?_)
                  exact V_iret 114 B dX12_count_114 (mkW [] [0] [] [] [] []) trivial rfl
                ·
                  by_cases kk15 : s0 = 7
                  ·
                    refine V_eqi _ 7 kk15 ?_
                    refine V_tableIn 6 B 115 dX12_count_6 (by decide +kernel) (by decide +kernel) (off := 109) (by decide +kernel) (by decide) ?_
                    refine V_aload_n 115 B dX12_count_115 0 rfl ?_
                    refine V_get 116 B gf_RX12_9 0 rfl rfl dX12_count_116 ?_
                    refine V_bipush 119 B (v := 7) dX12_count_119 (by decide +kernel) ?_
                    have x16 : (gN f0 7) ≤ 8 := gN_le HI (by omega) (show bd 7 = (0, ((8 : Nat) : Int)) by decide +kernel)
                    refine V_iald 121 B (v := (nI (gN f0 7))) 1 rfl (vpin _ _ (by decide +kernel)) dX12_count_121 (by show f0 7 = _; exact gN_eq HI (by omega) (show bd 7 = (0, ((8 : Nat) : Int)) by decide +kernel)) ?_
                    exact V_iret 122 B dX12_count_122 (mkW [] [0] [] [] [] []) trivial rfl
                  ·
                    by_cases kk17 : s0 = 8
                    ·
                      refine V_eqi _ 8 kk17 ?_
                      refine V_tableIn 6 B 123 dX12_count_6 (by decide +kernel) (by decide +kernel) (off := 117) (by decide +kernel) (by decide) ?_
                      refine V_aload_n 123 B dX12_count_123 0 rfl ?_
                      refine V_get 124 B gf_RX12_9 0 rfl rfl dX12_count_124 ?_
                      refine V_bipush 127 B (v := 15) dX12_count_127 (by decide +kernel) ?_
                      have x18 : (gN f0 15) ≤ 10 := gN_le HI (by omega) (show bd 15 = (0, ((10 : Nat) : Int)) by decide +kernel)
                      refine V_iald 129 B (v := (nI (gN f0 15))) 1 rfl (vpin _ _ (by decide +kernel)) dX12_count_129 (by show f0 15 = _; exact gN_eq HI (by omega) (show bd 15 = (0, ((10 : Nat) : Int)) by decide +kernel)) ?_
                      exact V_iret 130 B dX12_count_130 (mkW [] [0] [] [] [] []) trivial rfl
                    ·
                      by_cases kk19 : s0 = 9
                      ·
                        refine V_eqi _ 9 kk19 ?_
                        refine V_tableIn 6 B 131 dX12_count_6 (by decide +kernel) (by decide +kernel) (off := 125) (by decide +kernel) (by decide) ?_
                        refine V_aload_n 131 B dX12_count_131 0 rfl ?_
                        refine V_get 132 B gf_RX12_9 0 rfl rfl dX12_count_132 ?_
                        refine V_iconst 135 B (v := 5) dX12_count_135 (by decide +kernel) ?_
                        refine V_iald 136 B (v := f0 (5)) 1 rfl (vpin _ _ (by decide +kernel)) dX12_count_136 (by rfl) ?_
                        refine V_nmi (fun j20 e21 => ?_)
                        exact V_iret 137 B dX12_count_137 (mkW [] [0] [] [] [] []) trivial rfl
                      ·
                        by_cases kk22 : s0 = 10
                        ·
                          refine V_eqi _ 10 kk22 ?_
                          refine V_tableIn 6 B 138 dX12_count_6 (by decide +kernel) (by decide +kernel) (off := 132) (by decide +kernel) (by decide) ?_
                          refine V_aload_n 138 B dX12_count_138 0 rfl ?_
                          refine V_get 139 B gf_RX12_9 0 rfl rfl dX12_count_139 ?_
                          refine V_sipush 142 B (v := 3624) dX12_count_142 (by decide +kernel) ?_
                          have x23 : (gN f0 3624) ≤ 4 := gN_le HI (by omega) (show bd 3624 = (0, ((4 : Nat) : Int)) by decide +kernel)
                          refine V_iald 145 B (v := (nI (gN f0 3624))) 1 rfl (vpin _ _ (by decide +kernel)) dX12_count_145 (by show f0 3624 = _; exact gN_eq HI (by omega) (show bd 3624 = (0, ((4 : Nat) : Int)) by decide +kernel)) ?_
                          exact V_iret 146 B dX12_count_146 (mkW [] [0] [] [] [] []) trivial rfl
                        ·
                          refine V_tableOut 6 B 147 dX12_count_6 (sw_out_0_10 kk0 kk2 kk4 kk6 kk8 kk10 kk12 kk15 kk17 kk19 kk22) (by decide) ?_
                          refine V_iconst 147 B (v := (-1)) dX12_count_147 (by decide +kernel) ?_
                          exact V_iret 148 B dX12_count_148 (mkW [] [0] [] [] [] []) trivial rfl)
theorem dX12_addMode_0 : decode cX12_addMode 0 = .ok (.aload_n 0, 1) := by decide +kernel
theorem dX12_addMode_1 : decode cX12_addMode 1 = .ok (.iconst 0, 1) := by decide +kernel
theorem dX12_addMode_2 : decode cX12_addMode 2 = .ok (.putfield 38, 3) := by decide +kernel
theorem dX12_addMode_5 : decode cX12_addMode 5 = .ok (.aload_n 0, 1) := by decide +kernel
theorem dX12_addMode_6 : decode cX12_addMode 6 = .ok (.aload_n 0, 1) := by decide +kernel
theorem dX12_addMode_7 : decode cX12_addMode 7 = .ok (.iload_n 1, 1) := by decide +kernel
theorem dX12_addMode_8 : decode cX12_addMode 8 = .ok (.invokevirtual 91, 3) := by decide +kernel
theorem glV_RX12_91 : GLV RX12 91 yX12_isMode RX12 cX12_isMode 2 (some .boolean) 1 := ⟨⟨(mT8 29 rfl rfl), (mT8 31 rfl rfl), (mTs 34 rfl rfl), (mT1 13 rfl rfl), (mT8 32 rfl rfl)⟩, by decide +kernel⟩
theorem dX12_addMode_11 : decode cX12_addMode 11 = .ok (.ifCond .ne 7, 3) := by decide +kernel
theorem dX12_addMode_14 : decode cX12_addMode 14 = .ok (.iconst 1, 1) := by decide +kernel
theorem dX12_addMode_15 : decode cX12_addMode 15 = .ok (.goto 4, 3) := by decide +kernel
theorem dX12_addMode_19 : decode cX12_addMode 19 = .ok (.iconst 1, 1) := by decide +kernel
theorem dX12_addMode_20 : decode cX12_addMode 20 = .ok (.invokevirtual 69, 3) := by decide +kernel
theorem dX12_addMode_23 : decode cX12_addMode 23 = .ok (.ifCond .eq 5, 3) := by decide +kernel
theorem dX12_addMode_26 : decode cX12_addMode 26 = .ok (.iconst 0, 1) := by decide +kernel
theorem dX12_addMode_27 : decode cX12_addMode 27 = .ok (.ireturn, 1) := by decide +kernel
theorem dX12_addMode_18 : decode cX12_addMode 18 = .ok (.iconst 0, 1) := by decide +kernel
theorem dX12_addMode_28 : decode cX12_addMode 28 = .ok (.aload_n 0, 1) := by decide +kernel
theorem dX12_addMode_29 : decode cX12_addMode 29 = .ok (.getfield 9, 3) := by decide +kernel
theorem dX12_addMode_32 : decode cX12_addMode 32 = .ok (.iconst 0, 1) := by decide +kernel
theorem dX12_addMode_33 : decode cX12_addMode 33 = .ok (.iaload, 1) := by decide +kernel
theorem dX12_addMode_34 : decode cX12_addMode 34 = .ok (.bipush 6, 2) := by decide +kernel
theorem dX12_addMode_36 : decode cX12_addMode 36 = .ok (.if_icmp .ne 6, 3) := by decide +kernel
theorem dX12_addMode_42 : decode cX12_addMode 42 = .ok (.aload_n 0, 1) := by decide +kernel
theorem dX12_addMode_43 : decode cX12_addMode 43 = .ok (.getfield 9, 3) := by decide +kernel
theorem dX12_addMode_46 : decode cX12_addMode 46 = .ok (.bipush 16, 2) := by decide +kernel
theorem dX12_addMode_48 : decode cX12_addMode 48 = .ok (.aload_n 0, 1) := by decide +kernel
theorem dX12_addMode_49 : decode cX12_addMode 49 = .ok (.getfield 9, 3) := by decide +kernel
theorem dX12_addMode_52 : decode cX12_addMode 52 = .ok (.iconst 0, 1) := by decide +kernel
theorem dX12_addMode_53 : decode cX12_addMode 53 = .ok (.iaload, 1) := by decide +kernel
theorem dX12_addMode_54 : decode cX12_addMode 54 = .ok (.iadd, 1) := by decide +kernel
theorem dX12_addMode_55 : decode cX12_addMode 55 = .ok (.iload_n 1, 1) := by decide +kernel
theorem dX12_addMode_56 : decode cX12_addMode 56 = .ok (.iastore, 1) := by decide +kernel
theorem rl6 : ∀ z0, z0 < 6 → bd (16 + z0) = (-1, (z0 : Int) - 1) := by decide +kernel
theorem dX12_addMode_57 : decode cX12_addMode 57 = .ok (.aload_n 0, 1) := by decide +kernel
theorem dX12_addMode_58 : decode cX12_addMode 58 = .ok (.getfield 9, 3) := by decide +kernel
theorem dX12_addMode_61 : decode cX12_addMode 61 = .ok (.iconst 0, 1) := by decide +kernel
theorem dX12_addMode_62 : decode cX12_addMode 62 = .ok (.dup2, 1) := by decide +kernel
theorem dX12_addMode_63 : decode cX12_addMode 63 = .ok (.iaload, 1) := by decide +kernel
theorem dX12_addMode_64 : decode cX12_addMode 64 = .ok (.iconst 1, 1) := by decide +kernel
theorem dX12_addMode_65 : decode cX12_addMode 65 = .ok (.iadd, 1) := by decide +kernel
theorem dX12_addMode_66 : decode cX12_addMode 66 = .ok (.iastore, 1) := by decide +kernel
theorem dX12_addMode_67 : decode cX12_addMode 67 = .ok (.aload_n 0, 1) := by decide +kernel
theorem dX12_addMode_68 : decode cX12_addMode 68 = .ok (.getfield 9, 3) := by decide +kernel
theorem dX12_addMode_71 : decode cX12_addMode 71 = .ok (.iconst 0, 1) := by decide +kernel
theorem dX12_addMode_72 : decode cX12_addMode 72 = .ok (.iaload, 1) := by decide +kernel
theorem dX12_addMode_73 : decode cX12_addMode 73 = .ok (.iconst 1, 1) := by decide +kernel
theorem dX12_addMode_74 : decode cX12_addMode 74 = .ok (.isub, 1) := by decide +kernel
theorem dX12_addMode_75 : decode cX12_addMode 75 = .ok (.ireturn, 1) := by decide +kernel
theorem dX12_addMode_39 : decode cX12_addMode 39 = .ok (.bipush (-2), 2) := by decide +kernel
theorem dX12_addMode_41 : decode cX12_addMode 41 = .ok (.ireturn, 1) := by decide +kernel
set_option maxRecDepth 100000 in
set_option maxHeartbeats 4000000 in
theorem rX12_addMode (l : Launch) (D : va_G) (Y : Nat → ClassId) (h0 : Nat) (h1 : Nat) (h2 : Nat) (h3 : Nat) (h4 : Nat) (h5 : Nat) (h6 : Nat) (p2 : Int32) (k5 : Nat) (k6 : Nat) (p7 : Int32) (p8 : Int32) (p9 : Int32) (k10 : Nat) (p11 : Int32) (q12 : Int64) (k15 : Nat) (k16 : Nat) (f0 : Nat → Int32) (f1 : Nat → Int32) (f3 : Nat → Int32) (f4 : Nat → Int32) (f13 : Nat → Int32) (f14 : Nat → Int32) (ph : Nat → Int32) (HI : INV ph f0) (HL : k5 ≤ 1600) (HP : PLV f13) (s0 : Int32)  (sz : Nat) : Met l yX12_addMode (WSm yX12_addMode cX12_addMode 2 (some .int)) (mkR 2 0 0 46) (PreC D Y [.ref h0, .int s0] [(h0, oC 13 [.ref h1, .ref h2, .int p2, .ref h3, .ref h4, .int (nI k5), .int (nI k6), .int p7, .int p8, .int p9, .int (nI k10), .int p11, .long q12, .ref h5, .ref h6, .int (nI k15), .int (nI k16)]), (h1, aI Y 3640 f0), (h2, aZ Y 2 f1), (h3, aZ Y 80 f3), (h4, aB Y 1600 f4), (h5, aI Y 200 f13), (h6, aI Y 800 f14)] sz) (QI D (fun (r : Int32) (u : WU) => INV ph (u.2.2.2.1 0)) (fun (u : WU) => [(h0, oC 13 [.ref h1, .ref h2, .int (u.2.1 0), .ref h3, .ref h4, .int (nI k5), .int (nI k6), .int p7, .int p8, .int p9, .int (nI k10), .int p11, .long q12, .ref h5, .ref h6, .int (nI k15), .int (nI k16)]), (h1, aI Y 3640 (u.2.2.2.1 0)), (h2, aZ Y 2 f1), (h3, aZ Y 80 f3), (h4, aB Y 1600 f4), (h5, aI Y 200 f13), (h6, aI Y 800 f14)]) (va_A [(h0, oC 13 [.ref h1, .ref h2, .int p2, .ref h3, .ref h4, .int (nI k5), .int (nI k6), .int p7, .int p8, .int p9, .int (nI k10), .int p11, .long q12, .ref h5, .ref h6, .int (nI k15), .int (nI k16)]), (h1, aI Y 3640 f0), (h2, aZ Y 2 f1), (h3, aZ Y 80 f3), (h4, aB Y 1600 f4), (h5, aI Y 200 f13), (h6, aI Y 800 f14)] sz)) 0 0 (va_A [(h0, oC 13 [.ref h1, .ref h2, .int p2, .ref h3, .ref h4, .int (nI k5), .int (nI k6), .int p7, .int p8, .int p9, .int (nI k10), .int p11, .long q12, .ref h5, .ref h6, .int (nI k15), .int (nI k16)]), (h1, aI Y 3640 f0), (h2, aZ Y 2 f1), (h3, aZ Y 80 f3), (h4, aB Y 1600 f4), (h5, aI Y 200 f13), (h6, aI Y 800 f14)] sz) :=
  met_of  (by decide +kernel) (Nat.le_of_ble_eq_true rfl) (fun p e s m args below meth c B hin hsz => by
    have B : VB p s m args meth c D Y (va_A [(h0, oC 13 [.ref h1, .ref h2, .int p2, .ref h3, .ref h4, .int (nI k5), .int (nI k6), .int p7, .int p8, .int p9, .int (nI k10), .int p11, .long q12, .ref h5, .ref h6, .int (nI k15), .int (nI k16)]), (h1, aI Y 3640 f0), (h2, aZ Y 2 f1), (h3, aZ Y 80 f3), (h4, aB Y 1600 f4), (h5, aI Y 200 f13), (h6, aI Y 800 f14)] sz) cX12_addMode 2 RX12 (some .int) := B
    refine V_aload_n 0 B dX12_addMode_0 0 rfl ?_
    refine V_iconst 1 B (v := 0) dX12_addMode_1 (by decide +kernel) ?_
    refine V_put 2 B gp_RX12_38 0 rfl (Nat.le_of_ble_eq_true rfl) rfl rfl dX12_addMode_2 [(h0, oC 13 [.ref h1, .ref h2, .int 0, .ref h3, .ref h4, .int (nI k5), .int (nI k6), .int p7, .int p8, .int p9, .int (nI k10), .int p11, .long q12, .ref h5, .ref h6, .int (nI k15), .int (nI k16)]), (h1, aI Y 3640 f0), (h2, aZ Y 2 f1), (h3, aZ Y 80 f3), (h4, aB Y 1600 f4), (h5, aI Y 200 f13), (h6, aI Y 800 f14)] rfl ?_
    refine V_aload_n 5 B dX12_addMode_5 0 rfl ?_
    refine V_aload_n 6 B dX12_addMode_6 0 rfl ?_
    refine V_iload_n 7 B dX12_addMode_7 1 rfl ?_
    refine V_cvi 8 B (st := [.ref h0]) (As := [.int s0]) (fun sz => rX12_isMode l D Y h0 h1 h2 h3 h4 h5 h6 0 k5 k6 p7 p8 p9 k10 p11 q12 k15 k16 f0 f1 f3 f4 f13 f14 ph HI (by omega) HP s0 sz) glV_RX12_91 ⟨rfl, rfl⟩ ⟨(Nat.le_of_ble_eq_true rfl), (Nat.le_of_ble_eq_true rfl)⟩ ⟨(Nat.le_of_ble_eq_true rfl), (Nat.le_of_ble_eq_true rfl)⟩ [0, 0, 0, 0, 0, 0, 0] rfl 13 0 rfl rfl rfl rfl (Nat.le_of_ble_eq_true rfl) rfl (fun _ _ _ => rfl) dX12_addMode_8 (fun j0 u1 w2 => ?_)
    refine V_ws [(h0, oC 13 [.ref h1, .ref h2, .int 0, .ref h3, .ref h4, .int (nI k5), .int (nI k6), .int p7, .int p8, .int p9, .int (nI k10), .int p11, .long q12, .ref h5, .ref h6, .int (nI k15), .int (nI k16)]), (h1, aI Y 3640 f0), (h2, aZ Y 2 f1), (h3, aZ Y 80 f3), (h4, aB Y 1600 f4), (h5, aI Y 200 f13), (h6, aI Y 800 f14)] rfl ?_
    have x3 := w2
    clear w2
    have x7 : (gN f0 0) ≤ 6 := gN_le HI (by omega) (show bd 0 = (0, ((6 : Nat) : Int)) by decide +kernel)
    rcases x3 with rfl | ⟨rfl, n4, rfl, x6⟩
    ·
      refine V_if_ne_f 11 B 18 dX12_addMode_11 (by decide) (by decide +kernel) ?_
      refine V_iconst 14 B (v := 1) dX12_addMode_14 (by decide +kernel) ?_
      refine V_goto 15 B 19 dX12_addMode_15 (by decide) ?_
      refine V_iconst 19 B (v := 1) dX12_addMode_19 (by decide +kernel) ?_
      refine V_cvi 20 B (st := []) (As := [.int 1, .int 1]) (fun sz => rX12_throwsIf_1 l D Y h0 h1 h2 h3 h4 h5 h6 0 k5 k6 p7 p8 p9 k10 p11 q12 k15 k16 f0 f1 f3 f4 f13 f14 ph HI (by omega) HP 1 sz) glV_RX12_69 ⟨rfl, rfl⟩ ⟨(Nat.le_of_ble_eq_true rfl), (Nat.le_of_ble_eq_true rfl)⟩ ⟨(Nat.le_of_ble_eq_true rfl), (Nat.le_of_ble_eq_true rfl)⟩ [0, 0, 0, 0, 0, 0, 0] rfl 13 0 rfl rfl rfl rfl (Nat.le_of_ble_eq_true rfl) rfl (fun _ _ _ => rfl) dX12_addMode_20 (fun j8 u9 w10 => ?_)
      refine V_ws [(h0, oC 13 [.ref h1, .ref h2, .int (u9.2.1 0), .ref h3, .ref h4, .int (nI k5), .int (nI k6), .int p7, .int p8, .int p9, .int (nI k10), .int p11, .long q12, .ref h5, .ref h6, .int (nI k15), .int (nI k16)]), (h1, aI Y 3640 f0), (h2, aZ Y 2 f1), (h3, aZ Y 80 f3), (h4, aB Y 1600 f4), (h5, aI Y 200 f13), (h6, aI Y 800 f14)] rfl ?_
      have x11 := w10
      clear w10
      obtain rfl := x11
      refine V_if_eq_f 23 B 28 dX12_addMode_23 (by decide) (by decide +kernel) ?_
      refine V_iconst 26 B (v := 0) dX12_addMode_26 (by decide +kernel) ?_
      exact V_iret 27 B dX12_addMode_27 (mkW [] [(u9.2.1 0)] [] [f0] [] []) HI rfl
    ·
      have e12 := nI_toInt (show n4 < 2 ^ 31 by omega)
      have x13 : (gN f0 0) ≤ 6 := gN_le HI (by omega) (show bd 0 = (0, ((6 : Nat) : Int)) by decide +kernel)
      refine V_if_ne_t 11 B 18 dX12_addMode_11 (by decide) (by decide +kernel) ?_
      refine V_iconst 18 B (v := 0) dX12_addMode_18 (by decide +kernel) ?_
      refine V_iconst 19 B (v := 1) dX12_addMode_19 (by decide +kernel) ?_
      refine V_cvi 20 B (st := []) (As := [.int 0, .int 1]) (fun sz => rX12_throwsIf_0 l D Y h0 h1 h2 h3 h4 h5 h6 0 k5 k6 p7 p8 p9 k10 p11 q12 k15 k16 f0 f1 f3 f4 f13 f14 ph HI (by omega) HP 1 sz) glV_RX12_69 ⟨rfl, rfl⟩ ⟨(Nat.le_of_ble_eq_true rfl), (Nat.le_of_ble_eq_true rfl)⟩ ⟨(Nat.le_of_ble_eq_true rfl), (Nat.le_of_ble_eq_true rfl)⟩ [0, 0, 0, 0, 0, 0, 0] rfl 13 0 rfl rfl rfl rfl (Nat.le_of_ble_eq_true rfl) rfl (fun _ _ _ => rfl) dX12_addMode_20 (fun j14 u15 w16 => ?_)
      refine V_ws [(h0, oC 13 [.ref h1, .ref h2, .int (u15.2.1 0), .ref h3, .ref h4, .int (nI k5), .int (nI k6), .int p7, .int p8, .int p9, .int (nI k10), .int p11, .long q12, .ref h5, .ref h6, .int (nI k15), .int (nI k16)]), (h1, aI Y 3640 f0), (h2, aZ Y 2 f1), (h3, aZ Y 80 f3), (h4, aB Y 1600 f4), (h5, aI Y 200 f13), (h6, aI Y 800 f14)] rfl ?_
      have x17 := w16
      clear w16
      obtain rfl := x17
      refine V_if_eq_t 23 B 28 dX12_addMode_23 (by decide) (by decide +kernel) ?_
      refine V_aload_n 28 B dX12_addMode_28 0 rfl ?_
      refine V_get 29 B gf_RX12_9 0 rfl rfl dX12_addMode_29 ?_
      refine V_iconst 32 B (v := 0) dX12_addMode_32 (by decide +kernel) ?_
      have x18 : (gN f0 0) ≤ 6 := gN_le HI (by omega) (show bd 0 = (0, ((6 : Nat) : Int)) by decide +kernel)
      refine V_iald 33 B (v := (nI (gN f0 0))) 1 rfl (vpin _ _ (by decide +kernel)) dX12_addMode_33 (by show f0 0 = _; exact gN_eq HI (by omega) (show bd 0 = (0, ((6 : Nat) : Int)) by decide +kernel)) ?_
      refine V_bipush 34 B (v := 6) dX12_addMode_34 (by decide +kernel) ?_
      refine V_icmp_ne 36 B 42 dX12_addMode_36 (by decide) (fun kk19 => ?_) (fun kk19 => ?_)
      ·
        have x20 := n_ne (a := (gN f0 0)) (b := 6) kk19
        refine V_aload_n 42 B dX12_addMode_42 0 rfl ?_
        refine V_get 43 B gf_RX12_9 0 rfl rfl dX12_addMode_43 ?_
        refine V_bipush 46 B (v := 16) dX12_addMode_46 (by decide +kernel) ?_
        refine V_aload_n 48 B dX12_addMode_48 0 rfl ?_
        refine V_get 49 B gf_RX12_9 0 rfl rfl dX12_addMode_49 ?_
        refine V_iconst 52 B (v := 0) dX12_addMode_52 (by decide +kernel) ?_
        have x21 : (gN f0 0) ≤ 6 := gN_le HI (by omega) (show bd 0 = (0, ((6 : Nat) : Int)) by decide +kernel)
        refine V_iald 53 B (v := (nI (gN f0 0))) 1 rfl (vpin _ _ (by decide +kernel)) dX12_addMode_53 (by show f0 0 = _; exact gN_eq HI (by omega) (show bd 0 = (0, ((6 : Nat) : Int)) by decide +kernel)) ?_
        refine V_iadd 54 B (v := (nI (16 + (gN f0 0)))) dX12_addMode_54 (nI_addE (a := 16) (b := (gN f0 0)) (by omega)) ?_
        refine V_iload_n 55 B dX12_addMode_55 1 rfl ?_
        have hv22 : INV ph (upd f0 (16 + (gN f0 0)) (nI n4)) := INV_upd HI (rl6 (gN f0 0) (by omega)) (by rw [nI_toInt (by omega)]; omega) (by rw [nI_toInt (by omega)]; omega)
        refine V_iast 56 B 1 rfl (vp_in_nI (n := 16 + (gN f0 0)) (by omega) (by decide)) dX12_addMode_56 [(h0, oC 13 [.ref h1, .ref h2, .int (u15.2.1 0), .ref h3, .ref h4, .int (nI k5), .int (nI k6), .int p7, .int p8, .int p9, .int (nI k10), .int p11, .long q12, .ref h5, .ref h6, .int (nI k15), .int (nI k16)]), (h1, aI Y 3640 (upd f0 (16 + (gN f0 0)) (nI n4))), (h2, aZ Y 2 f1), (h3, aZ Y 80 f3), (h4, aB Y 1600 f4), (h5, aI Y 200 f13), (h6, aI Y 800 f14)] (by rw [nI_clamp (show 16 + (gN f0 0) < 2 ^ 31 by omega)]; rfl) ?_
        refine V_aload_n 57 B dX12_addMode_57 0 rfl ?_
        refine V_get 58 B gf_RX12_9 0 rfl rfl dX12_addMode_58 ?_
        refine V_iconst 61 B (v := 0) dX12_addMode_61 (by decide +kernel) ?_
        refine V_dup2_11 62 B dX12_addMode_62 rfl rfl ?_
        have x23 : (gN f0 0) ≤ 6 := gN_le HI (by omega) (show bd 0 = (0, ((6 : Nat) : Int)) by decide +kernel)
        refine V_iald 63 B (v := (nI (gN f0 0))) 1 rfl (vpin _ _ (by decide +kernel)) dX12_addMode_63 (by show (upd f0 (16 + (gN f0 0)) (nI n4)) 0 = _; rw [upd_ne (by omega)]; exact gN_eq HI (by omega) (show bd 0 = (0, ((6 : Nat) : Int)) by decide +kernel)) ?_
        refine V_iconst 64 B (v := 1) dX12_addMode_64 (by decide +kernel) ?_
        refine V_iadd 65 B (v := (nI (1 + (gN f0 0)))) dX12_addMode_65 (nI_addE (a := (gN f0 0)) (b := 1) (by omega)) ?_
        have hv24 : INV ph (upd (upd f0 (16 + (gN f0 0)) (nI n4)) 0 (nI (1 + (gN f0 0)))) := INV_nat (v := 1 + (gN f0 0)) hv22 (show bd 0 = (0, ((6 : Nat) : Int)) by decide +kernel) (by omega) (by decide)
        refine V_iast 66 B 1 rfl (vpin _ _ (by decide +kernel)) dX12_addMode_66 [(h0, oC 13 [.ref h1, .ref h2, .int (u15.2.1 0), .ref h3, .ref h4, .int (nI k5), .int (nI k6), .int p7, .int p8, .int p9, .int (nI k10), .int p11, .long q12, .ref h5, .ref h6, .int (nI k15), .int (nI k16)]), (h1, aI Y 3640 (upd (upd f0 (16 + (gN f0 0)) (nI n4)) 0 (nI (1 + (gN f0 0))))), (h2, aZ Y 2 f1), (h3, aZ Y 80 f3), (h4, aB Y 1600 f4), (h5, aI Y 200 f13), (h6, aI Y 800 f14)] rfl ?_
        refine V_aload_n 67 B dX12_addMode_67 0 rfl ?_
        refine V_get 68 B gf_RX12_9 0 rfl rfl dX12_addMode_68 ?_
        refine V_iconst 71 B (v := 0) dX12_addMode_71 (by decide +kernel) ?_
        refine V_iald 72 B (v := (nI (1 + (gN f0 0)))) 1 rfl (vpin _ _ (by decide +kernel)) dX12_addMode_72 (by show (upd (upd f0 (16 + (gN f0 0)) (nI n4)) 0 (nI (1 + (gN f0 0)))) 0 = _; exact upd_at) ?_
        refine V_iconst 73 B (v := 1) dX12_addMode_73 (by decide +kernel) ?_
        refine V_isub 74 B (v := (nI (gN f0 0))) dX12_addMode_74 (nI_subE (a := 1 + (gN f0 0)) (b := 1) (by omega)) ?_
        exact V_iret 75 B dX12_addMode_75 (mkW [] [(u15.2.1 0)] [] [(upd (upd f0 (16 + (gN f0 0)) (nI n4)) 0 (nI (1 + (gN f0 0))))] [] []) hv24 rfl
      ·
        have x25 := n_eq (a := (gN f0 0)) (b := 6) kk19 (by omega) (by omega)
        refine V_bipush 39 B (v := (-2)) dX12_addMode_39 (by decide +kernel) ?_
        exact V_iret 41 B dX12_addMode_41 (mkW [] [(u15.2.1 0)] [] [f0] [] []) HI rfl)
theorem dX12_parentOf_0 : decode cX12_parentOf 0 = .ok (.aload_n 0, 1) := by decide +kernel
theorem dX12_parentOf_1 : decode cX12_parentOf 1 = .ok (.iconst 0, 1) := by decide +kernel
theorem dX12_parentOf_2 : decode cX12_parentOf 2 = .ok (.putfield 38, 3) := by decide +kernel
theorem dX12_parentOf_5 : decode cX12_parentOf 5 = .ok (.aload_n 0, 1) := by decide +kernel
theorem dX12_parentOf_6 : decode cX12_parentOf 6 = .ok (.aload_n 0, 1) := by decide +kernel
theorem dX12_parentOf_7 : decode cX12_parentOf 7 = .ok (.iload_n 1, 1) := by decide +kernel
theorem dX12_parentOf_8 : decode cX12_parentOf 8 = .ok (.invokevirtual 91, 3) := by decide +kernel
theorem dX12_parentOf_11 : decode cX12_parentOf 11 = .ok (.ifCond .ne 7, 3) := by decide +kernel
theorem dX12_parentOf_14 : decode cX12_parentOf 14 = .ok (.iconst 1, 1) := by decide +kernel
theorem dX12_parentOf_15 : decode cX12_parentOf 15 = .ok (.goto 4, 3) := by decide +kernel
theorem dX12_parentOf_19 : decode cX12_parentOf 19 = .ok (.iconst 1, 1) := by decide +kernel
theorem dX12_parentOf_20 : decode cX12_parentOf 20 = .ok (.invokevirtual 69, 3) := by decide +kernel
theorem dX12_parentOf_23 : decode cX12_parentOf 23 = .ok (.ifCond .eq 7, 3) := by decide +kernel
theorem dX12_parentOf_26 : decode cX12_parentOf 26 = .ok (.iconst 0, 1) := by decide +kernel
theorem dX12_parentOf_27 : decode cX12_parentOf 27 = .ok (.goto 12, 3) := by decide +kernel
theorem dX12_parentOf_39 : decode cX12_parentOf 39 = .ok (.ireturn, 1) := by decide +kernel
theorem dX12_parentOf_18 : decode cX12_parentOf 18 = .ok (.iconst 0, 1) := by decide +kernel
theorem dX12_parentOf_30 : decode cX12_parentOf 30 = .ok (.aload_n 0, 1) := by decide +kernel
theorem dX12_parentOf_31 : decode cX12_parentOf 31 = .ok (.getfield 9, 3) := by decide +kernel
theorem dX12_parentOf_34 : decode cX12_parentOf 34 = .ok (.bipush 16, 2) := by decide +kernel
theorem dX12_parentOf_36 : decode cX12_parentOf 36 = .ok (.iload_n 1, 1) := by decide +kernel
theorem dX12_parentOf_37 : decode cX12_parentOf 37 = .ok (.iadd, 1) := by decide +kernel
theorem dX12_parentOf_38 : decode cX12_parentOf 38 = .ok (.iaload, 1) := by decide +kernel
set_option maxRecDepth 100000 in
set_option maxHeartbeats 4000000 in
theorem rX12_parentOf (l : Launch) (D : va_G) (Y : Nat → ClassId) (h0 : Nat) (h1 : Nat) (h2 : Nat) (h3 : Nat) (h4 : Nat) (h5 : Nat) (h6 : Nat) (p2 : Int32) (k5 : Nat) (k6 : Nat) (p7 : Int32) (p8 : Int32) (p9 : Int32) (k10 : Nat) (p11 : Int32) (q12 : Int64) (k15 : Nat) (k16 : Nat) (f0 : Nat → Int32) (f1 : Nat → Int32) (f3 : Nat → Int32) (f4 : Nat → Int32) (f13 : Nat → Int32) (f14 : Nat → Int32) (ph : Nat → Int32) (HI : INV ph f0) (HL : k5 ≤ 1600) (HP : PLV f13) (s0 : Int32)  (sz : Nat) : Met l yX12_parentOf (WSm yX12_parentOf cX12_parentOf 2 (some .int)) (mkR 2 0 0 46) (PreC D Y [.ref h0, .int s0] [(h0, oC 13 [.ref h1, .ref h2, .int p2, .ref h3, .ref h4, .int (nI k5), .int (nI k6), .int p7, .int p8, .int p9, .int (nI k10), .int p11, .long q12, .ref h5, .ref h6, .int (nI k15), .int (nI k16)]), (h1, aI Y 3640 f0), (h2, aZ Y 2 f1), (h3, aZ Y 80 f3), (h4, aB Y 1600 f4), (h5, aI Y 200 f13), (h6, aI Y 800 f14)] sz) (QI D (fun (r : Int32) (u : WU) => True) (fun (u : WU) => [(h0, oC 13 [.ref h1, .ref h2, .int (u.2.1 0), .ref h3, .ref h4, .int (nI k5), .int (nI k6), .int p7, .int p8, .int p9, .int (nI k10), .int p11, .long q12, .ref h5, .ref h6, .int (nI k15), .int (nI k16)]), (h1, aI Y 3640 f0), (h2, aZ Y 2 f1), (h3, aZ Y 80 f3), (h4, aB Y 1600 f4), (h5, aI Y 200 f13), (h6, aI Y 800 f14)]) (va_A [(h0, oC 13 [.ref h1, .ref h2, .int p2, .ref h3, .ref h4, .int (nI k5), .int (nI k6), .int p7, .int p8, .int p9, .int (nI k10), .int p11, .long q12, .ref h5, .ref h6, .int (nI k15), .int (nI k16)]), (h1, aI Y 3640 f0), (h2, aZ Y 2 f1), (h3, aZ Y 80 f3), (h4, aB Y 1600 f4), (h5, aI Y 200 f13), (h6, aI Y 800 f14)] sz)) 0 0 (va_A [(h0, oC 13 [.ref h1, .ref h2, .int p2, .ref h3, .ref h4, .int (nI k5), .int (nI k6), .int p7, .int p8, .int p9, .int (nI k10), .int p11, .long q12, .ref h5, .ref h6, .int (nI k15), .int (nI k16)]), (h1, aI Y 3640 f0), (h2, aZ Y 2 f1), (h3, aZ Y 80 f3), (h4, aB Y 1600 f4), (h5, aI Y 200 f13), (h6, aI Y 800 f14)] sz) :=
  met_of  (by decide +kernel) (Nat.le_of_ble_eq_true rfl) (fun p e s m args below meth c B hin hsz => by
    have B : VB p s m args meth c D Y (va_A [(h0, oC 13 [.ref h1, .ref h2, .int p2, .ref h3, .ref h4, .int (nI k5), .int (nI k6), .int p7, .int p8, .int p9, .int (nI k10), .int p11, .long q12, .ref h5, .ref h6, .int (nI k15), .int (nI k16)]), (h1, aI Y 3640 f0), (h2, aZ Y 2 f1), (h3, aZ Y 80 f3), (h4, aB Y 1600 f4), (h5, aI Y 200 f13), (h6, aI Y 800 f14)] sz) cX12_parentOf 2 RX12 (some .int) := B
    refine V_aload_n 0 B dX12_parentOf_0 0 rfl ?_
    refine V_iconst 1 B (v := 0) dX12_parentOf_1 (by decide +kernel) ?_
    refine V_put 2 B gp_RX12_38 0 rfl (Nat.le_of_ble_eq_true rfl) rfl rfl dX12_parentOf_2 [(h0, oC 13 [.ref h1, .ref h2, .int 0, .ref h3, .ref h4, .int (nI k5), .int (nI k6), .int p7, .int p8, .int p9, .int (nI k10), .int p11, .long q12, .ref h5, .ref h6, .int (nI k15), .int (nI k16)]), (h1, aI Y 3640 f0), (h2, aZ Y 2 f1), (h3, aZ Y 80 f3), (h4, aB Y 1600 f4), (h5, aI Y 200 f13), (h6, aI Y 800 f14)] rfl ?_
    refine V_aload_n 5 B dX12_parentOf_5 0 rfl ?_
    refine V_aload_n 6 B dX12_parentOf_6 0 rfl ?_
    refine V_iload_n 7 B dX12_parentOf_7 1 rfl ?_
    refine V_cvi 8 B (st := [.ref h0]) (As := [.int s0]) (fun sz => rX12_isMode l D Y h0 h1 h2 h3 h4 h5 h6 0 k5 k6 p7 p8 p9 k10 p11 q12 k15 k16 f0 f1 f3 f4 f13 f14 ph HI (by omega) HP s0 sz) glV_RX12_91 ⟨rfl, rfl⟩ ⟨(Nat.le_of_ble_eq_true rfl), (Nat.le_of_ble_eq_true rfl)⟩ ⟨(Nat.le_of_ble_eq_true rfl), (Nat.le_of_ble_eq_true rfl)⟩ [0, 0, 0, 0, 0, 0, 0] rfl 13 0 rfl rfl rfl rfl (Nat.le_of_ble_eq_true rfl) rfl (fun _ _ _ => rfl) dX12_parentOf_8 (fun j0 u1 w2 => ?_)
    refine V_ws [(h0, oC 13 [.ref h1, .ref h2, .int 0, .ref h3, .ref h4, .int (nI k5), .int (nI k6), .int p7, .int p8, .int p9, .int (nI k10), .int p11, .long q12, .ref h5, .ref h6, .int (nI k15), .int (nI k16)]), (h1, aI Y 3640 f0), (h2, aZ Y 2 f1), (h3, aZ Y 80 f3), (h4, aB Y 1600 f4), (h5, aI Y 200 f13), (h6, aI Y 800 f14)] rfl ?_
    have x3 := w2
    clear w2
    have x7 : (gN f0 0) ≤ 6 := gN_le HI (by omega) (show bd 0 = (0, ((6 : Nat) : Int)) by decide +kernel)
    rcases x3 with rfl | ⟨rfl, n4, rfl, x6⟩
    ·
      refine V_if_ne_f 11 B 18 dX12_parentOf_11 (by decide) (by decide +kernel) ?_
      refine V_iconst 14 B (v := 1) dX12_parentOf_14 (by decide +kernel) ?_
      refine V_goto 15 B 19 dX12_parentOf_15 (by decide) ?_
      refine V_iconst 19 B (v := 1) dX12_parentOf_19 (by decide +kernel) ?_
      refine V_cvi 20 B (st := []) (As := [.int 1, .int 1]) (fun sz => rX12_throwsIf_1 l D Y h0 h1 h2 h3 h4 h5 h6 0 k5 k6 p7 p8 p9 k10 p11 q12 k15 k16 f0 f1 f3 f4 f13 f14 ph HI (by omega) HP 1 sz) glV_RX12_69 ⟨rfl, rfl⟩ ⟨(Nat.le_of_ble_eq_true rfl), (Nat.le_of_ble_eq_true rfl)⟩ ⟨(Nat.le_of_ble_eq_true rfl), (Nat.le_of_ble_eq_true rfl)⟩ [0, 0, 0, 0, 0, 0, 0] rfl 13 0 rfl rfl rfl rfl (Nat.le_of_ble_eq_true rfl) rfl (fun _ _ _ => rfl) dX12_parentOf_20 (fun j8 u9 w10 => ?_)
      refine V_ws [(h0, oC 13 [.ref h1, .ref h2, .int (u9.2.1 0), .ref h3, .ref h4, .int (nI k5), .int (nI k6), .int p7, .int p8, .int p9, .int (nI k10), .int p11, .long q12, .ref h5, .ref h6, .int (nI k15), .int (nI k16)]), (h1, aI Y 3640 f0), (h2, aZ Y 2 f1), (h3, aZ Y 80 f3), (h4, aB Y 1600 f4), (h5, aI Y 200 f13), (h6, aI Y 800 f14)] rfl ?_
      have x11 := w10
      clear w10
      obtain rfl := x11
      refine V_if_eq_f 23 B 30 dX12_parentOf_23 (by decide) (by decide +kernel) ?_
      refine V_iconst 26 B (v := 0) dX12_parentOf_26 (by decide +kernel) ?_
      refine V_goto 27 B 39 dX12_parentOf_27 (by decide) ?_
      exact V_iret 39 B dX12_parentOf_39 (mkW [] [(u9.2.1 0)] [] [] [] []) trivial rfl
    ·
      have e12 := nI_toInt (show n4 < 2 ^ 31 by omega)
      have x13 : (gN f0 0) ≤ 6 := gN_le HI (by omega) (show bd 0 = (0, ((6 : Nat) : Int)) by decide +kernel)
      refine V_if_ne_t 11 B 18 dX12_parentOf_11 (by decide) (by decide +kernel) ?_
      refine V_iconst 18 B (v := 0) dX12_parentOf_18 (by decide +kernel) ?_
      refine V_iconst 19 B (v := 1) dX12_parentOf_19 (by decide +kernel) ?_
      refine V_cvi 20 B (st := []) (As := [.int 0, .int 1]) (fun sz => rX12_throwsIf_0 l D Y h0 h1 h2 h3 h4 h5 h6 0 k5 k6 p7 p8 p9 k10 p11 q12 k15 k16 f0 f1 f3 f4 f13 f14 ph HI (by omega) HP 1 sz) glV_RX12_69 ⟨rfl, rfl⟩ ⟨(Nat.le_of_ble_eq_true rfl), (Nat.le_of_ble_eq_true rfl)⟩ ⟨(Nat.le_of_ble_eq_true rfl), (Nat.le_of_ble_eq_true rfl)⟩ [0, 0, 0, 0, 0, 0, 0] rfl 13 0 rfl rfl rfl rfl (Nat.le_of_ble_eq_true rfl) rfl (fun _ _ _ => rfl) dX12_parentOf_20 (fun j14 u15 w16 => ?_)
      refine V_ws [(h0, oC 13 [.ref h1, .ref h2, .int (u15.2.1 0), .ref h3, .ref h4, .int (nI k5), .int (nI k6), .int p7, .int p8, .int p9, .int (nI k10), .int p11, .long q12, .ref h5, .ref h6, .int (nI k15), .int (nI k16)]), (h1, aI Y 3640 f0), (h2, aZ Y 2 f1), (h3, aZ Y 80 f3), (h4, aB Y 1600 f4), (h5, aI Y 200 f13), (h6, aI Y 800 f14)] rfl ?_
      have x17 := w16
      clear w16
      obtain rfl := x17
      refine V_if_eq_t 23 B 30 dX12_parentOf_23 (by decide) (by decide +kernel) ?_
      refine V_aload_n 30 B dX12_parentOf_30 0 rfl ?_
      refine V_get 31 B gf_RX12_9 0 rfl rfl dX12_parentOf_31 ?_
      refine V_bipush 34 B (v := 16) dX12_parentOf_34 (by decide +kernel) ?_
      refine V_iload_n 36 B dX12_parentOf_36 1 rfl ?_
      refine V_iadd 37 B (v := (nI (16 + n4))) dX12_parentOf_37 (nI_addE (a := 16) (b := n4) (by omega)) ?_
      refine V_iald 38 B (v := f0 (16 + n4)) 1 rfl (vp_in_nI (n := 16 + n4) (by omega) (by decide)) dX12_parentOf_38 (by rw [nI_clamp (show 16 + n4 < 2 ^ 31 by omega)]) ?_
      refine V_nmi (fun j18 e19 => ?_)
      have x20 : (-1) ≤ j18.toInt ∧ j18.toInt ≤ (((n4 : Nat) : Int) - 1) := by rw [e19]; exact ⟨INV_lo HI (by omega) (rl6 n4 (by omega)), INV_hi HI (by omega) (rl6 n4 (by omega))⟩
      exact V_iret 39 B dX12_parentOf_39 (mkW [] [(u15.2.1 0)] [] [] [] []) trivial rfl)
theorem dX12_addCommand_0 : decode cX12_addCommand 0 = .ok (.aload_n 0, 1) := by decide +kernel
theorem dX12_addCommand_1 : decode cX12_addCommand 1 = .ok (.iconst 0, 1) := by decide +kernel
theorem dX12_addCommand_2 : decode cX12_addCommand 2 = .ok (.putfield 38, 3) := by decide +kernel
theorem dX12_addCommand_5 : decode cX12_addCommand 5 = .ok (.aload_n 0, 1) := by decide +kernel
theorem dX12_addCommand_6 : decode cX12_addCommand 6 = .ok (.iload_n 1, 1) := by decide +kernel
theorem dX12_addCommand_7 : decode cX12_addCommand 7 = .ok (.i2l, 1) := by decide +kernel
theorem dX12_addCommand_8 : decode cX12_addCommand 8 = .ok (.lconst 0, 1) := by decide +kernel
theorem dX12_addCommand_9 : decode cX12_addCommand 9 = .ok (.ldc2_w 94, 3) := by decide +kernel
theorem dX12_addCommand_12 : decode cX12_addCommand 12 = .ok (.invokestatic 41, 3) := by decide +kernel
theorem dX12_addCommand_15 : decode cX12_addCommand 15 = .ok (.ifCond .ne 7, 3) := by decide +kernel
theorem dX12_addCommand_18 : decode cX12_addCommand 18 = .ok (.iconst 1, 1) := by decide +kernel
theorem dX12_addCommand_19 : decode cX12_addCommand 19 = .ok (.goto 4, 3) := by decide +kernel
theorem dX12_addCommand_23 : decode cX12_addCommand 23 = .ok (.iconst 1, 1) := by decide +kernel
theorem dX12_addCommand_24 : decode cX12_addCommand 24 = .ok (.invokevirtual 69, 3) := by decide +kernel
theorem dX12_addCommand_27 : decode cX12_addCommand 27 = .ok (.ifCond .ne 29, 3) := by decide +kernel
theorem dX12_addCommand_56 : decode cX12_addCommand 56 = .ok (.iconst 0, 1) := by decide +kernel
theorem dX12_addCommand_57 : decode cX12_addCommand 57 = .ok (.ireturn, 1) := by decide +kernel
theorem dX12_addCommand_22 : decode cX12_addCommand 22 = .ok (.iconst 0, 1) := by decide +kernel
theorem dX12_addCommand_30 : decode cX12_addCommand 30 = .ok (.aload_n 0, 1) := by decide +kernel
theorem dX12_addCommand_31 : decode cX12_addCommand 31 = .ok (.iload_n 1, 1) := by decide +kernel
theorem dX12_addCommand_32 : decode cX12_addCommand 32 = .ok (.iconst 1, 1) := by decide +kernel
theorem dX12_addCommand_33 : decode cX12_addCommand 33 = .ok (.if_icmp .ne 15, 3) := by decide +kernel
theorem dX12_addCommand_48 : decode cX12_addCommand 48 = .ok (.iconst 0, 1) := by decide +kernel
theorem dX12_addCommand_49 : decode cX12_addCommand 49 = .ok (.iconst 2, 1) := by decide +kernel
theorem dX12_addCommand_50 : decode cX12_addCommand 50 = .ok (.invokevirtual 69, 3) := by decide +kernel
theorem dX12_addCommand_53 : decode cX12_addCommand 53 = .ok (.ifCond .eq 5, 3) := by decide +kernel
theorem dX12_addCommand_58 : decode cX12_addCommand 58 = .ok (.aload_n 0, 1) := by decide +kernel
theorem dX12_addCommand_59 : decode cX12_addCommand 59 = .ok (.getfield 9, 3) := by decide +kernel
theorem dX12_addCommand_62 : decode cX12_addCommand 62 = .ok (.iconst 1, 1) := by decide +kernel
theorem dX12_addCommand_63 : decode cX12_addCommand 63 = .ok (.iaload, 1) := by decide +kernel
theorem dX12_addCommand_64 : decode cX12_addCommand 64 = .ok (.bipush 40, 2) := by decide +kernel
theorem dX12_addCommand_66 : decode cX12_addCommand 66 = .ok (.if_icmp .ne 6, 3) := by decide +kernel
theorem dX12_addCommand_72 : decode cX12_addCommand 72 = .ok (.bipush 34, 2) := by decide +kernel
theorem dX12_addCommand_74 : decode cX12_addCommand 74 = .ok (.iconst 3, 1) := by decide +kernel
theorem dX12_addCommand_75 : decode cX12_addCommand 75 = .ok (.aload_n 0, 1) := by decide +kernel
theorem dX12_addCommand_76 : decode cX12_addCommand 76 = .ok (.getfield 9, 3) := by decide +kernel
theorem dX12_addCommand_79 : decode cX12_addCommand 79 = .ok (.iconst 1, 1) := by decide +kernel
theorem dX12_addCommand_80 : decode cX12_addCommand 80 = .ok (.iaload, 1) := by decide +kernel
theorem dX12_addCommand_81 : decode cX12_addCommand 81 = .ok (.imul, 1) := by decide +kernel
theorem dX12_addCommand_82 : decode cX12_addCommand 82 = .ok (.iadd, 1) := by decide +kernel
theorem dX12_addCommand_83 : decode cX12_addCommand 83 = .ok (.istore_n 3, 1) := by decide +kernel
theorem dX12_addCommand_84 : decode cX12_addCommand 84 = .ok (.aload_n 0, 1) := by decide +kernel
theorem dX12_addCommand_85 : decode cX12_addCommand 85 = .ok (.getfield 9, 3) := by decide +kernel
theorem dX12_addCommand_88 : decode cX12_addCommand 88 = .ok (.iload_n 3, 1) := by decide +kernel
theorem dX12_addCommand_89 : decode cX12_addCommand 89 = .ok (.iconst 0, 1) := by decide +kernel
theorem dX12_addCommand_90 : decode cX12_addCommand 90 = .ok (.iadd, 1) := by decide +kernel
theorem dX12_addCommand_91 : decode cX12_addCommand 91 = .ok (.iload_n 1, 1) := by decide +kernel
theorem dX12_addCommand_92 : decode cX12_addCommand 92 = .ok (.iastore, 1) := by decide +kernel
theorem rl7 : ∀ z0, z0 < 40 → bd (34 + 3 * z0) = FREE := by decide +kernel
theorem dX12_addCommand_93 : decode cX12_addCommand 93 = .ok (.aload_n 0, 1) := by decide +kernel
theorem dX12_addCommand_94 : decode cX12_addCommand 94 = .ok (.getfield 9, 3) := by decide +kernel
theorem dX12_addCommand_97 : decode cX12_addCommand 97 = .ok (.iload_n 3, 1) := by decide +kernel
theorem dX12_addCommand_98 : decode cX12_addCommand 98 = .ok (.iconst 1, 1) := by decide +kernel
theorem dX12_addCommand_99 : decode cX12_addCommand 99 = .ok (.iadd, 1) := by decide +kernel
theorem dX12_addCommand_100 : decode cX12_addCommand 100 = .ok (.iload_n 1, 1) := by decide +kernel
theorem dX12_addCommand_101 : decode cX12_addCommand 101 = .ok (.iconst 1, 1) := by decide +kernel
theorem dX12_addCommand_102 : decode cX12_addCommand 102 = .ok (.if_icmp .ne 7, 3) := by decide +kernel
theorem dX12_addCommand_109 : decode cX12_addCommand 109 = .ok (.iconst (-1), 1) := by decide +kernel
theorem dX12_addCommand_110 : decode cX12_addCommand 110 = .ok (.iastore, 1) := by decide +kernel
theorem rl8 : ∀ z0, z0 < 40 → bd (35 + 3 * z0) = ((-1), 5) := by decide +kernel
theorem dX12_addCommand_111 : decode cX12_addCommand 111 = .ok (.aload_n 0, 1) := by decide +kernel
theorem dX12_addCommand_112 : decode cX12_addCommand 112 = .ok (.getfield 9, 3) := by decide +kernel
theorem dX12_addCommand_115 : decode cX12_addCommand 115 = .ok (.iload_n 3, 1) := by decide +kernel
theorem dX12_addCommand_116 : decode cX12_addCommand 116 = .ok (.iconst 2, 1) := by decide +kernel
theorem dX12_addCommand_117 : decode cX12_addCommand 117 = .ok (.iadd, 1) := by decide +kernel
theorem dX12_addCommand_118 : decode cX12_addCommand 118 = .ok (.iconst 0, 1) := by decide +kernel
theorem dX12_addCommand_119 : decode cX12_addCommand 119 = .ok (.iastore, 1) := by decide +kernel
theorem rl9 : ∀ z0, z0 < 40 → bd (36 + 3 * z0) = FREE := by decide +kernel
theorem dX12_addCommand_120 : decode cX12_addCommand 120 = .ok (.aload_n 0, 1) := by decide +kernel
theorem dX12_addCommand_121 : decode cX12_addCommand 121 = .ok (.getfield 9, 3) := by decide +kernel
theorem dX12_addCommand_124 : decode cX12_addCommand 124 = .ok (.iconst 1, 1) := by decide +kernel
theorem dX12_addCommand_125 : decode cX12_addCommand 125 = .ok (.dup2, 1) := by decide +kernel
theorem dX12_addCommand_126 : decode cX12_addCommand 126 = .ok (.iaload, 1) := by decide +kernel
theorem dX12_addCommand_127 : decode cX12_addCommand 127 = .ok (.iconst 1, 1) := by decide +kernel
theorem dX12_addCommand_128 : decode cX12_addCommand 128 = .ok (.iadd, 1) := by decide +kernel
theorem dX12_addCommand_129 : decode cX12_addCommand 129 = .ok (.iastore, 1) := by decide +kernel
theorem dX12_addCommand_130 : decode cX12_addCommand 130 = .ok (.aload_n 0, 1) := by decide +kernel
theorem dX12_addCommand_131 : decode cX12_addCommand 131 = .ok (.getfield 9, 3) := by decide +kernel
theorem dX12_addCommand_134 : decode cX12_addCommand 134 = .ok (.iconst 1, 1) := by decide +kernel
theorem dX12_addCommand_135 : decode cX12_addCommand 135 = .ok (.iaload, 1) := by decide +kernel
theorem dX12_addCommand_136 : decode cX12_addCommand 136 = .ok (.iconst 1, 1) := by decide +kernel
theorem dX12_addCommand_137 : decode cX12_addCommand 137 = .ok (.isub, 1) := by decide +kernel
theorem dX12_addCommand_138 : decode cX12_addCommand 138 = .ok (.ireturn, 1) := by decide +kernel
theorem dX12_addCommand_105 : decode cX12_addCommand 105 = .ok (.iload_n 2, 1) := by decide +kernel
theorem dX12_addCommand_106 : decode cX12_addCommand 106 = .ok (.goto 4, 3) := by decide +kernel
theorem dX12_addCommand_69 : decode cX12_addCommand 69 = .ok (.bipush (-2), 2) := by decide +kernel
theorem dX12_addCommand_71 : decode cX12_addCommand 71 = .ok (.ireturn, 1) := by decide +kernel
theorem dX12_addCommand_36 : decode cX12_addCommand 36 = .ok (.aload_n 0, 1) := by decide +kernel
theorem dX12_addCommand_37 : decode cX12_addCommand 37 = .ok (.iload_n 2, 1) := by decide +kernel
theorem dX12_addCommand_38 : decode cX12_addCommand 38 = .ok (.invokevirtual 91, 3) := by decide +kernel
theorem dX12_addCommand_41 : decode cX12_addCommand 41 = .ok (.ifCond .ne 7, 3) := by decide +kernel
theorem dX12_addCommand_44 : decode cX12_addCommand 44 = .ok (.iconst 1, 1) := by decide +kernel
theorem dX12_addCommand_45 : decode cX12_addCommand 45 = .ok (.goto 4, 3) := by decide +kernel
set_option maxRecDepth 100000 in
set_option maxHeartbeats 4000000 in
theorem rX12_addCommand (l : Launch) (D : va_G) (Y : Nat → ClassId) (h0 : Nat) (h1 : Nat) (h2 : Nat) (h3 : Nat) (h4 : Nat) (h5 : Nat) (h6 : Nat) (p2 : Int32) (k5 : Nat) (k6 : Nat) (p7 : Int32) (p8 : Int32) (p9 : Int32) (k10 : Nat) (p11 : Int32) (q12 : Int64) (k15 : Nat) (k16 : Nat) (f0 : Nat → Int32) (f1 : Nat → Int32) (f3 : Nat → Int32) (f4 : Nat → Int32) (f13 : Nat → Int32) (f14 : Nat → Int32) (ph : Nat → Int32) (HI : INV ph f0) (HL : k5 ≤ 1600) (HP : PLV f13) (s0 : Int32) (s1 : Int32)  (sz : Nat) : Met l yX12_addCommand (WSm yX12_addCommand cX12_addCommand 4 (some .int)) (mkR 2 0 0 46) (PreC D Y [.ref h0, .int s0, .int s1] [(h0, oC 13 [.ref h1, .ref h2, .int p2, .ref h3, .ref h4, .int (nI k5), .int (nI k6), .int p7, .int p8, .int p9, .int (nI k10), .int p11, .long q12, .ref h5, .ref h6, .int (nI k15), .int (nI k16)]), (h1, aI Y 3640 f0), (h2, aZ Y 2 f1), (h3, aZ Y 80 f3), (h4, aB Y 1600 f4), (h5, aI Y 200 f13), (h6, aI Y 800 f14)] sz) (QI D (fun (r : Int32) (u : WU) => INV ph (u.2.2.2.1 0)) (fun (u : WU) => [(h0, oC 13 [.ref h1, .ref h2, .int (u.2.1 0), .ref h3, .ref h4, .int (nI k5), .int (nI k6), .int p7, .int p8, .int p9, .int (nI k10), .int p11, .long q12, .ref h5, .ref h6, .int (nI k15), .int (nI k16)]), (h1, aI Y 3640 (u.2.2.2.1 0)), (h2, aZ Y 2 f1), (h3, aZ Y 80 f3), (h4, aB Y 1600 f4), (h5, aI Y 200 f13), (h6, aI Y 800 f14)]) (va_A [(h0, oC 13 [.ref h1, .ref h2, .int p2, .ref h3, .ref h4, .int (nI k5), .int (nI k6), .int p7, .int p8, .int p9, .int (nI k10), .int p11, .long q12, .ref h5, .ref h6, .int (nI k15), .int (nI k16)]), (h1, aI Y 3640 f0), (h2, aZ Y 2 f1), (h3, aZ Y 80 f3), (h4, aB Y 1600 f4), (h5, aI Y 200 f13), (h6, aI Y 800 f14)] sz)) 0 0 (va_A [(h0, oC 13 [.ref h1, .ref h2, .int p2, .ref h3, .ref h4, .int (nI k5), .int (nI k6), .int p7, .int p8, .int p9, .int (nI k10), .int p11, .long q12, .ref h5, .ref h6, .int (nI k15), .int (nI k16)]), (h1, aI Y 3640 f0), (h2, aZ Y 2 f1), (h3, aZ Y 80 f3), (h4, aB Y 1600 f4), (h5, aI Y 200 f13), (h6, aI Y 800 f14)] sz) :=
  met_of  (by decide +kernel) (Nat.le_of_ble_eq_true rfl) (fun p e s m args below meth c B hin hsz => by
    have B : VB p s m args meth c D Y (va_A [(h0, oC 13 [.ref h1, .ref h2, .int p2, .ref h3, .ref h4, .int (nI k5), .int (nI k6), .int p7, .int p8, .int p9, .int (nI k10), .int p11, .long q12, .ref h5, .ref h6, .int (nI k15), .int (nI k16)]), (h1, aI Y 3640 f0), (h2, aZ Y 2 f1), (h3, aZ Y 80 f3), (h4, aB Y 1600 f4), (h5, aI Y 200 f13), (h6, aI Y 800 f14)] sz) cX12_addCommand 4 RX12 (some .int) := B
    refine V_aload_n 0 B dX12_addCommand_0 0 rfl ?_
    refine V_iconst 1 B (v := 0) dX12_addCommand_1 (by decide +kernel) ?_
    refine V_put 2 B gp_RX12_38 0 rfl (Nat.le_of_ble_eq_true rfl) rfl rfl dX12_addCommand_2 [(h0, oC 13 [.ref h1, .ref h2, .int 0, .ref h3, .ref h4, .int (nI k5), .int (nI k6), .int p7, .int p8, .int p9, .int (nI k10), .int p11, .long q12, .ref h5, .ref h6, .int (nI k15), .int (nI k16)]), (h1, aI Y 3640 f0), (h2, aZ Y 2 f1), (h3, aZ Y 80 f3), (h4, aB Y 1600 f4), (h5, aI Y 200 f13), (h6, aI Y 800 f14)] rfl ?_
    refine V_aload_n 5 B dX12_addCommand_5 0 rfl ?_
    refine V_iload_n 6 B dX12_addCommand_6 1 rfl ?_
    refine V_i2l 7 B dX12_addCommand_7 rfl ?_
    refine V_nml (fun o0 e1 => ?_)
    have x2 : o0.toInt = s0.toInt := by rw [e1, Int32.toInt_toInt64]
    refine V_lconst 8 B (v := 0) dX12_addCommand_8 (by decide +kernel) ?_
    refine V_ldc2 9 B (v := 2) dX12_addCommand_9 (mT8 41 rfl rfl) ?_
    refine V_csi 12 B (st := [.ref h0]) (As := [.long o0, .long 0, .long 2]) (fun sz => rX12_inRange l D Y o0 0 2 sz) glS_RX12_41 ⟨rfl, rfl⟩ ⟨(Nat.le_of_ble_eq_true rfl), (Nat.le_of_ble_eq_true rfl)⟩ ⟨(Nat.le_of_ble_eq_true rfl), (Nat.le_of_ble_eq_true rfl)⟩ [] rfl rfl (Nat.le_of_ble_eq_true rfl) rfl (fun _ _ _ => rfl) dX12_addCommand_12 (fun j3 u4 w5 => ?_)
    refine V_ws [(h0, oC 13 [.ref h1, .ref h2, .int 0, .ref h3, .ref h4, .int (nI k5), .int (nI k6), .int p7, .int p8, .int p9, .int (nI k10), .int p11, .long q12, .ref h5, .ref h6, .int (nI k15), .int (nI k16)]), (h1, aI Y 3640 f0), (h2, aZ Y 2 f1), (h3, aZ Y 80 f3), (h4, aB Y 1600 f4), (h5, aI Y 200 f13), (h6, aI Y 800 f14)] rfl ?_
    rcases w5 with ⟨rfl, x8⟩ | ⟨rfl, x6, x7⟩
    ·
      rw [show (0 : Int64).toInt = 0 by decide +kernel] at x8
      rw [show (2 : Int64).toInt = 2 by decide +kernel] at x8
      refine V_if_ne_f 15 B 22 dX12_addCommand_15 (by decide) (by decide +kernel) ?_
      refine V_iconst 18 B (v := 1) dX12_addCommand_18 (by decide +kernel) ?_
      refine V_goto 19 B 23 dX12_addCommand_19 (by decide) ?_
      refine V_iconst 23 B (v := 1) dX12_addCommand_23 (by decide +kernel) ?_
      refine V_cvi 24 B (st := []) (As := [.int 1, .int 1]) (fun sz => rX12_throwsIf_1 l D Y h0 h1 h2 h3 h4 h5 h6 0 k5 k6 p7 p8 p9 k10 p11 q12 k15 k16 f0 f1 f3 f4 f13 f14 ph HI (by omega) HP 1 sz) glV_RX12_69 ⟨rfl, rfl⟩ ⟨(Nat.le_of_ble_eq_true rfl), (Nat.le_of_ble_eq_true rfl)⟩ ⟨(Nat.le_of_ble_eq_true rfl), (Nat.le_of_ble_eq_true rfl)⟩ [0, 0, 0, 0, 0, 0, 0] rfl 13 0 rfl rfl rfl rfl (Nat.le_of_ble_eq_true rfl) rfl (fun _ _ _ => rfl) dX12_addCommand_24 (fun j9 u10 w11 => ?_)
      refine V_ws [(h0, oC 13 [.ref h1, .ref h2, .int (u10.2.1 0), .ref h3, .ref h4, .int (nI k5), .int (nI k6), .int p7, .int p8, .int p9, .int (nI k10), .int p11, .long q12, .ref h5, .ref h6, .int (nI k15), .int (nI k16)]), (h1, aI Y 3640 f0), (h2, aZ Y 2 f1), (h3, aZ Y 80 f3), (h4, aB Y 1600 f4), (h5, aI Y 200 f13), (h6, aI Y 800 f14)] rfl ?_
      have x12 := w11
      clear w11
      obtain rfl := x12
      refine V_if_ne_t 27 B 56 dX12_addCommand_27 (by decide) (by decide +kernel) ?_
      refine V_iconst 56 B (v := 0) dX12_addCommand_56 (by decide +kernel) ?_
      exact V_iret 57 B dX12_addCommand_57 (mkW [] [(u10.2.1 0)] [] [f0] [] []) HI rfl
    ·
      rw [show (0 : Int64).toInt = 0 by decide +kernel] at x6
      rw [show (2 : Int64).toInt = 2 by decide +kernel] at x7
      refine V_if_ne_t 15 B 22 dX12_addCommand_15 (by decide) (by decide +kernel) ?_
      refine V_iconst 22 B (v := 0) dX12_addCommand_22 (by decide +kernel) ?_
      refine V_iconst 23 B (v := 1) dX12_addCommand_23 (by decide +kernel) ?_
      refine V_cvi 24 B (st := []) (As := [.int 0, .int 1]) (fun sz => rX12_throwsIf_0 l D Y h0 h1 h2 h3 h4 h5 h6 0 k5 k6 p7 p8 p9 k10 p11 q12 k15 k16 f0 f1 f3 f4 f13 f14 ph HI (by omega) HP 1 sz) glV_RX12_69 ⟨rfl, rfl⟩ ⟨(Nat.le_of_ble_eq_true rfl), (Nat.le_of_ble_eq_true rfl)⟩ ⟨(Nat.le_of_ble_eq_true rfl), (Nat.le_of_ble_eq_true rfl)⟩ [0, 0, 0, 0, 0, 0, 0] rfl 13 0 rfl rfl rfl rfl (Nat.le_of_ble_eq_true rfl) rfl (fun _ _ _ => rfl) dX12_addCommand_24 (fun j13 u14 w15 => ?_)
      refine V_ws [(h0, oC 13 [.ref h1, .ref h2, .int (u14.2.1 0), .ref h3, .ref h4, .int (nI k5), .int (nI k6), .int p7, .int p8, .int p9, .int (nI k10), .int p11, .long q12, .ref h5, .ref h6, .int (nI k15), .int (nI k16)]), (h1, aI Y 3640 f0), (h2, aZ Y 2 f1), (h3, aZ Y 80 f3), (h4, aB Y 1600 f4), (h5, aI Y 200 f13), (h6, aI Y 800 f14)] rfl ?_
      have x16 := w15
      clear w15
      obtain rfl := x16
      refine V_if_ne_f 27 B 56 dX12_addCommand_27 (by decide) (by decide +kernel) ?_
      refine V_aload_n 30 B dX12_addCommand_30 0 rfl ?_
      refine V_iload_n 31 B dX12_addCommand_31 1 rfl ?_
      refine V_iconst 32 B (v := 1) dX12_addCommand_32 (by decide +kernel) ?_
      refine V_icmp_ne 33 B 48 dX12_addCommand_33 (by decide) (fun kk17 => ?_) (fun kk17 => ?_)
      ·
        have x18 := x_ne kk17
        rw [show (1 : Int32).toInt = 1 by decide +kernel] at x18
        refine V_iconst 48 B (v := 0) dX12_addCommand_48 (by decide +kernel) ?_
        refine V_iconst 49 B (v := 2) dX12_addCommand_49 (by decide +kernel) ?_
        refine V_cvi 50 B (st := []) (As := [.int 0, .int 2]) (fun sz => rX12_throwsIf_0 l D Y h0 h1 h2 h3 h4 h5 h6 (u14.2.1 0) k5 k6 p7 p8 p9 k10 p11 q12 k15 k16 f0 f1 f3 f4 f13 f14 ph HI (by omega) HP 2 sz) glV_RX12_69 ⟨rfl, rfl⟩ ⟨(Nat.le_of_ble_eq_true rfl), (Nat.le_of_ble_eq_true rfl)⟩ ⟨(Nat.le_of_ble_eq_true rfl), (Nat.le_of_ble_eq_true rfl)⟩ [0, 0, 0, 0, 0, 0, 0] rfl 13 0 rfl rfl rfl rfl (Nat.le_of_ble_eq_true rfl) rfl (fun _ _ _ => rfl) dX12_addCommand_50 (fun j19 u20 w21 => ?_)
        refine V_ws [(h0, oC 13 [.ref h1, .ref h2, .int (u20.2.1 0), .ref h3, .ref h4, .int (nI k5), .int (nI k6), .int p7, .int p8, .int p9, .int (nI k10), .int p11, .long q12, .ref h5, .ref h6, .int (nI k15), .int (nI k16)]), (h1, aI Y 3640 f0), (h2, aZ Y 2 f1), (h3, aZ Y 80 f3), (h4, aB Y 1600 f4), (h5, aI Y 200 f13), (h6, aI Y 800 f14)] rfl ?_
        have x22 := w21
        clear w21
        obtain rfl := x22
        refine V_if_eq_t 53 B 58 dX12_addCommand_53 (by decide) (by decide +kernel) ?_
        refine V_aload_n 58 B dX12_addCommand_58 0 rfl ?_
        refine V_get 59 B gf_RX12_9 0 rfl rfl dX12_addCommand_59 ?_
        refine V_iconst 62 B (v := 1) dX12_addCommand_62 (by decide +kernel) ?_
        have x23 : (gN f0 1) ≤ 40 := gN_le HI (by omega) (show bd 1 = (0, ((40 : Nat) : Int)) by decide +kernel)
        refine V_iald 63 B (v := (nI (gN f0 1))) 1 rfl (vpin _ _ (by decide +kernel)) dX12_addCommand_63 (by show f0 1 = _; exact gN_eq HI (by omega) (show bd 1 = (0, ((40 : Nat) : Int)) by decide +kernel)) ?_
        refine V_bipush 64 B (v := 40) dX12_addCommand_64 (by decide +kernel) ?_
        refine V_icmp_ne 66 B 72 dX12_addCommand_66 (by decide) (fun kk24 => ?_) (fun kk24 => ?_)
        ·
          have x25 := n_ne (a := (gN f0 1)) (b := 40) kk24
          refine V_bipush 72 B (v := 34) dX12_addCommand_72 (by decide +kernel) ?_
          refine V_iconst 74 B (v := 3) dX12_addCommand_74 (by decide +kernel) ?_
          refine V_aload_n 75 B dX12_addCommand_75 0 rfl ?_
          refine V_get 76 B gf_RX12_9 0 rfl rfl dX12_addCommand_76 ?_
          refine V_iconst 79 B (v := 1) dX12_addCommand_79 (by decide +kernel) ?_
          have x26 : (gN f0 1) ≤ 40 := gN_le HI (by omega) (show bd 1 = (0, ((40 : Nat) : Int)) by decide +kernel)
          refine V_iald 80 B (v := (nI (gN f0 1))) 1 rfl (vpin _ _ (by decide +kernel)) dX12_addCommand_80 (by show f0 1 = _; exact gN_eq HI (by omega) (show bd 1 = (0, ((40 : Nat) : Int)) by decide +kernel)) ?_
          refine V_imul 81 B (v := (nI (3 * (gN f0 1)))) dX12_addCommand_81 (nI_mulE (a := 3) (b := (gN f0 1)) (by omega)) ?_
          refine V_iadd 82 B (v := (nI (34 + 3 * (gN f0 1)))) dX12_addCommand_82 (nI_addE (a := 34) (b := 3 * (gN f0 1)) (by omega)) ?_
          refine V_istore_n 83 B (lv2 := [(3, .int (nI (34 + 3 * (gN f0 1)))), (0, .ref h0), (1, .int s0), (2, .int s1)]) dX12_addCommand_83 (by decide) rfl ?_
          refine V_aload_n 84 B dX12_addCommand_84 1 rfl ?_
          refine V_get 85 B gf_RX12_9 0 rfl rfl dX12_addCommand_85 ?_
          refine V_iload_n 88 B dX12_addCommand_88 0 rfl ?_
          refine V_iconst 89 B (v := 0) dX12_addCommand_89 (by decide +kernel) ?_
          refine V_iadd 90 B (v := (nI (34 + 3 * (gN f0 1)))) dX12_addCommand_90 (nI_addE (a := 34 + 3 * (gN f0 1)) (b := 0) (by omega)) ?_
          refine V_iload_n 91 B dX12_addCommand_91 2 rfl ?_
          have hv27 : INV ph (upd f0 (34 + 3 * (gN f0 1)) s0) := INV_free HI (rl7 (gN f0 1) (by omega))
          refine V_iast 92 B 1 rfl (vp_in_nI (n := 34 + 3 * (gN f0 1)) (by omega) (by decide)) dX12_addCommand_92 [(h0, oC 13 [.ref h1, .ref h2, .int (u20.2.1 0), .ref h3, .ref h4, .int (nI k5), .int (nI k6), .int p7, .int p8, .int p9, .int (nI k10), .int p11, .long q12, .ref h5, .ref h6, .int (nI k15), .int (nI k16)]), (h1, aI Y 3640 (upd f0 (34 + 3 * (gN f0 1)) s0)), (h2, aZ Y 2 f1), (h3, aZ Y 80 f3), (h4, aB Y 1600 f4), (h5, aI Y 200 f13), (h6, aI Y 800 f14)] (by rw [nI_clamp (show 34 + 3 * (gN f0 1) < 2 ^ 31 by omega)]; rfl) ?_
          refine V_aload_n 93 B dX12_addCommand_93 1 rfl ?_
          refine V_get 94 B gf_RX12_9 0 rfl rfl dX12_addCommand_94 ?_
          refine V_iload_n 97 B dX12_addCommand_97 0 rfl ?_
          refine V_iconst 98 B (v := 1) dX12_addCommand_98 (by decide +kernel) ?_
          refine V_iadd 99 B (v := (nI (35 + 3 * (gN f0 1)))) dX12_addCommand_99 (nI_addE (a := 34 + 3 * (gN f0 1)) (b := 1) (by omega)) ?_
          refine V_iload_n 100 B dX12_addCommand_100 2 rfl ?_
          refine V_iconst 101 B (v := 1) dX12_addCommand_101 (by decide +kernel) ?_
          refine V_icmp_ne 102 B 109 dX12_addCommand_102 (by decide) (fun kk28 => ?_) (fun kk28 => ?_)
          ·
            have x29 := x_ne kk28
            rw [show (1 : Int32).toInt = 1 by decide +kernel] at x29
            refine V_iconst 109 B (v := (-1)) dX12_addCommand_109 (by decide +kernel) ?_
            have hv30 : INV ph (upd (upd f0 (34 + 3 * (gN f0 1)) s0) (35 + 3 * (gN f0 1)) (-1)) := INV_upd hv27 (rl8 (gN f0 1) (by omega)) (by decide +kernel) (by decide +kernel)
            refine V_iast 110 B 1 rfl (vp_in_nI (n := 35 + 3 * (gN f0 1)) (by omega) (by decide)) dX12_addCommand_110 [(h0, oC 13 [.ref h1, .ref h2, .int (u20.2.1 0), .ref h3, .ref h4, .int (nI k5), .int (nI k6), .int p7, .int p8, .int p9, .int (nI k10), .int p11, .long q12, .ref h5, .ref h6, .int (nI k15), .int (nI k16)]), (h1, aI Y 3640 (upd (upd f0 (34 + 3 * (gN f0 1)) s0) (35 + 3 * (gN f0 1)) (-1))), (h2, aZ Y 2 f1), (h3, aZ Y 80 f3), (h4, aB Y 1600 f4), (h5, aI Y 200 f13), (h6, aI Y 800 f14)] (by rw [nI_clamp (show 35 + 3 * (gN f0 1) < 2 ^ 31 by omega)]; rfl) ?_
            refine V_aload_n 111 B dX12_addCommand_111 1 rfl ?_
            refine V_get 112 B gf_RX12_9 0 rfl rfl dX12_addCommand_112 ?_
            refine V_iload_n 115 B dX12_addCommand_115 0 rfl ?_
            refine V_iconst 116 B (v := 2) dX12_addCommand_116 (by decide +kernel) ?_
            refine V_iadd 117 B (v := (nI (36 + 3 * (gN f0 1)))) dX12_addCommand_117 (nI_addE (a := 34 + 3 * (gN f0 1)) (b := 2) (by omega)) ?_
            refine V_iconst 118 B (v := 0) dX12_addCommand_118 (by decide +kernel) ?_
            have hv31 : INV ph (upd (upd (upd f0 (34 + 3 * (gN f0 1)) s0) (35 + 3 * (gN f0 1)) (-1)) (36 + 3 * (gN f0 1)) 0) := INV_free hv30 (rl9 (gN f0 1) (by omega))
            refine V_iast 119 B 1 rfl (vp_in_nI (n := 36 + 3 * (gN f0 1)) (by omega) (by decide)) dX12_addCommand_119 [(h0, oC 13 [.ref h1, .ref h2, .int (u20.2.1 0), .ref h3, .ref h4, .int (nI k5), .int (nI k6), .int p7, .int p8, .int p9, .int (nI k10), .int p11, .long q12, .ref h5, .ref h6, .int (nI k15), .int (nI k16)]), (h1, aI Y 3640 (upd (upd (upd f0 (34 + 3 * (gN f0 1)) s0) (35 + 3 * (gN f0 1)) (-1)) (36 + 3 * (gN f0 1)) 0)), (h2, aZ Y 2 f1), (h3, aZ Y 80 f3), (h4, aB Y 1600 f4), (h5, aI Y 200 f13), (h6, aI Y 800 f14)] (by rw [nI_clamp (show 36 + 3 * (gN f0 1) < 2 ^ 31 by omega)]; rfl) ?_
            refine V_aload_n 120 B dX12_addCommand_120 1 rfl ?_
            refine V_get 121 B gf_RX12_9 0 rfl rfl dX12_addCommand_121 ?_
            refine V_iconst 124 B (v := 1) dX12_addCommand_124 (by decide +kernel) ?_
            refine V_dup2_11 125 B dX12_addCommand_125 rfl rfl ?_
            have x32 : (gN f0 1) ≤ 40 := gN_le HI (by omega) (show bd 1 = (0, ((40 : Nat) : Int)) by decide +kernel)
            refine V_iald 126 B (v := (nI (gN f0 1))) 1 rfl (vpin _ _ (by decide +kernel)) dX12_addCommand_126 (by show (upd (upd (upd f0 (34 + 3 * (gN f0 1)) s0) (35 + 3 * (gN f0 1)) (-1)) (36 + 3 * (gN f0 1)) 0) 1 = _; rw [upd_ne (by omega)]; rw [upd_ne (by omega)]; rw [upd_ne (by omega)]; exact gN_eq HI (by omega) (show bd 1 = (0, ((40 : Nat) : Int)) by decide +kernel)) ?_
            refine V_iconst 127 B (v := 1) dX12_addCommand_127 (by decide +kernel) ?_
            refine V_iadd 128 B (v := (nI (1 + (gN f0 1)))) dX12_addCommand_128 (nI_addE (a := (gN f0 1)) (b := 1) (by omega)) ?_
            have hv33 : INV ph (upd (upd (upd (upd f0 (34 + 3 * (gN f0 1)) s0) (35 + 3 * (gN f0 1)) (-1)) (36 + 3 * (gN f0 1)) 0) 1 (nI (1 + (gN f0 1)))) := INV_nat (v := 1 + (gN f0 1)) hv31 (show bd 1 = (0, ((40 : Nat) : Int)) by decide +kernel) (by omega) (by decide)
            refine V_iast 129 B 1 rfl (vpin _ _ (by decide +kernel)) dX12_addCommand_129 [(h0, oC 13 [.ref h1, .ref h2, .int (u20.2.1 0), .ref h3, .ref h4, .int (nI k5), .int (nI k6), .int p7, .int p8, .int p9, .int (nI k10), .int p11, .long q12, .ref h5, .ref h6, .int (nI k15), .int (nI k16)]), (h1, aI Y 3640 (upd (upd (upd (upd f0 (34 + 3 * (gN f0 1)) s0) (35 + 3 * (gN f0 1)) (-1)) (36 + 3 * (gN f0 1)) 0) 1 (nI (1 + (gN f0 1))))), (h2, aZ Y 2 f1), (h3, aZ Y 80 f3), (h4, aB Y 1600 f4), (h5, aI Y 200 f13), (h6, aI Y 800 f14)] rfl ?_
            refine V_aload_n 130 B dX12_addCommand_130 1 rfl ?_
            refine V_get 131 B gf_RX12_9 0 rfl rfl dX12_addCommand_131 ?_
            refine V_iconst 134 B (v := 1) dX12_addCommand_134 (by decide +kernel) ?_
            refine V_iald 135 B (v := (nI (1 + (gN f0 1)))) 1 rfl (vpin _ _ (by decide +kernel)) dX12_addCommand_135 (by show (upd (upd (upd (upd f0 (34 + 3 * (gN f0 1)) s0) (35 + 3 * (gN f0 1)) (-1)) (36 + 3 * (gN f0 1)) 0) 1 (nI (1 + (gN f0 1)))) 1 = _; exact upd_at) ?_
            refine V_iconst 136 B (v := 1) dX12_addCommand_136 (by decide +kernel) ?_
            refine V_isub 137 B (v := (nI (gN f0 1))) dX12_addCommand_137 (nI_subE (a := 1 + (gN f0 1)) (b := 1) (by omega)) ?_
            exact V_iret 138 B dX12_addCommand_138 (mkW [] [(u20.2.1 0)] [] [(upd (upd (upd (upd f0 (34 + 3 * (gN f0 1)) s0) (35 + 3 * (gN f0 1)) (-1)) (36 + 3 * (gN f0 1)) 0) 1 (nI (1 + (gN f0 1))))] [] []) hv33 rfl
          ·
            obtain rfl : s0 = 1 := kk28
            have e35 : (1 : Int32).toInt = 1 := by decide +kernel
            refine V_iload_n 105 B dX12_addCommand_105 3 rfl ?_
            refine V_goto 106 B 110 dX12_addCommand_106 (by decide) ?_
            have hv36 : INV ph (upd (upd f0 (34 + 3 * (gN f0 1)) 1) (35 + 3 * (gN f0 1)) s1) := INV_upd hv27 (rl8 (gN f0 1) (by omega)) (by omega) (by omega)
            refine V_iast 110 B 1 rfl (vp_in_nI (n := 35 + 3 * (gN f0 1)) (by omega) (by decide)) dX12_addCommand_110 [(h0, oC 13 [.ref h1, .ref h2, .int (u20.2.1 0), .ref h3, .ref h4, .int (nI k5), .int (nI k6), .int p7, .int p8, .int p9, .int (nI k10), .int p11, .long q12, .ref h5, .ref h6, .int (nI k15), .int (nI k16)]), (h1, aI Y 3640 (upd (upd f0 (34 + 3 * (gN f0 1)) 1) (35 + 3 * (gN f0 1)) s1)), (h2, aZ Y 2 f1), (h3, aZ Y 80 f3), (h4, aB Y 1600 f4), (h5, aI Y 200 f13), (h6, aI Y 800 f14)] (by rw [nI_clamp (show 35 + 3 * (gN f0 1) < 2 ^ 31 by omega)]; rfl) ?_
            refine V_aload_n 111 B dX12_addCommand_111 1 rfl ?_
            refine V_get 112 B gf_RX12_9 0 rfl rfl dX12_addCommand_112 ?_
            refine V_iload_n 115 B dX12_addCommand_115 0 rfl ?_
            refine V_iconst 116 B (v := 2) dX12_addCommand_116 (by decide +kernel) ?_
            refine V_iadd 117 B (v := (nI (36 + 3 * (gN f0 1)))) dX12_addCommand_117 (nI_addE (a := 34 + 3 * (gN f0 1)) (b := 2) (by omega)) ?_
            refine V_iconst 118 B (v := 0) dX12_addCommand_118 (by decide +kernel) ?_
            have hv37 : INV ph (upd (upd (upd f0 (34 + 3 * (gN f0 1)) 1) (35 + 3 * (gN f0 1)) s1) (36 + 3 * (gN f0 1)) 0) := INV_free hv36 (rl9 (gN f0 1) (by omega))
            refine V_iast 119 B 1 rfl (vp_in_nI (n := 36 + 3 * (gN f0 1)) (by omega) (by decide)) dX12_addCommand_119 [(h0, oC 13 [.ref h1, .ref h2, .int (u20.2.1 0), .ref h3, .ref h4, .int (nI k5), .int (nI k6), .int p7, .int p8, .int p9, .int (nI k10), .int p11, .long q12, .ref h5, .ref h6, .int (nI k15), .int (nI k16)]), (h1, aI Y 3640 (upd (upd (upd f0 (34 + 3 * (gN f0 1)) 1) (35 + 3 * (gN f0 1)) s1) (36 + 3 * (gN f0 1)) 0)), (h2, aZ Y 2 f1), (h3, aZ Y 80 f3), (h4, aB Y 1600 f4), (h5, aI Y 200 f13), (h6, aI Y 800 f14)] (by rw [nI_clamp (show 36 + 3 * (gN f0 1) < 2 ^ 31 by omega)]; rfl) ?_
            refine V_aload_n 120 B dX12_addCommand_120 1 rfl ?_
            refine V_get 121 B gf_RX12_9 0 rfl rfl dX12_addCommand_121 ?_
            refine V_iconst 124 B (v := 1) dX12_addCommand_124 (by decide +kernel) ?_
            refine V_dup2_11 125 B dX12_addCommand_125 rfl rfl ?_
            have x38 : (gN f0 1) ≤ 40 := gN_le HI (by omega) (show bd 1 = (0, ((40 : Nat) : Int)) by decide +kernel)
            refine V_iald 126 B (v := (nI (gN f0 1))) 1 rfl (vpin _ _ (by decide +kernel)) dX12_addCommand_126 (by show (upd (upd (upd f0 (34 + 3 * (gN f0 1)) 1) (35 + 3 * (gN f0 1)) s1) (36 + 3 * (gN f0 1)) 0) 1 = _; rw [upd_ne (by omega)]; rw [upd_ne (by omega)]; rw [upd_ne (by omega)]; exact gN_eq HI (by omega) (show bd 1 = (0, ((40 : Nat) : Int)) by decide +kernel)) ?_
            refine V_iconst 127 B (v := 1) dX12_addCommand_127 (by decide +kernel) ?_
            refine V_iadd 128 B (v := (nI (1 + (gN f0 1)))) dX12_addCommand_128 (nI_addE (a := (gN f0 1)) (b := 1) (by omega)) ?_
            have hv39 : INV ph (upd (upd (upd (upd f0 (34 + 3 * (gN f0 1)) 1) (35 + 3 * (gN f0 1)) s1) (36 + 3 * (gN f0 1)) 0) 1 (nI (1 + (gN f0 1)))) := INV_nat (v := 1 + (gN f0 1)) hv37 (show bd 1 = (0, ((40 : Nat) : Int)) by decide +kernel) (by omega) (by decide)
            refine V_iast 129 B 1 rfl (vpin _ _ (by decide +kernel)) dX12_addCommand_129 [(h0, oC 13 [.ref h1, .ref h2, .int (u20.2.1 0), .ref h3, .ref h4, .int (nI k5), .int (nI k6), .int p7, .int p8, .int p9, .int (nI k10), .int p11, .long q12, .ref h5, .ref h6, .int (nI k15), .int (nI k16)]), (h1, aI Y 3640 (upd (upd (upd (upd f0 (34 + 3 * (gN f0 1)) 1) (35 + 3 * (gN f0 1)) s1) (36 + 3 * (gN f0 1)) 0) 1 (nI (1 + (gN f0 1))))), (h2, aZ Y 2 f1), (h3, aZ Y 80 f3), (h4, aB Y 1600 f4), (h5, aI Y 200 f13), (h6, aI Y 800 f14)] rfl ?_
            refine V_aload_n 130 B dX12_addCommand_130 1 rfl ?_
            refine V_get 131 B gf_RX12_9 0 rfl rfl dX12_addCommand_131 ?_
            refine V_iconst 134 B (v := 1) dX12_addCommand_134 (by decide +kernel) ?_
            refine V_iald 135 B (v := (nI (1 + (gN f0 1)))) 1 rfl (vpin _ _ (by decide +kernel)) dX12_addCommand_135 (by show (upd (upd (upd (upd f0 (34 + 3 * (gN f0 1)) 1) (35 + 3 * (gN f0 1)) s1) (36 + 3 * (gN f0 1)) 0) 1 (nI (1 + (gN f0 1)))) 1 = _; exact upd_at) ?_
            refine V_iconst 136 B (v := 1) dX12_addCommand_136 (by decide +kernel) ?_
            refine V_isub 137 B (v := (nI (gN f0 1))) dX12_addCommand_137 (nI_subE (a := 1 + (gN f0 1)) (b := 1) (by omega)) ?_
            exact V_iret 138 B dX12_addCommand_138 (mkW [] [(u20.2.1 0)] [] [(upd (upd (upd (upd f0 (34 + 3 * (gN f0 1)) 1) (35 + 3 * (gN f0 1)) s1) (36 + 3 * (gN f0 1)) 0) 1 (nI (1 + (gN f0 1))))] [] []) hv39 rfl
        ·
          have x40 := n_eq (a := (gN f0 1)) (b := 40) kk24 (by omega) (by omega)
          refine V_bipush 69 B (v := (-2)) dX12_addCommand_69 (by decide +kernel) ?_
          exact V_iret 71 B dX12_addCommand_71 (mkW [] [(u20.2.1 0)] [] [f0] [] []) HI rfl
      ·
        obtain rfl : s0 = 1 := kk17
        have e42 : (1 : Int32).toInt = 1 := by decide +kernel
        refine V_aload_n 36 B dX12_addCommand_36 0 rfl ?_
        refine V_iload_n 37 B dX12_addCommand_37 2 rfl ?_
        refine V_cvi 38 B (st := [.ref h0]) (As := [.int s1]) (fun sz => rX12_isMode l D Y h0 h1 h2 h3 h4 h5 h6 (u14.2.1 0) k5 k6 p7 p8 p9 k10 p11 q12 k15 k16 f0 f1 f3 f4 f13 f14 ph HI (by omega) HP s1 sz) glV_RX12_91 ⟨rfl, rfl⟩ ⟨(Nat.le_of_ble_eq_true rfl), (Nat.le_of_ble_eq_true rfl)⟩ ⟨(Nat.le_of_ble_eq_true rfl), (Nat.le_of_ble_eq_true rfl)⟩ [0, 0, 0, 0, 0, 0, 0] rfl 13 0 rfl rfl rfl rfl (Nat.le_of_ble_eq_true rfl) rfl (fun _ _ _ => rfl) dX12_addCommand_38 (fun j43 u44 w45 => ?_)
        refine V_ws [(h0, oC 13 [.ref h1, .ref h2, .int (u14.2.1 0), .ref h3, .ref h4, .int (nI k5), .int (nI k6), .int p7, .int p8, .int p9, .int (nI k10), .int p11, .long q12, .ref h5, .ref h6, .int (nI k15), .int (nI k16)]), (h1, aI Y 3640 f0), (h2, aZ Y 2 f1), (h3, aZ Y 80 f3), (h4, aB Y 1600 f4), (h5, aI Y 200 f13), (h6, aI Y 800 f14)] rfl ?_
        have x46 := w45
        clear w45
        have x50 : (gN f0 0) ≤ 6 := gN_le HI (by omega) (show bd 0 = (0, ((6 : Nat) : Int)) by decide +kernel)
        rcases x46 with rfl | ⟨rfl, n47, rfl, x49⟩
        ·
          refine V_if_ne_f 41 B 48 dX12_addCommand_41 (by decide) (by decide +kernel) ?_
          refine V_iconst 44 B (v := 1) dX12_addCommand_44 (by decide +kernel) ?_
          refine V_goto 45 B 49 dX12_addCommand_45 (by decide) ?_
          refine V_iconst 49 B (v := 2) dX12_addCommand_49 (by decide +kernel) ?_
          refine V_cvi 50 B (st := []) (As := [.int 1, .int 2]) (fun sz => rX12_throwsIf_1 l D Y h0 h1 h2 h3 h4 h5 h6 (u14.2.1 0) k5 k6 p7 p8 p9 k10 p11 q12 k15 k16 f0 f1 f3 f4 f13 f14 ph HI (by omega) HP 2 sz) glV_RX12_69 ⟨rfl, rfl⟩ ⟨(Nat.le_of_ble_eq_true rfl), (Nat.le_of_ble_eq_true rfl)⟩ ⟨(Nat.le_of_ble_eq_true rfl), (Nat.le_of_ble_eq_true rfl)⟩ [0, 0, 0, 0, 0, 0, 0] rfl 13 0 rfl rfl rfl rfl (Nat.le_of_ble_eq_true rfl) rfl (fun _ _ _ => rfl) dX12_addCommand_50 (fun j51 u52 w53 => ?_)
          refine V_ws [(h0, oC 13 [.ref h1, .ref h2, .int (u52.2.1 0), .ref h3, .ref h4, .int (nI k5), .int (nI k6), .int p7, .int p8, .int p9, .int (nI k10), .int p11, .long q12, .ref h5, .ref h6, .int (nI k15), .int (nI k16)]), (h1, aI Y 3640 f0), (h2, aZ Y 2 f1), (h3, aZ Y 80 f3), (h4, aB Y 1600 f4), (h5, aI Y 200 f13), (h6, aI Y 800 f14)] rfl ?_
          have x54 := w53
          clear w53
          obtain rfl := x54
          refine V_if_eq_f 53 B 58 dX12_addCommand_53 (by decide) (by decide +kernel) ?_
          refine V_iconst 56 B (v := 0) dX12_addCommand_56 (by decide +kernel) ?_
          exact V_iret 57 B dX12_addCommand_57 (mkW [] [(u52.2.1 0)] [] [f0] [] []) HI rfl
        ·
          have e55 := nI_toInt (show n47 < 2 ^ 31 by omega)
          have x56 : (gN f0 0) ≤ 6 := gN_le HI (by omega) (show bd 0 = (0, ((6 : Nat) : Int)) by decide +kernel)
          refine V_if_ne_t 41 B 48 dX12_addCommand_41 (by decide) (by decide +kernel) ?_
          refine V_iconst 48 B (v := 0) dX12_addCommand_48 (by decide +kernel) ?_
          refine V_iconst 49 B (v := 2) dX12_addCommand_49 (by decide +kernel) ?_
          refine V_cvi 50 B (st := []) (As := [.int 0, .int 2]) (fun sz => rX12_throwsIf_0 l D Y h0 h1 h2 h3 h4 h5 h6 (u14.2.1 0) k5 k6 p7 p8 p9 k10 p11 q12 k15 k16 f0 f1 f3 f4 f13 f14 ph HI (by omega) HP 2 sz) glV_RX12_69 ⟨rfl, rfl⟩ ⟨(Nat.le_of_ble_eq_true rfl), (Nat.le_of_ble_eq_true rfl)⟩ ⟨(Nat.le_of_ble_eq_true rfl), (Nat.le_of_ble_eq_true rfl)⟩ [0, 0, 0, 0, 0, 0, 0] rfl 13 0 rfl rfl rfl rfl (Nat.le_of_ble_eq_true rfl) rfl (fun _ _ _ => rfl) dX12_addCommand_50 (fun j57 u58 w59 => ?_)
          refine V_ws [(h0, oC 13 [.ref h1, .ref h2, .int (u58.2.1 0), .ref h3, .ref h4, .int (nI k5), .int (nI k6), .int p7, .int p8, .int p9, .int (nI k10), .int p11, .long q12, .ref h5, .ref h6, .int (nI k15), .int (nI k16)]), (h1, aI Y 3640 f0), (h2, aZ Y 2 f1), (h3, aZ Y 80 f3), (h4, aB Y 1600 f4), (h5, aI Y 200 f13), (h6, aI Y 800 f14)] rfl ?_
          have x60 := w59
          clear w59
          obtain rfl := x60
          refine V_if_eq_t 53 B 58 dX12_addCommand_53 (by decide) (by decide +kernel) ?_
          refine V_aload_n 58 B dX12_addCommand_58 0 rfl ?_
          refine V_get 59 B gf_RX12_9 0 rfl rfl dX12_addCommand_59 ?_
          refine V_iconst 62 B (v := 1) dX12_addCommand_62 (by decide +kernel) ?_
          have x61 : (gN f0 1) ≤ 40 := gN_le HI (by omega) (show bd 1 = (0, ((40 : Nat) : Int)) by decide +kernel)
          refine V_iald 63 B (v := (nI (gN f0 1))) 1 rfl (vpin _ _ (by decide +kernel)) dX12_addCommand_63 (by show f0 1 = _; exact gN_eq HI (by omega) (show bd 1 = (0, ((40 : Nat) : Int)) by decide +kernel)) ?_
          refine V_bipush 64 B (v := 40) dX12_addCommand_64 (by decide +kernel) ?_
          refine V_icmp_ne 66 B 72 dX12_addCommand_66 (by decide) (fun kk62 => ?_) (fun kk62 => ?_)
          ·
            have x63 := n_ne (a := (gN f0 1)) (b := 40) kk62
            refine V_bipush 72 B (v := 34) dX12_addCommand_72 (by decide +kernel) ?_
            refine V_iconst 74 B (v := 3) dX12_addCommand_74 (by decide +kernel) ?_
            refine V_aload_n 75 B dX12_addCommand_75 0 rfl ?_
            refine V_get 76 B gf_RX12_9 0 rfl rfl dX12_addCommand_76 ?_
            refine V_iconst 79 B (v := 1) dX12_addCommand_79 (by decide +kernel) ?_
            have x64 : (gN f0 1) ≤ 40 := gN_le HI (by omega) (show bd 1 = (0, ((40 : Nat) : Int)) by decide +kernel)
            refine V_iald 80 B (v := (nI (gN f0 1))) 1 rfl (vpin _ _ (by decide +kernel)) dX12_addCommand_80 (by show f0 1 = _; exact gN_eq HI (by omega) (show bd 1 = (0, ((40 : Nat) : Int)) by decide +kernel)) ?_
            refine V_imul 81 B (v := (nI (3 * (gN f0 1)))) dX12_addCommand_81 (nI_mulE (a := 3) (b := (gN f0 1)) (by omega)) ?_
            refine V_iadd 82 B (v := (nI (34 + 3 * (gN f0 1)))) dX12_addCommand_82 (nI_addE (a := 34) (b := 3 * (gN f0 1)) (by omega)) ?_
            refine V_istore_n 83 B (lv2 := [(3, .int (nI (34 + 3 * (gN f0 1)))), (0, .ref h0), (1, .int 1), (2, .int (nI n47))]) dX12_addCommand_83 (by decide) rfl ?_
            refine V_aload_n 84 B dX12_addCommand_84 1 rfl ?_
            refine V_get 85 B gf_RX12_9 0 rfl rfl dX12_addCommand_85 ?_
            refine V_iload_n 88 B dX12_addCommand_88 0 rfl ?_
            refine V_iconst 89 B (v := 0) dX12_addCommand_89 (by decide +kernel) ?_
            refine V_iadd 90 B (v := (nI (34 + 3 * (gN f0 1)))) dX12_addCommand_90 (nI_addE (a := 34 + 3 * (gN f0 1)) (b := 0) (by omega)) ?_
            refine V_iload_n 91 B dX12_addCommand_91 2 rfl ?_
            have hv65 : INV ph (upd f0 (34 + 3 * (gN f0 1)) 1) := INV_free HI (rl7 (gN f0 1) (by omega))
            refine V_iast 92 B 1 rfl (vp_in_nI (n := 34 + 3 * (gN f0 1)) (by omega) (by decide)) dX12_addCommand_92 [(h0, oC 13 [.ref h1, .ref h2, .int (u58.2.1 0), .ref h3, .ref h4, .int (nI k5), .int (nI k6), .int p7, .int p8, .int p9, .int (nI k10), .int p11, .long q12, .ref h5, .ref h6, .int (nI k15), .int (nI k16)]), (h1, aI Y 3640 (upd f0 (34 + 3 * (gN f0 1)) 1)), (h2, aZ Y 2 f1), (h3, aZ Y 80 f3), (h4, aB Y 1600 f4), (h5, aI Y 200 f13), (h6, aI Y 800 f14)] (by rw [nI_clamp (show 34 + 3 * (gN f0 1) < 2 ^ 31 by omega)]; rfl) ?_
            refine V_aload_n 93 B dX12_addCommand_93 1 rfl ?_
            refine V_get 94 B gf_RX12_9 0 rfl rfl dX12_addCommand_94 ?_
            refine V_iload_n 97 B dX12_addCommand_97 0 rfl ?_
            refine V_iconst 98 B (v := 1) dX12_addCommand_98 (by decide +kernel) ?_
            refine V_iadd 99 B (v := (nI (35 + 3 * (gN f0 1)))) dX12_addCommand_99 (nI_addE (a := 34 + 3 * (gN f0 1)) (b := 1) (by omega)) ?_
            refine V_iload_n 100 B dX12_addCommand_100 2 rfl ?_
            refine V_iconst 101 B (v := 1) dX12_addCommand_101 (by decide +kernel) ?_
            refine V_icmp_ne_f 102 B 109 dX12_addCommand_102 (by decide) (by decide +kernel) ?_
            refine V_iload_n 105 B dX12_addCommand_105 3 rfl ?_
            refine V_goto 106 B 110 dX12_addCommand_106 (by decide) ?_
            have hv66 : INV ph (upd (upd f0 (34 + 3 * (gN f0 1)) 1) (35 + 3 * (gN f0 1)) (nI n47)) := INV_upd hv65 (rl8 (gN f0 1) (by omega)) (by rw [nI_toInt (by omega)]; omega) (by rw [nI_toInt (by omega)]; omega)
            refine V_iast 110 B 1 rfl (vp_in_nI (n := 35 + 3 * (gN f0 1)) (by omega) (by decide)) dX12_addCommand_110 [(h0, oC 13 [.ref h1, .ref h2, .int (u58.2.1 0), .ref h3, .ref h4, .int (nI k5), .int (nI k6), .int p7, .int p8, .int p9, .int (nI k10), .int p11, .long q12, .ref h5, .ref h6, .int (nI k15), .int (nI k16)]), (h1, aI Y 3640 (upd (upd f0 (34 + 3 * (gN f0 1)) 1) (35 + 3 * (gN f0 1)) (nI n47))), (h2, aZ Y 2 f1), (h3, aZ Y 80 f3), (h4, aB Y 1600 f4), (h5, aI Y 200 f13), (h6, aI Y 800 f14)] (by rw [nI_clamp (show 35 + 3 * (gN f0 1) < 2 ^ 31 by omega)]; rfl) ?_
            refine V_aload_n 111 B dX12_addCommand_111 1 rfl ?_
            refine V_get 112 B gf_RX12_9 0 rfl rfl dX12_addCommand_112 ?_
            refine V_iload_n 115 B dX12_addCommand_115 0 rfl ?_
            refine V_iconst 116 B (v := 2) dX12_addCommand_116 (by decide +kernel) ?_
            refine V_iadd 117 B (v := (nI (36 + 3 * (gN f0 1)))) dX12_addCommand_117 (nI_addE (a := 34 + 3 * (gN f0 1)) (b := 2) (by omega)) ?_
            refine V_iconst 118 B (v := 0) dX12_addCommand_118 (by decide +kernel) ?_
            have hv67 : INV ph (upd (upd (upd f0 (34 + 3 * (gN f0 1)) 1) (35 + 3 * (gN f0 1)) (nI n47)) (36 + 3 * (gN f0 1)) 0) := INV_free hv66 (rl9 (gN f0 1) (by omega))
            refine V_iast 119 B 1 rfl (vp_in_nI (n := 36 + 3 * (gN f0 1)) (by omega) (by decide)) dX12_addCommand_119 [(h0, oC 13 [.ref h1, .ref h2, .int (u58.2.1 0), .ref h3, .ref h4, .int (nI k5), .int (nI k6), .int p7, .int p8, .int p9, .int (nI k10), .int p11, .long q12, .ref h5, .ref h6, .int (nI k15), .int (nI k16)]), (h1, aI Y 3640 (upd (upd (upd f0 (34 + 3 * (gN f0 1)) 1) (35 + 3 * (gN f0 1)) (nI n47)) (36 + 3 * (gN f0 1)) 0)), (h2, aZ Y 2 f1), (h3, aZ Y 80 f3), (h4, aB Y 1600 f4), (h5, aI Y 200 f13), (h6, aI Y 800 f14)] (by rw [nI_clamp (show 36 + 3 * (gN f0 1) < 2 ^ 31 by omega)]; rfl) ?_
            refine V_aload_n 120 B dX12_addCommand_120 1 rfl ?_
            refine V_get 121 B gf_RX12_9 0 rfl rfl dX12_addCommand_121 ?_
            refine V_iconst 124 B (v := 1) dX12_addCommand_124 (by decide +kernel) ?_
            refine V_dup2_11 125 B dX12_addCommand_125 rfl rfl ?_
            have x68 : (gN f0 1) ≤ 40 := gN_le HI (by omega) (show bd 1 = (0, ((40 : Nat) : Int)) by decide +kernel)
            refine V_iald 126 B (v := (nI (gN f0 1))) 1 rfl (vpin _ _ (by decide +kernel)) dX12_addCommand_126 (by show (upd (upd (upd f0 (34 + 3 * (gN f0 1)) 1) (35 + 3 * (gN f0 1)) (nI n47)) (36 + 3 * (gN f0 1)) 0) 1 = _; rw [upd_ne (by omega)]; rw [upd_ne (by omega)]; rw [upd_ne (by omega)]; exact gN_eq HI (by omega) (show bd 1 = (0, ((40 : Nat) : Int)) by decide +kernel)) ?_
            refine V_iconst 127 B (v := 1) dX12_addCommand_127 (by decide +kernel) ?_
            refine V_iadd 128 B (v := (nI (1 + (gN f0 1)))) dX12_addCommand_128 (nI_addE (a := (gN f0 1)) (b := 1) (by omega)) ?_
            have hv69 : INV ph (upd (upd (upd (upd f0 (34 + 3 * (gN f0 1)) 1) (35 + 3 * (gN f0 1)) (nI n47)) (36 + 3 * (gN f0 1)) 0) 1 (nI (1 + (gN f0 1)))) := INV_nat (v := 1 + (gN f0 1)) hv67 (show bd 1 = (0, ((40 : Nat) : Int)) by decide +kernel) (by omega) (by decide)
            refine V_iast 129 B 1 rfl (vpin _ _ (by decide +kernel)) dX12_addCommand_129 [(h0, oC 13 [.ref h1, .ref h2, .int (u58.2.1 0), .ref h3, .ref h4, .int (nI k5), .int (nI k6), .int p7, .int p8, .int p9, .int (nI k10), .int p11, .long q12, .ref h5, .ref h6, .int (nI k15), .int (nI k16)]), (h1, aI Y 3640 (upd (upd (upd (upd f0 (34 + 3 * (gN f0 1)) 1) (35 + 3 * (gN f0 1)) (nI n47)) (36 + 3 * (gN f0 1)) 0) 1 (nI (1 + (gN f0 1))))), (h2, aZ Y 2 f1), (h3, aZ Y 80 f3), (h4, aB Y 1600 f4), (h5, aI Y 200 f13), (h6, aI Y 800 f14)] rfl ?_
            refine V_aload_n 130 B dX12_addCommand_130 1 rfl ?_
            refine V_get 131 B gf_RX12_9 0 rfl rfl dX12_addCommand_131 ?_
            refine V_iconst 134 B (v := 1) dX12_addCommand_134 (by decide +kernel) ?_
            refine V_iald 135 B (v := (nI (1 + (gN f0 1)))) 1 rfl (vpin _ _ (by decide +kernel)) dX12_addCommand_135 (by show (upd (upd (upd (upd f0 (34 + 3 * (gN f0 1)) 1) (35 + 3 * (gN f0 1)) (nI n47)) (36 + 3 * (gN f0 1)) 0) 1 (nI (1 + (gN f0 1)))) 1 = _; exact upd_at) ?_
            refine V_iconst 136 B (v := 1) dX12_addCommand_136 (by decide +kernel) ?_
            refine V_isub 137 B (v := (nI (gN f0 1))) dX12_addCommand_137 (nI_subE (a := 1 + (gN f0 1)) (b := 1) (by omega)) ?_
            exact V_iret 138 B dX12_addCommand_138 (mkW [] [(u58.2.1 0)] [] [(upd (upd (upd (upd f0 (34 + 3 * (gN f0 1)) 1) (35 + 3 * (gN f0 1)) (nI n47)) (36 + 3 * (gN f0 1)) 0) 1 (nI (1 + (gN f0 1))))] [] []) hv69 rfl
          ·
            have x70 := n_eq (a := (gN f0 1)) (b := 40) kk62 (by omega) (by omega)
            refine V_bipush 69 B (v := (-2)) dX12_addCommand_69 (by decide +kernel) ?_
            exact V_iret 71 B dX12_addCommand_71 (mkW [] [(u58.2.1 0)] [] [f0] [] []) HI rfl)
theorem dX12_bindingsWith_0 : decode cX12_bindingsWith 0 = .ok (.iconst 0, 1) := by decide +kernel
theorem dX12_bindingsWith_1 : decode cX12_bindingsWith 1 = .ok (.istore_n 2, 1) := by decide +kernel
theorem dX12_bindingsWith_2 : decode cX12_bindingsWith 2 = .ok (.iconst 0, 1) := by decide +kernel
theorem dX12_bindingsWith_3 : decode cX12_bindingsWith 3 = .ok (.istore_n 3, 1) := by decide +kernel
theorem dX12_bindingsWith_4 : decode cX12_bindingsWith 4 = .ok (.iload_n 3, 1) := by decide +kernel
theorem dX12_bindingsWith_5 : decode cX12_bindingsWith 5 = .ok (.aload_n 0, 1) := by decide +kernel
theorem dX12_bindingsWith_6 : decode cX12_bindingsWith 6 = .ok (.getfield 9, 3) := by decide +kernel
theorem dX12_bindingsWith_9 : decode cX12_bindingsWith 9 = .ok (.iconst 3, 1) := by decide +kernel
theorem dX12_bindingsWith_10 : decode cX12_bindingsWith 10 = .ok (.iaload, 1) := by decide +kernel
theorem dX12_bindingsWith_11 : decode cX12_bindingsWith 11 = .ok (.if_icmp .ge 26, 3) := by decide +kernel
theorem dX12_bindingsWith_37 : decode cX12_bindingsWith 37 = .ok (.iload_n 2, 1) := by decide +kernel
theorem dX12_bindingsWith_38 : decode cX12_bindingsWith 38 = .ok (.ireturn, 1) := by decide +kernel
theorem dX12_bindingsWith_14 : decode cX12_bindingsWith 14 = .ok (.iload_n 2, 1) := by decide +kernel
theorem dX12_bindingsWith_15 : decode cX12_bindingsWith 15 = .ok (.aload_n 0, 1) := by decide +kernel
theorem dX12_bindingsWith_16 : decode cX12_bindingsWith 16 = .ok (.iload_n 3, 1) := by decide +kernel
theorem dX12_bindingsWith_17 : decode cX12_bindingsWith 17 = .ok (.invokevirtual 96, 3) := by decide +kernel
theorem glV_RX12_96 : GLV RX12 96 yX12_commandOf RX12 cX12_commandOf 2 (some .int) 1 := ⟨⟨(mT8 58 rfl rfl), (mT8 60 rfl rfl), (mTs 38 rfl rfl), (mT1 13 rfl rfl), (mT8 61 rfl rfl)⟩, by decide +kernel⟩
theorem dX12_bindingsWith_20 : decode cX12_bindingsWith 20 = .ok (.iload_n 1, 1) := by decide +kernel
theorem dX12_bindingsWith_21 : decode cX12_bindingsWith 21 = .ok (.if_icmp .ne 7, 3) := by decide +kernel
theorem dX12_bindingsWith_28 : decode cX12_bindingsWith 28 = .ok (.iconst 0, 1) := by decide +kernel
theorem dX12_bindingsWith_29 : decode cX12_bindingsWith 29 = .ok (.iadd, 1) := by decide +kernel
theorem dX12_bindingsWith_30 : decode cX12_bindingsWith 30 = .ok (.istore_n 2, 1) := by decide +kernel
theorem dX12_bindingsWith_31 : decode cX12_bindingsWith 31 = .ok (.iinc 3 1, 3) := by decide +kernel
theorem dX12_bindingsWith_34 : decode cX12_bindingsWith 34 = .ok (.goto (-30), 3) := by decide +kernel
theorem dX12_bindingsWith_24 : decode cX12_bindingsWith 24 = .ok (.iconst 1, 1) := by decide +kernel
theorem dX12_bindingsWith_25 : decode cX12_bindingsWith 25 = .ok (.goto 4, 3) := by decide +kernel
set_option maxRecDepth 100000 in
set_option maxHeartbeats 4000000 in
theorem rX12_bindingsWith (l : Launch) (D : va_G) (Y : Nat → ClassId) (h0 : Nat) (h1 : Nat) (h2 : Nat) (h3 : Nat) (h4 : Nat) (h5 : Nat) (h6 : Nat) (p2 : Int32) (k5 : Nat) (k6 : Nat) (p7 : Int32) (p8 : Int32) (p9 : Int32) (k10 : Nat) (p11 : Int32) (q12 : Int64) (k15 : Nat) (k16 : Nat) (f0 : Nat → Int32) (f1 : Nat → Int32) (f3 : Nat → Int32) (f4 : Nat → Int32) (f13 : Nat → Int32) (f14 : Nat → Int32) (ph : Nat → Int32) (HI : INV ph f0) (HL : k5 ≤ 1600) (HP : PLV f13) (s0 : Int32)  (sz : Nat) : Met l yX12_bindingsWith (WSm yX12_bindingsWith cX12_bindingsWith 4 (some .int)) (mkR 2 0 0 41) (PreC D Y [.ref h0, .int s0] [(h0, oC 13 [.ref h1, .ref h2, .int p2, .ref h3, .ref h4, .int (nI k5), .int (nI k6), .int p7, .int p8, .int p9, .int (nI k10), .int p11, .long q12, .ref h5, .ref h6, .int (nI k15), .int (nI k16)]), (h1, aI Y 3640 f0), (h2, aZ Y 2 f1), (h3, aZ Y 80 f3), (h4, aB Y 1600 f4), (h5, aI Y 200 f13), (h6, aI Y 800 f14)] sz) (QI D (fun (r : Int32) (u : WU) => True) (fun (u : WU) => [(h0, oC 13 [.ref h1, .ref h2, .int p2, .ref h3, .ref h4, .int (nI k5), .int (nI k6), .int p7, .int p8, .int p9, .int (nI k10), .int p11, .long q12, .ref h5, .ref h6, .int (nI k15), .int (nI k16)]), (h1, aI Y 3640 f0), (h2, aZ Y 2 f1), (h3, aZ Y 80 f3), (h4, aB Y 1600 f4), (h5, aI Y 200 f13), (h6, aI Y 800 f14)]) (va_A [(h0, oC 13 [.ref h1, .ref h2, .int p2, .ref h3, .ref h4, .int (nI k5), .int (nI k6), .int p7, .int p8, .int p9, .int (nI k10), .int p11, .long q12, .ref h5, .ref h6, .int (nI k15), .int (nI k16)]), (h1, aI Y 3640 f0), (h2, aZ Y 2 f1), (h3, aZ Y 80 f3), (h4, aB Y 1600 f4), (h5, aI Y 200 f13), (h6, aI Y 800 f14)] sz)) 0 0 (va_A [(h0, oC 13 [.ref h1, .ref h2, .int p2, .ref h3, .ref h4, .int (nI k5), .int (nI k6), .int p7, .int p8, .int p9, .int (nI k10), .int p11, .long q12, .ref h5, .ref h6, .int (nI k15), .int (nI k16)]), (h1, aI Y 3640 f0), (h2, aZ Y 2 f1), (h3, aZ Y 80 f3), (h4, aB Y 1600 f4), (h5, aI Y 200 f13), (h6, aI Y 800 f14)] sz) :=
  met_of  (by decide +kernel) (Nat.le_of_ble_eq_true rfl) (fun p e s m args below meth c B hin hsz => by
    have B : VB p s m args meth c D Y (va_A [(h0, oC 13 [.ref h1, .ref h2, .int p2, .ref h3, .ref h4, .int (nI k5), .int (nI k6), .int p7, .int p8, .int p9, .int (nI k10), .int p11, .long q12, .ref h5, .ref h6, .int (nI k15), .int (nI k16)]), (h1, aI Y 3640 f0), (h2, aZ Y 2 f1), (h3, aZ Y 80 f3), (h4, aB Y 1600 f4), (h5, aI Y 200 f13), (h6, aI Y 800 f14)] sz) cX12_bindingsWith 4 RX12 (some .int) := B
    refine V_iconst 0 B (v := 0) dX12_bindingsWith_0 (by decide +kernel) ?_
    refine V_istore_n 1 B (lv2 := [(2, .int 0), (0, .ref h0), (1, .int s0)]) dX12_bindingsWith_1 (by decide) rfl ?_
    refine V_iconst 2 B (v := 0) dX12_bindingsWith_2 (by decide +kernel) ?_
    refine V_istore_n 3 B (lv2 := [(3, .int 0), (2, .int 0), (0, .ref h0), (1, .int s0)]) dX12_bindingsWith_3 (by decide) rfl ?_
    refine V_wloop (α := WU) (fun a => 100000 - (a.1 0)) (fun a => (a.1 0) ≤ 4000) (fun a => [(3, .int (nI (a.1 0))), (2, .int (a.2.1 0)), (0, .ref h0), (1, .int s0)]) (fun a => [(h0, oC 13 [.ref h1, .ref h2, .int p2, .ref h3, .ref h4, .int (nI k5), .int (nI k6), .int p7, .int p8, .int p9, .int (nI k10), .int p11, .long q12, .ref h5, .ref h6, .int (nI k15), .int (nI k16)]), (h1, aI Y 3640 f0), (h2, aZ Y 2 f1), (h3, aZ Y 80 f3), (h4, aB Y 1600 f4), (h5, aI Y 200 f13), (h6, aI Y 800 f14)]) (mkW [0] [0] [] [] [] []) (show 0 ≤ 4000 by omega) rfl rfl (fun a0 hI2 IH1 => ?_)
    refine V_lv [(3, .int (nI (a0.1 0))), (2, .int (a0.2.1 0)), (0, .ref h0), (1, .int s0)] [0, 1, 2, 3] rfl ?_
    refine V_ws [(h0, oC 13 [.ref h1, .ref h2, .int p2, .ref h3, .ref h4, .int (nI k5), .int (nI k6), .int p7, .int p8, .int p9, .int (nI k10), .int p11, .long q12, .ref h5, .ref h6, .int (nI k15), .int (nI k16)]), (h1, aI Y 3640 f0), (h2, aZ Y 2 f1), (h3, aZ Y 80 f3), (h4, aB Y 1600 f4), (h5, aI Y 200 f13), (h6, aI Y 800 f14)] rfl ?_
    have x3 := hI2
    refine V_iload_n 4 B dX12_bindingsWith_4 0 rfl ?_
    refine V_aload_n 5 B dX12_bindingsWith_5 2 rfl ?_
    refine V_get 6 B gf_RX12_9 0 rfl rfl dX12_bindingsWith_6 ?_
    refine V_iconst 9 B (v := 3) dX12_bindingsWith_9 (by decide +kernel) ?_
    have x4 : (gN f0 3) ≤ 80 := gN_le HI (by omega) (show bd 3 = (0, ((80 : Nat) : Int)) by decide +kernel)
    refine V_iald 10 B (v := (nI (gN f0 3))) 1 rfl (vpin _ _ (by decide +kernel)) dX12_bindingsWith_10 (by show f0 3 = _; exact gN_eq HI (by omega) (show bd 3 = (0, ((80 : Nat) : Int)) by decide +kernel)) ?_
    refine V_icmp_ge 11 B 37 dX12_bindingsWith_11 (by decide) (fun kk5 => ?_) (fun kk5 => ?_)
    ·
      have x6 := n_le (a := (gN f0 3)) (b := (a0.1 0)) kk5 (by omega) (by omega)
      refine V_iload_n 37 B dX12_bindingsWith_37 1 rfl ?_
      exact V_iret 38 B dX12_bindingsWith_38 (mkW [] [] [] [] [] []) trivial rfl
    ·
      have x7 := n_nle (a := (gN f0 3)) (b := (a0.1 0)) kk5 (by omega) (by omega)
      refine V_iload_n 14 B dX12_bindingsWith_14 1 rfl ?_
      refine V_aload_n 15 B dX12_bindingsWith_15 2 rfl ?_
      refine V_iload_n 16 B dX12_bindingsWith_16 0 rfl ?_
      refine V_cvi 17 B (st := [.int (a0.2.1 0)]) (As := [.int (nI (a0.1 0))]) (fun sz => rX12_commandOf l D Y h0 h1 h2 h3 h4 h5 h6 p2 k5 k6 p7 p8 p9 k10 p11 q12 k15 k16 f0 f1 f3 f4 f13 f14 ph HI (by omega) HP (a0.1 0) (by omega) sz) glV_RX12_96 ⟨rfl, rfl⟩ ⟨(Nat.le_of_ble_eq_true rfl), (Nat.le_of_ble_eq_true rfl)⟩ ⟨(Nat.le_of_ble_eq_true rfl), (Nat.le_of_ble_eq_true rfl)⟩ [0, 0, 0, 0, 0, 0, 0] rfl 13 0 rfl rfl rfl rfl (Nat.le_of_ble_eq_true rfl) rfl (fun _ _ _ => rfl) dX12_bindingsWith_17 (fun j8 u9 w10 => ?_)
      refine V_ws [(h0, oC 13 [.ref h1, .ref h2, .int p2, .ref h3, .ref h4, .int (nI k5), .int (nI k6), .int p7, .int p8, .int p9, .int (nI k10), .int p11, .long q12, .ref h5, .ref h6, .int (nI k15), .int (nI k16)]), (h1, aI Y 3640 f0), (h2, aZ Y 2 f1), (h3, aZ Y 80 f3), (h4, aB Y 1600 f4), (h5, aI Y 200 f13), (h6, aI Y 800 f14)] rfl ?_
      have x11 := w10
      clear w10
      obtain rfl := x11
      have x12 : (gN f0 (185 + 7 * (a0.1 0))) ≤ 39 := gN_le HI (by omega) (rl2 (a0.1 0) (by omega))
      refine V_iload_n 20 B dX12_bindingsWith_20 3 rfl ?_
      refine V_icmp_ne 21 B 28 dX12_bindingsWith_21 (by decide) (fun kk13 => ?_) (fun kk13 => ?_)
      ·
        have x14 := x_ne kk13
        rw [nI_toInt (show (gN f0 (185 + 7 * (a0.1 0))) < 2 ^ 31 by omega)] at x14
        refine V_iconst 28 B (v := 0) dX12_bindingsWith_28 (by decide +kernel) ?_
        refine V_iadd 29 B (v := (a0.2.1 0)) dX12_bindingsWith_29 (Int32.add_zero _) ?_
        refine V_istore_n 30 B (lv2 := [(2, .int (a0.2.1 0)), (3, .int (nI (a0.1 0))), (0, .ref h0), (1, .int s0)]) dX12_bindingsWith_30 (by decide) rfl ?_
        refine V_iinc 31 B (v := (nI (1 + (a0.1 0)))) (lv2 := [(3, .int (nI (1 + (a0.1 0)))), (2, .int (a0.2.1 0)), (0, .ref h0), (1, .int s0)]) dX12_bindingsWith_31 1 rfl (nI_addE (a := (a0.1 0)) (b := 1) (by omega)) (by decide) rfl ?_
        refine V_goto 34 B 4 dX12_bindingsWith_34 (by decide) ?_
        refine V_lv [(3, .int (nI (1 + (a0.1 0)))), (2, .int (a0.2.1 0)), (0, .ref h0), (1, .int s0)] [0, 1, 2, 3] rfl ?_
        exact IH1 (mkW [1 + (a0.1 0)] [(a0.2.1 0)] [] [] [] []) (show 1 + (a0.1 0) ≤ 4000 by omega) (by show 100000 - (1 + (a0.1 0)) < 100000 - (a0.1 0); omega)
      ·
        have x15 := x_eq kk13
        rw [nI_toInt (show (gN f0 (185 + 7 * (a0.1 0))) < 2 ^ 31 by omega)] at x15
        refine V_iconst 24 B (v := 1) dX12_bindingsWith_24 (by decide +kernel) ?_
        refine V_goto 25 B 29 dX12_bindingsWith_25 (by decide) ?_
        refine V_iadd 29 B dX12_bindingsWith_29 rfl ?_
        refine V_nmi (fun j16 e17 => ?_)
        refine V_istore_n 30 B (lv2 := [(2, .int j16), (3, .int (nI (a0.1 0))), (0, .ref h0), (1, .int s0)]) dX12_bindingsWith_30 (by decide) rfl ?_
        refine V_iinc 31 B (v := (nI (1 + (a0.1 0)))) (lv2 := [(3, .int (nI (1 + (a0.1 0)))), (2, .int j16), (0, .ref h0), (1, .int s0)]) dX12_bindingsWith_31 1 rfl (nI_addE (a := (a0.1 0)) (b := 1) (by omega)) (by decide) rfl ?_
        refine V_goto 34 B 4 dX12_bindingsWith_34 (by decide) ?_
        refine V_lv [(3, .int (nI (1 + (a0.1 0)))), (2, .int j16), (0, .ref h0), (1, .int s0)] [0, 1, 2, 3] rfl ?_
        exact IH1 (mkW [1 + (a0.1 0)] [j16] [] [] [] []) (show 1 + (a0.1 0) ≤ 4000 by omega) (by show 100000 - (1 + (a0.1 0)) < 100000 - (a0.1 0); omega))
theorem dX12_command_0 : decode cX12_command 0 = .ok (.aload_n 0, 1) := by decide +kernel
theorem dX12_command_1 : decode cX12_command 1 = .ok (.iconst 0, 1) := by decide +kernel
theorem dX12_command_2 : decode cX12_command 2 = .ok (.putfield 38, 3) := by decide +kernel
theorem dX12_command_5 : decode cX12_command 5 = .ok (.aload_n 0, 1) := by decide +kernel
theorem dX12_command_6 : decode cX12_command 6 = .ok (.aload_n 0, 1) := by decide +kernel
theorem dX12_command_7 : decode cX12_command 7 = .ok (.iload_n 1, 1) := by decide +kernel
theorem dX12_command_8 : decode cX12_command 8 = .ok (.invokevirtual 99, 3) := by decide +kernel
theorem glV_RX12_99 : GLV RX12 99 yX12_isCommand RX12 cX12_isCommand 2 (some .boolean) 1 := ⟨⟨(mT8 46 rfl rfl), (mT8 48 rfl rfl), (mTs 35 rfl rfl), (mT1 13 rfl rfl), (mT8 49 rfl rfl)⟩, by decide +kernel⟩
theorem dX12_command_11 : decode cX12_command 11 = .ok (.ifCond .ne 7, 3) := by decide +kernel
theorem dX12_command_14 : decode cX12_command 14 = .ok (.iconst 1, 1) := by decide +kernel
theorem dX12_command_15 : decode cX12_command 15 = .ok (.goto 4, 3) := by decide +kernel
theorem dX12_command_19 : decode cX12_command 19 = .ok (.iconst 1, 1) := by decide +kernel
theorem dX12_command_20 : decode cX12_command 20 = .ok (.invokevirtual 69, 3) := by decide +kernel
theorem dX12_command_23 : decode cX12_command 23 = .ok (.ifCond .eq 5, 3) := by decide +kernel
theorem dX12_command_26 : decode cX12_command 26 = .ok (.iconst 0, 1) := by decide +kernel
theorem dX12_command_27 : decode cX12_command 27 = .ok (.ireturn, 1) := by decide +kernel
theorem dX12_command_18 : decode cX12_command 18 = .ok (.iconst 0, 1) := by decide +kernel
theorem dX12_command_28 : decode cX12_command 28 = .ok (.iload_n 2, 1) := by decide +kernel
theorem dX12_command_29 : decode cX12_command 29 = .ok (.i2l, 1) := by decide +kernel
theorem dX12_command_30 : decode cX12_command 30 = .ok (.lconst 0, 1) := by decide +kernel
theorem dX12_command_31 : decode cX12_command 31 = .ok (.ldc2_w 94, 3) := by decide +kernel
theorem dX12_command_34 : decode cX12_command 34 = .ok (.invokestatic 41, 3) := by decide +kernel
theorem dX12_command_37 : decode cX12_command 37 = .ok (.ifCond .eq 12, 3) := by decide +kernel
theorem dX12_command_49 : decode cX12_command 49 = .ok (.iload_n 2, 1) := by decide +kernel
theorem dX12_command_50 : decode cX12_command 50 = .ok (.iconst 3, 1) := by decide +kernel
theorem dX12_command_51 : decode cX12_command 51 = .ok (.if_icmp .ne 11, 3) := by decide +kernel
theorem dX12_command_62 : decode cX12_command 62 = .ok (.iconst (-1), 1) := by decide +kernel
theorem dX12_command_63 : decode cX12_command 63 = .ok (.ireturn, 1) := by decide +kernel
theorem dX12_command_54 : decode cX12_command 54 = .ok (.aload_n 0, 1) := by decide +kernel
theorem dX12_command_55 : decode cX12_command 55 = .ok (.iload_n 1, 1) := by decide +kernel
theorem dX12_command_56 : decode cX12_command 56 = .ok (.invokevirtual 105, 3) := by decide +kernel
theorem glV_RX12_105 : GLV RX12 105 yX12_bindingsWith RX12 cX12_bindingsWith 4 (some .int) 1 := ⟨⟨(mT8 54 rfl rfl), (mT8 56 rfl rfl), (mTs 37 rfl rfl), (mT1 13 rfl rfl), (mT8 57 rfl rfl)⟩, by decide +kernel⟩
theorem dX12_command_59 : decode cX12_command 59 = .ok (.goto 4, 3) := by decide +kernel
theorem dX12_command_40 : decode cX12_command 40 = .ok (.aload_n 0, 1) := by decide +kernel
theorem dX12_command_41 : decode cX12_command 41 = .ok (.iload_n 1, 1) := by decide +kernel
theorem dX12_command_42 : decode cX12_command 42 = .ok (.iload_n 2, 1) := by decide +kernel
theorem dX12_command_43 : decode cX12_command 43 = .ok (.invokevirtual 102, 3) := by decide +kernel
theorem glV_RX12_102 : GLV RX12 102 yX12_ofCommand RX12 cX12_ofCommand 3 (some .int) 2 := ⟨⟨(mT8 50 rfl rfl), (mT8 52 rfl rfl), (mTs 36 rfl rfl), (mT1 13 rfl rfl), (mT8 53 rfl rfl)⟩, by decide +kernel⟩
theorem dX12_command_46 : decode cX12_command 46 = .ok (.goto 17, 3) := by decide +kernel
set_option maxRecDepth 100000 in
set_option maxHeartbeats 4000000 in
theorem rX12_command (l : Launch) (D : va_G) (Y : Nat → ClassId) (h0 : Nat) (h1 : Nat) (h2 : Nat) (h3 : Nat) (h4 : Nat) (h5 : Nat) (h6 : Nat) (p2 : Int32) (k5 : Nat) (k6 : Nat) (p7 : Int32) (p8 : Int32) (p9 : Int32) (k10 : Nat) (p11 : Int32) (q12 : Int64) (k15 : Nat) (k16 : Nat) (f0 : Nat → Int32) (f1 : Nat → Int32) (f3 : Nat → Int32) (f4 : Nat → Int32) (f13 : Nat → Int32) (f14 : Nat → Int32) (ph : Nat → Int32) (HI : INV ph f0) (HL : k5 ≤ 1600) (HP : PLV f13) (s0 : Int32) (s1 : Int32)  (sz : Nat) : Met l yX12_command (WSm yX12_command cX12_command 3 (some .int)) (mkR 3 0 0 64) (PreC D Y [.ref h0, .int s0, .int s1] [(h0, oC 13 [.ref h1, .ref h2, .int p2, .ref h3, .ref h4, .int (nI k5), .int (nI k6), .int p7, .int p8, .int p9, .int (nI k10), .int p11, .long q12, .ref h5, .ref h6, .int (nI k15), .int (nI k16)]), (h1, aI Y 3640 f0), (h2, aZ Y 2 f1), (h3, aZ Y 80 f3), (h4, aB Y 1600 f4), (h5, aI Y 200 f13), (h6, aI Y 800 f14)] sz) (QI D (fun (r : Int32) (u : WU) => True) (fun (u : WU) => [(h0, oC 13 [.ref h1, .ref h2, .int (u.2.1 0), .ref h3, .ref h4, .int (nI k5), .int (nI k6), .int p7, .int p8, .int p9, .int (nI k10), .int p11, .long q12, .ref h5, .ref h6, .int (nI k15), .int (nI k16)]), (h1, aI Y 3640 f0), (h2, aZ Y 2 f1), (h3, aZ Y 80 f3), (h4, aB Y 1600 f4), (h5, aI Y 200 f13), (h6, aI Y 800 f14)]) (va_A [(h0, oC 13 [.ref h1, .ref h2, .int p2, .ref h3, .ref h4, .int (nI k5), .int (nI k6), .int p7, .int p8, .int p9, .int (nI k10), .int p11, .long q12, .ref h5, .ref h6, .int (nI k15), .int (nI k16)]), (h1, aI Y 3640 f0), (h2, aZ Y 2 f1), (h3, aZ Y 80 f3), (h4, aB Y 1600 f4), (h5, aI Y 200 f13), (h6, aI Y 800 f14)] sz)) 0 0 (va_A [(h0, oC 13 [.ref h1, .ref h2, .int p2, .ref h3, .ref h4, .int (nI k5), .int (nI k6), .int p7, .int p8, .int p9, .int (nI k10), .int p11, .long q12, .ref h5, .ref h6, .int (nI k15), .int (nI k16)]), (h1, aI Y 3640 f0), (h2, aZ Y 2 f1), (h3, aZ Y 80 f3), (h4, aB Y 1600 f4), (h5, aI Y 200 f13), (h6, aI Y 800 f14)] sz) :=
  met_of  (by decide +kernel) (Nat.le_of_ble_eq_true rfl) (fun p e s m args below meth c B hin hsz => by
    have B : VB p s m args meth c D Y (va_A [(h0, oC 13 [.ref h1, .ref h2, .int p2, .ref h3, .ref h4, .int (nI k5), .int (nI k6), .int p7, .int p8, .int p9, .int (nI k10), .int p11, .long q12, .ref h5, .ref h6, .int (nI k15), .int (nI k16)]), (h1, aI Y 3640 f0), (h2, aZ Y 2 f1), (h3, aZ Y 80 f3), (h4, aB Y 1600 f4), (h5, aI Y 200 f13), (h6, aI Y 800 f14)] sz) cX12_command 3 RX12 (some .int) := B
    refine V_aload_n 0 B dX12_command_0 0 rfl ?_
    refine V_iconst 1 B (v := 0) dX12_command_1 (by decide +kernel) ?_
    refine V_put 2 B gp_RX12_38 0 rfl (Nat.le_of_ble_eq_true rfl) rfl rfl dX12_command_2 [(h0, oC 13 [.ref h1, .ref h2, .int 0, .ref h3, .ref h4, .int (nI k5), .int (nI k6), .int p7, .int p8, .int p9, .int (nI k10), .int p11, .long q12, .ref h5, .ref h6, .int (nI k15), .int (nI k16)]), (h1, aI Y 3640 f0), (h2, aZ Y 2 f1), (h3, aZ Y 80 f3), (h4, aB Y 1600 f4), (h5, aI Y 200 f13), (h6, aI Y 800 f14)] rfl ?_
    refine V_aload_n 5 B dX12_command_5 0 rfl ?_
    refine V_aload_n 6 B dX12_command_6 0 rfl ?_
    refine V_iload_n 7 B dX12_command_7 1 rfl ?_
    refine V_cvi 8 B (st := [.ref h0]) (As := [.int s0]) (fun sz => rX12_isCommand l D Y h0 h1 h2 h3 h4 h5 h6 0 k5 k6 p7 p8 p9 k10 p11 q12 k15 k16 f0 f1 f3 f4 f13 f14 ph HI (by omega) HP s0 sz) glV_RX12_99 ⟨rfl, rfl⟩ ⟨(Nat.le_of_ble_eq_true rfl), (Nat.le_of_ble_eq_true rfl)⟩ ⟨(Nat.le_of_ble_eq_true rfl), (Nat.le_of_ble_eq_true rfl)⟩ [0, 0, 0, 0, 0, 0, 0] rfl 13 0 rfl rfl rfl rfl (Nat.le_of_ble_eq_true rfl) rfl (fun _ _ _ => rfl) dX12_command_8 (fun j0 u1 w2 => ?_)
    refine V_ws [(h0, oC 13 [.ref h1, .ref h2, .int 0, .ref h3, .ref h4, .int (nI k5), .int (nI k6), .int p7, .int p8, .int p9, .int (nI k10), .int p11, .long q12, .ref h5, .ref h6, .int (nI k15), .int (nI k16)]), (h1, aI Y 3640 f0), (h2, aZ Y 2 f1), (h3, aZ Y 80 f3), (h4, aB Y 1600 f4), (h5, aI Y 200 f13), (h6, aI Y 800 f14)] rfl ?_
    have x3 := w2
    clear w2
    have x7 : (gN f0 1) ≤ 40 := gN_le HI (by omega) (show bd 1 = (0, ((40 : Nat) : Int)) by decide +kernel)
    rcases x3 with rfl | ⟨rfl, n4, rfl, x6⟩
    ·
      refine V_if_ne_f 11 B 18 dX12_command_11 (by decide) (by decide +kernel) ?_
      refine V_iconst 14 B (v := 1) dX12_command_14 (by decide +kernel) ?_
      refine V_goto 15 B 19 dX12_command_15 (by decide) ?_
      refine V_iconst 19 B (v := 1) dX12_command_19 (by decide +kernel) ?_
      refine V_cvi 20 B (st := []) (As := [.int 1, .int 1]) (fun sz => rX12_throwsIf_1 l D Y h0 h1 h2 h3 h4 h5 h6 0 k5 k6 p7 p8 p9 k10 p11 q12 k15 k16 f0 f1 f3 f4 f13 f14 ph HI (by omega) HP 1 sz) glV_RX12_69 ⟨rfl, rfl⟩ ⟨(Nat.le_of_ble_eq_true rfl), (Nat.le_of_ble_eq_true rfl)⟩ ⟨(Nat.le_of_ble_eq_true rfl), (Nat.le_of_ble_eq_true rfl)⟩ [0, 0, 0, 0, 0, 0, 0] rfl 13 0 rfl rfl rfl rfl (Nat.le_of_ble_eq_true rfl) rfl (fun _ _ _ => rfl) dX12_command_20 (fun j8 u9 w10 => ?_)
      refine V_ws [(h0, oC 13 [.ref h1, .ref h2, .int (u9.2.1 0), .ref h3, .ref h4, .int (nI k5), .int (nI k6), .int p7, .int p8, .int p9, .int (nI k10), .int p11, .long q12, .ref h5, .ref h6, .int (nI k15), .int (nI k16)]), (h1, aI Y 3640 f0), (h2, aZ Y 2 f1), (h3, aZ Y 80 f3), (h4, aB Y 1600 f4), (h5, aI Y 200 f13), (h6, aI Y 800 f14)] rfl ?_
      have x11 := w10
      clear w10
      obtain rfl := x11
      refine V_if_eq_f 23 B 28 dX12_command_23 (by decide) (by decide +kernel) ?_
      refine V_iconst 26 B (v := 0) dX12_command_26 (by decide +kernel) ?_
      exact V_iret 27 B dX12_command_27 (mkW [] [(u9.2.1 0)] [] [] [] []) trivial rfl
    ·
      have e12 := nI_toInt (show n4 < 2 ^ 31 by omega)
      have x13 : (gN f0 1) ≤ 40 := gN_le HI (by omega) (show bd 1 = (0, ((40 : Nat) : Int)) by decide +kernel)
      refine V_if_ne_t 11 B 18 dX12_command_11 (by decide) (by decide +kernel) ?_
      refine V_iconst 18 B (v := 0) dX12_command_18 (by decide +kernel) ?_
      refine V_iconst 19 B (v := 1) dX12_command_19 (by decide +kernel) ?_
      refine V_cvi 20 B (st := []) (As := [.int 0, .int 1]) (fun sz => rX12_throwsIf_0 l D Y h0 h1 h2 h3 h4 h5 h6 0 k5 k6 p7 p8 p9 k10 p11 q12 k15 k16 f0 f1 f3 f4 f13 f14 ph HI (by omega) HP 1 sz) glV_RX12_69 ⟨rfl, rfl⟩ ⟨(Nat.le_of_ble_eq_true rfl), (Nat.le_of_ble_eq_true rfl)⟩ ⟨(Nat.le_of_ble_eq_true rfl), (Nat.le_of_ble_eq_true rfl)⟩ [0, 0, 0, 0, 0, 0, 0] rfl 13 0 rfl rfl rfl rfl (Nat.le_of_ble_eq_true rfl) rfl (fun _ _ _ => rfl) dX12_command_20 (fun j14 u15 w16 => ?_)
      refine V_ws [(h0, oC 13 [.ref h1, .ref h2, .int (u15.2.1 0), .ref h3, .ref h4, .int (nI k5), .int (nI k6), .int p7, .int p8, .int p9, .int (nI k10), .int p11, .long q12, .ref h5, .ref h6, .int (nI k15), .int (nI k16)]), (h1, aI Y 3640 f0), (h2, aZ Y 2 f1), (h3, aZ Y 80 f3), (h4, aB Y 1600 f4), (h5, aI Y 200 f13), (h6, aI Y 800 f14)] rfl ?_
      have x17 := w16
      clear w16
      obtain rfl := x17
      refine V_if_eq_t 23 B 28 dX12_command_23 (by decide) (by decide +kernel) ?_
      refine V_iload_n 28 B dX12_command_28 2 rfl ?_
      refine V_i2l 29 B dX12_command_29 rfl ?_
      refine V_nml (fun o18 e19 => ?_)
      have x20 : o18.toInt = s1.toInt := by rw [e19, Int32.toInt_toInt64]
      refine V_lconst 30 B (v := 0) dX12_command_30 (by decide +kernel) ?_
      refine V_ldc2 31 B (v := 2) dX12_command_31 (mT8 41 rfl rfl) ?_
      refine V_csi 34 B (st := []) (As := [.long o18, .long 0, .long 2]) (fun sz => rX12_inRange l D Y o18 0 2 sz) glS_RX12_41 ⟨rfl, rfl⟩ ⟨(Nat.le_of_ble_eq_true rfl), (Nat.le_of_ble_eq_true rfl)⟩ ⟨(Nat.le_of_ble_eq_true rfl), (Nat.le_of_ble_eq_true rfl)⟩ [] rfl rfl (Nat.le_of_ble_eq_true rfl) rfl (fun _ _ _ => rfl) dX12_command_34 (fun j21 u22 w23 => ?_)
      refine V_ws [(h0, oC 13 [.ref h1, .ref h2, .int (u15.2.1 0), .ref h3, .ref h4, .int (nI k5), .int (nI k6), .int p7, .int p8, .int p9, .int (nI k10), .int p11, .long q12, .ref h5, .ref h6, .int (nI k15), .int (nI k16)]), (h1, aI Y 3640 f0), (h2, aZ Y 2 f1), (h3, aZ Y 80 f3), (h4, aB Y 1600 f4), (h5, aI Y 200 f13), (h6, aI Y 800 f14)] rfl ?_
      rcases w23 with ⟨rfl, x26⟩ | ⟨rfl, x24, x25⟩
      ·
        rw [show (0 : Int64).toInt = 0 by decide +kernel] at x26
        rw [show (2 : Int64).toInt = 2 by decide +kernel] at x26
        refine V_if_eq_t 37 B 49 dX12_command_37 (by decide) (by decide +kernel) ?_
        refine V_iload_n 49 B dX12_command_49 2 rfl ?_
        refine V_iconst 50 B (v := 3) dX12_command_50 (by decide +kernel) ?_
        refine V_icmp_ne 51 B 62 dX12_command_51 (by decide) (fun kk27 => ?_) (fun kk27 => ?_)
        ·
          have x28 := x_ne kk27
          rw [show (3 : Int32).toInt = 3 by decide +kernel] at x28
          refine V_iconst 62 B (v := (-1)) dX12_command_62 (by decide +kernel) ?_
          exact V_iret 63 B dX12_command_63 (mkW [] [(u15.2.1 0)] [] [] [] []) trivial rfl
        ·
          obtain rfl : s1 = 3 := kk27
          have e30 : (3 : Int32).toInt = 3 := by decide +kernel
          refine V_aload_n 54 B dX12_command_54 0 rfl ?_
          refine V_iload_n 55 B dX12_command_55 1 rfl ?_
          refine V_cvi 56 B (st := []) (As := [.int (nI n4)]) (fun sz => rX12_bindingsWith l D Y h0 h1 h2 h3 h4 h5 h6 (u15.2.1 0) k5 k6 p7 p8 p9 k10 p11 q12 k15 k16 f0 f1 f3 f4 f13 f14 ph HI (by omega) HP (nI n4) sz) glV_RX12_105 ⟨rfl, rfl⟩ ⟨(Nat.le_of_ble_eq_true rfl), (Nat.le_of_ble_eq_true rfl)⟩ ⟨(Nat.le_of_ble_eq_true rfl), (Nat.le_of_ble_eq_true rfl)⟩ [0, 0, 0, 0, 0, 0, 0] rfl 13 0 rfl rfl rfl rfl (Nat.le_of_ble_eq_true rfl) rfl (fun _ _ _ => rfl) dX12_command_56 (fun j31 u32 w33 => ?_)
          refine V_ws [(h0, oC 13 [.ref h1, .ref h2, .int (u15.2.1 0), .ref h3, .ref h4, .int (nI k5), .int (nI k6), .int p7, .int p8, .int p9, .int (nI k10), .int p11, .long q12, .ref h5, .ref h6, .int (nI k15), .int (nI k16)]), (h1, aI Y 3640 f0), (h2, aZ Y 2 f1), (h3, aZ Y 80 f3), (h4, aB Y 1600 f4), (h5, aI Y 200 f13), (h6, aI Y 800 f14)] rfl ?_
          refine V_goto 59 B 63 dX12_command_59 (by decide) ?_
          exact V_iret 63 B dX12_command_63 (mkW [] [(u15.2.1 0)] [] [] [] []) trivial rfl
      ·
        rw [show (0 : Int64).toInt = 0 by decide +kernel] at x24
        rw [show (2 : Int64).toInt = 2 by decide +kernel] at x25
        refine V_if_eq_f 37 B 49 dX12_command_37 (by decide) (by decide +kernel) ?_
        refine V_aload_n 40 B dX12_command_40 0 rfl ?_
        refine V_iload_n 41 B dX12_command_41 1 rfl ?_
        refine V_iload_n 42 B dX12_command_42 2 rfl ?_
        obtain ⟨n34, x35, rfl⟩ := nat_of (x := s1) (n := 2) (by omega) (by omega)
        have e36 := nI_toInt (show n34 < 2 ^ 31 by omega)
        refine V_cvi 43 B (st := []) (As := [.int (nI n4), .int (nI n34)]) (fun sz => rX12_ofCommand l D Y h0 h1 h2 h3 h4 h5 h6 (u15.2.1 0) k5 k6 p7 p8 p9 k10 p11 q12 k15 k16 f0 f1 f3 f4 f13 f14 ph HI (by omega) HP n4 n34 (by omega) (by omega) sz) glV_RX12_102 ⟨rfl, rfl⟩ ⟨(Nat.le_of_ble_eq_true rfl), (Nat.le_of_ble_eq_true rfl)⟩ ⟨(Nat.le_of_ble_eq_true rfl), (Nat.le_of_ble_eq_true rfl)⟩ [0, 0, 0, 0, 0, 0, 0] rfl 13 0 rfl rfl rfl rfl (Nat.le_of_ble_eq_true rfl) rfl (fun _ _ _ => rfl) dX12_command_43 (fun j37 u38 w39 => ?_)
        refine V_ws [(h0, oC 13 [.ref h1, .ref h2, .int (u15.2.1 0), .ref h3, .ref h4, .int (nI k5), .int (nI k6), .int p7, .int p8, .int p9, .int (nI k10), .int p11, .long q12, .ref h5, .ref h6, .int (nI k15), .int (nI k16)]), (h1, aI Y 3640 f0), (h2, aZ Y 2 f1), (h3, aZ Y 80 f3), (h4, aB Y 1600 f4), (h5, aI Y 200 f13), (h6, aI Y 800 f14)] rfl ?_
        have x40 := w39
        clear w39
        refine V_goto 46 B 63 dX12_command_46 (by decide) ?_
        exact V_iret 63 B dX12_command_63 (mkW [] [(u15.2.1 0)] [] [] [] []) trivial rfl)
theorem dX12_reservedAt_0 : decode cX12_reservedAt 0 = .ok (.sipush 154, 3) := by decide +kernel
theorem dX12_reservedAt_3 : decode cX12_reservedAt 3 = .ok (.iconst 5, 1) := by decide +kernel
theorem dX12_reservedAt_4 : decode cX12_reservedAt 4 = .ok (.iload_n 0, 1) := by decide +kernel
theorem dX12_reservedAt_5 : decode cX12_reservedAt 5 = .ok (.imul, 1) := by decide +kernel
theorem dX12_reservedAt_6 : decode cX12_reservedAt 6 = .ok (.iadd, 1) := by decide +kernel
theorem dX12_reservedAt_7 : decode cX12_reservedAt 7 = .ok (.ireturn, 1) := by decide +kernel
set_option maxRecDepth 100000 in
set_option maxHeartbeats 4000000 in
theorem rX12_reservedAt (l : Launch) (D : va_G) (Y : Nat → ClassId)  (s0 : Nat) (hn0 : s0 < 7) (sz : Nat) : Met l yX12_reservedAt (WSm yX12_reservedAt cX12_reservedAt 1 (some .int)) (mkR 0 0 0 0) (PreC D Y [.int (nI s0)] [] sz) (QI D (fun (r : Int32) (u : WU) => r = nI (154 + 5 * s0)) (fun (u : WU) => []) (va_A [] sz)) 0 0 (va_A [] sz) :=
  met_of  (by decide +kernel) (Nat.le_of_ble_eq_true rfl) (fun p e s m args below meth c B hin hsz => by
    have B : VB p s m args meth c D Y (va_A [] sz) cX12_reservedAt 1 RX12 (some .int) := B
    refine V_sipush 0 B (v := 154) dX12_reservedAt_0 (by decide +kernel) ?_
    refine V_iconst 3 B (v := 5) dX12_reservedAt_3 (by decide +kernel) ?_
    refine V_iload_n 4 B dX12_reservedAt_4 0 rfl ?_
    refine V_imul 5 B (v := (nI (5 * s0))) dX12_reservedAt_5 (nI_mulE (a := 5) (b := s0) (by omega)) ?_
    refine V_iadd 6 B (v := (nI (154 + 5 * s0))) dX12_reservedAt_6 (nI_addE (a := 154) (b := 5 * s0) (by omega)) ?_
    exact V_iret 7 B dX12_reservedAt_7 (mkW [] [] [] [] [] []) (congrArg nI (by omega)) rfl)
theorem dX12_clashesReserved_0 : decode cX12_clashesReserved 0 = .ok (.iconst 0, 1) := by decide +kernel
theorem dX12_clashesReserved_1 : decode cX12_clashesReserved 1 = .ok (.istore_n 2, 1) := by decide +kernel
theorem dX12_clashesReserved_2 : decode cX12_clashesReserved 2 = .ok (.iconst 0, 1) := by decide +kernel
theorem dX12_clashesReserved_3 : decode cX12_clashesReserved 3 = .ok (.istore_n 3, 1) := by decide +kernel
theorem dX12_clashesReserved_4 : decode cX12_clashesReserved 4 = .ok (.iload_n 3, 1) := by decide +kernel
theorem dX12_clashesReserved_5 : decode cX12_clashesReserved 5 = .ok (.aload_n 0, 1) := by decide +kernel
theorem dX12_clashesReserved_6 : decode cX12_clashesReserved 6 = .ok (.getfield 9, 3) := by decide +kernel
theorem dX12_clashesReserved_9 : decode cX12_clashesReserved 9 = .ok (.iconst 2, 1) := by decide +kernel
theorem dX12_clashesReserved_10 : decode cX12_clashesReserved 10 = .ok (.iaload, 1) := by decide +kernel
theorem dX12_clashesReserved_11 : decode cX12_clashesReserved 11 = .ok (.if_icmp .ge 21, 3) := by decide +kernel
theorem dX12_clashesReserved_32 : decode cX12_clashesReserved 32 = .ok (.iload_n 2, 1) := by decide +kernel
theorem dX12_clashesReserved_33 : decode cX12_clashesReserved 33 = .ok (.ireturn, 1) := by decide +kernel
theorem dX12_clashesReserved_14 : decode cX12_clashesReserved 14 = .ok (.iload_n 2, 1) := by decide +kernel
theorem dX12_clashesReserved_15 : decode cX12_clashesReserved 15 = .ok (.aload_n 0, 1) := by decide +kernel
theorem dX12_clashesReserved_16 : decode cX12_clashesReserved 16 = .ok (.iload_n 3, 1) := by decide +kernel
theorem dX12_clashesReserved_17 : decode cX12_clashesReserved 17 = .ok (.invokestatic 108, 3) := by decide +kernel
theorem glS_RX12_108 : GLS RX12 108 yX12_reservedAt cX12_reservedAt 1 (some .int) 1 := ⟨⟨(mT8 89 rfl rfl), (mT8 90 rfl rfl), (mT1 13 rfl rfl), (mT8 91 rfl rfl)⟩, by decide +kernel⟩
theorem dX12_clashesReserved_20 : decode cX12_clashesReserved 20 = .ok (.iload_n 1, 1) := by decide +kernel
theorem dX12_clashesReserved_21 : decode cX12_clashesReserved 21 = .ok (.invokevirtual 111, 3) := by decide +kernel
theorem rl10 : ∀ z0, z0 < 6 → SQ (154 + 5 * z0) := by unfold SQ; decide +kernel
theorem glV_RX12_111 : GLV RX12 111 yX12_doClash RX12 cX12_doClash 3 (some .boolean) 2 := ⟨⟨(mT8 78 rfl rfl), (mT8 80 rfl rfl), (mTs 42 rfl rfl), (mT1 13 rfl rfl), (mT8 81 rfl rfl)⟩, by decide +kernel⟩
theorem dX12_clashesReserved_24 : decode cX12_clashesReserved 24 = .ok (.ior, 1) := by decide +kernel
theorem dX12_clashesReserved_25 : decode cX12_clashesReserved 25 = .ok (.istore_n 2, 1) := by decide +kernel
theorem dX12_clashesReserved_26 : decode cX12_clashesReserved 26 = .ok (.iinc 3 1, 3) := by decide +kernel
theorem dX12_clashesReserved_29 : decode cX12_clashesReserved 29 = .ok (.goto (-25), 3) := by decide +kernel
set_option maxRecDepth 100000 in
set_option maxHeartbeats 4000000 in
theorem rX12_clashesReserved (l : Launch) (D : va_G) (Y : Nat → ClassId) (h0 : Nat) (h1 : Nat) (h2 : Nat) (h3 : Nat) (h4 : Nat) (h5 : Nat) (h6 : Nat) (p2 : Int32) (k5 : Nat) (k6 : Nat) (p7 : Int32) (p8 : Int32) (p9 : Int32) (k10 : Nat) (p11 : Int32) (q12 : Int64) (k15 : Nat) (k16 : Nat) (f0 : Nat → Int32) (f1 : Nat → Int32) (f3 : Nat → Int32) (f4 : Nat → Int32) (f13 : Nat → Int32) (f14 : Nat → Int32) (ph : Nat → Int32) (HI : INV ph f0) (HL : k5 ≤ 1600) (HP : PLV f13) (s0 : Nat) (hs0 : SQ s0) (sz : Nat) : Met l yX12_clashesReserved (WSm yX12_clashesReserved cX12_clashesReserved 4 (some .boolean)) (mkR 3 0 0 66) (PreC D Y [.ref h0, .int (nI s0)] [(h0, oC 13 [.ref h1, .ref h2, .int p2, .ref h3, .ref h4, .int (nI k5), .int (nI k6), .int p7, .int p8, .int p9, .int (nI k10), .int p11, .long q12, .ref h5, .ref h6, .int (nI k15), .int (nI k16)]), (h1, aI Y 3640 f0), (h2, aZ Y 2 f1), (h3, aZ Y 80 f3), (h4, aB Y 1600 f4), (h5, aI Y 200 f13), (h6, aI Y 800 f14)] sz) (QI D (fun (r : Int32) (u : WU) => (r = 0 ∨ r = 1)) (fun (u : WU) => [(h0, oC 13 [.ref h1, .ref h2, .int p2, .ref h3, .ref h4, .int (nI k5), .int (nI k6), .int p7, .int p8, .int p9, .int (nI k10), .int p11, .long q12, .ref h5, .ref h6, .int (nI k15), .int (nI k16)]), (h1, aI Y 3640 f0), (h2, aZ Y 2 f1), (h3, aZ Y 80 f3), (h4, aB Y 1600 f4), (h5, aI Y 200 f13), (h6, aI Y 800 f14)]) (va_A [(h0, oC 13 [.ref h1, .ref h2, .int p2, .ref h3, .ref h4, .int (nI k5), .int (nI k6), .int p7, .int p8, .int p9, .int (nI k10), .int p11, .long q12, .ref h5, .ref h6, .int (nI k15), .int (nI k16)]), (h1, aI Y 3640 f0), (h2, aZ Y 2 f1), (h3, aZ Y 80 f3), (h4, aB Y 1600 f4), (h5, aI Y 200 f13), (h6, aI Y 800 f14)] sz)) 0 0 (va_A [(h0, oC 13 [.ref h1, .ref h2, .int p2, .ref h3, .ref h4, .int (nI k5), .int (nI k6), .int p7, .int p8, .int p9, .int (nI k10), .int p11, .long q12, .ref h5, .ref h6, .int (nI k15), .int (nI k16)]), (h1, aI Y 3640 f0), (h2, aZ Y 2 f1), (h3, aZ Y 80 f3), (h4, aB Y 1600 f4), (h5, aI Y 200 f13), (h6, aI Y 800 f14)] sz) :=
  met_of  (by decide +kernel) (Nat.le_of_ble_eq_true rfl) (fun p e s m args below meth c B hin hsz => by
    have B : VB p s m args meth c D Y (va_A [(h0, oC 13 [.ref h1, .ref h2, .int p2, .ref h3, .ref h4, .int (nI k5), .int (nI k6), .int p7, .int p8, .int p9, .int (nI k10), .int p11, .long q12, .ref h5, .ref h6, .int (nI k15), .int (nI k16)]), (h1, aI Y 3640 f0), (h2, aZ Y 2 f1), (h3, aZ Y 80 f3), (h4, aB Y 1600 f4), (h5, aI Y 200 f13), (h6, aI Y 800 f14)] sz) cX12_clashesReserved 4 RX12 (some .boolean) := B
    have hq_s0 := hs0.1
    refine V_iconst 0 B (v := 0) dX12_clashesReserved_0 (by decide +kernel) ?_
    refine V_istore_n 1 B (lv2 := [(2, .int 0), (0, .ref h0), (1, .int (nI s0))]) dX12_clashesReserved_1 (by decide) rfl ?_
    refine V_iconst 2 B (v := 0) dX12_clashesReserved_2 (by decide +kernel) ?_
    refine V_istore_n 3 B (lv2 := [(3, .int 0), (2, .int 0), (0, .ref h0), (1, .int (nI s0))]) dX12_clashesReserved_3 (by decide) rfl ?_
    refine V_wloop (α := WU) (fun a => 100000 - (a.1 0)) (fun a => (a.1 0) ≤ 6 ∧ ((a.2.1 0) = 0 ∨ (a.2.1 0) = 1)) (fun a => [(3, .int (nI (a.1 0))), (2, .int (a.2.1 0)), (0, .ref h0), (1, .int (nI s0))]) (fun a => [(h0, oC 13 [.ref h1, .ref h2, .int p2, .ref h3, .ref h4, .int (nI k5), .int (nI k6), .int p7, .int p8, .int p9, .int (nI k10), .int p11, .long q12, .ref h5, .ref h6, .int (nI k15), .int (nI k16)]), (h1, aI Y 3640 f0), (h2, aZ Y 2 f1), (h3, aZ Y 80 f3), (h4, aB Y 1600 f4), (h5, aI Y 200 f13), (h6, aI Y 800 f14)]) (mkW [0] [0] [] [] [] []) ⟨(show 0 ≤ 6 by omega), (Or.inl rfl)⟩ rfl rfl (fun a0 hI2 IH1 => ?_)
    refine V_lv [(3, .int (nI (a0.1 0))), (2, .int (a0.2.1 0)), (0, .ref h0), (1, .int (nI s0))] [0, 1, 2, 3] rfl ?_
    refine V_ws [(h0, oC 13 [.ref h1, .ref h2, .int p2, .ref h3, .ref h4, .int (nI k5), .int (nI k6), .int p7, .int p8, .int p9, .int (nI k10), .int p11, .long q12, .ref h5, .ref h6, .int (nI k15), .int (nI k16)]), (h1, aI Y 3640 f0), (h2, aZ Y 2 f1), (h3, aZ Y 80 f3), (h4, aB Y 1600 f4), (h5, aI Y 200 f13), (h6, aI Y 800 f14)] rfl ?_
    obtain ⟨x3, x4⟩ := hI2
    rcases x4 with e5 | e5
    ·
      refine V_lv [(3, .int (nI (a0.1 0))), (2, .int 0), (0, .ref h0), (1, .int (nI s0))] [0, 1, 2, 3] (by rw [e5]; rfl) ?_
      refine V_iload_n 4 B dX12_clashesReserved_4 0 rfl ?_
      refine V_aload_n 5 B dX12_clashesReserved_5 2 rfl ?_
      refine V_get 6 B gf_RX12_9 0 rfl rfl dX12_clashesReserved_6 ?_
      refine V_iconst 9 B (v := 2) dX12_clashesReserved_9 (by decide +kernel) ?_
      have x6 : (gN f0 2) ≤ 6 := gN_le HI (by omega) (show bd 2 = (0, ((6 : Nat) : Int)) by decide +kernel)
      refine V_iald 10 B (v := (nI (gN f0 2))) 1 rfl (vpin _ _ (by decide +kernel)) dX12_clashesReserved_10 (by show f0 2 = _; exact gN_eq HI (by omega) (show bd 2 = (0, ((6 : Nat) : Int)) by decide +kernel)) ?_
      refine V_icmp_ge 11 B 32 dX12_clashesReserved_11 (by decide) (fun kk7 => ?_) (fun kk7 => ?_)
      ·
        have x8 := n_le (a := (gN f0 2)) (b := (a0.1 0)) kk7 (by omega) (by omega)
        refine V_iload_n 32 B dX12_clashesReserved_32 1 rfl ?_
        exact V_zret 33 B rfl dX12_clashesReserved_33 (mkW [] [] [] [] [] []) (Or.inl rfl) rfl
      ·
        have x9 := n_nle (a := (gN f0 2)) (b := (a0.1 0)) kk7 (by omega) (by omega)
        refine V_iload_n 14 B dX12_clashesReserved_14 1 rfl ?_
        refine V_aload_n 15 B dX12_clashesReserved_15 2 rfl ?_
        refine V_iload_n 16 B dX12_clashesReserved_16 0 rfl ?_
        refine V_csi 17 B (st := [.ref h0, .int 0]) (As := [.int (nI (a0.1 0))]) (fun sz => rX12_reservedAt l D Y (a0.1 0) (by omega) sz) glS_RX12_108 ⟨rfl, rfl⟩ ⟨(Nat.le_of_ble_eq_true rfl), (Nat.le_of_ble_eq_true rfl)⟩ ⟨(Nat.le_of_ble_eq_true rfl), (Nat.le_of_ble_eq_true rfl)⟩ [] rfl rfl (Nat.le_of_ble_eq_true rfl) rfl (fun _ _ _ => rfl) dX12_clashesReserved_17 (fun j10 u11 w12 => ?_)
        refine V_ws [(h0, oC 13 [.ref h1, .ref h2, .int p2, .ref h3, .ref h4, .int (nI k5), .int (nI k6), .int p7, .int p8, .int p9, .int (nI k10), .int p11, .long q12, .ref h5, .ref h6, .int (nI k15), .int (nI k16)]), (h1, aI Y 3640 f0), (h2, aZ Y 2 f1), (h3, aZ Y 80 f3), (h4, aB Y 1600 f4), (h5, aI Y 200 f13), (h6, aI Y 800 f14)] rfl ?_
        have x13 := w12
        clear w12
        obtain rfl := x13
        refine V_iload_n 20 B dX12_clashesReserved_20 3 rfl ?_
        refine V_cvi 21 B (st := [.int 0]) (As := [.int (nI (154 + 5 * (a0.1 0))), .int (nI s0)]) (fun sz => rX12_doClash l D Y h0 h1 h2 h3 h4 h5 h6 p2 k5 k6 p7 p8 p9 k10 p11 q12 k15 k16 f0 f1 f3 f4 f13 f14 ph HI (by omega) HP (154 + 5 * (a0.1 0)) s0 (rl10 (a0.1 0) (by omega)) hs0 sz) glV_RX12_111 ⟨rfl, rfl⟩ ⟨(Nat.le_of_ble_eq_true rfl), (Nat.le_of_ble_eq_true rfl)⟩ ⟨(Nat.le_of_ble_eq_true rfl), (Nat.le_of_ble_eq_true rfl)⟩ [0, 0, 0, 0, 0, 0, 0] rfl 13 0 rfl rfl rfl rfl (Nat.le_of_ble_eq_true rfl) rfl (fun _ _ _ => rfl) dX12_clashesReserved_21 (fun j14 u15 w16 => ?_)
        refine V_ws [(h0, oC 13 [.ref h1, .ref h2, .int p2, .ref h3, .ref h4, .int (nI k5), .int (nI k6), .int p7, .int p8, .int p9, .int (nI k10), .int p11, .long q12, .ref h5, .ref h6, .int (nI k15), .int (nI k16)]), (h1, aI Y 3640 f0), (h2, aZ Y 2 f1), (h3, aZ Y 80 f3), (h4, aB Y 1600 f4), (h5, aI Y 200 f13), (h6, aI Y 800 f14)] rfl ?_
        have x17 := w16
        clear w16
        rcases x17 with ⟨rfl, x18⟩ | ⟨rfl, x18⟩
        ·
          refine V_ior 24 B (v := 0) dX12_clashesReserved_24 (by decide +kernel) ?_
          refine V_istore_n 25 B (lv2 := [(2, .int 0), (3, .int (nI (a0.1 0))), (0, .ref h0), (1, .int (nI s0))]) dX12_clashesReserved_25 (by decide) rfl ?_
          refine V_iinc 26 B (v := (nI (1 + (a0.1 0)))) (lv2 := [(3, .int (nI (1 + (a0.1 0)))), (2, .int 0), (0, .ref h0), (1, .int (nI s0))]) dX12_clashesReserved_26 1 rfl (nI_addE (a := (a0.1 0)) (b := 1) (by omega)) (by decide) rfl ?_
          refine V_goto 29 B 4 dX12_clashesReserved_29 (by decide) ?_
          refine V_lv [(3, .int (nI (1 + (a0.1 0)))), (2, .int 0), (0, .ref h0), (1, .int (nI s0))] [0, 1, 2, 3] rfl ?_
          exact IH1 (mkW [1 + (a0.1 0)] [0] [] [] [] []) ⟨(show 1 + (a0.1 0) ≤ 6 by omega), (Or.inl rfl)⟩ (by show 100000 - (1 + (a0.1 0)) < 100000 - (a0.1 0); omega)
        ·
          refine V_ior 24 B (v := 1) dX12_clashesReserved_24 (by decide +kernel) ?_
          refine V_istore_n 25 B (lv2 := [(2, .int 1), (3, .int (nI (a0.1 0))), (0, .ref h0), (1, .int (nI s0))]) dX12_clashesReserved_25 (by decide) rfl ?_
          refine V_iinc 26 B (v := (nI (1 + (a0.1 0)))) (lv2 := [(3, .int (nI (1 + (a0.1 0)))), (2, .int 1), (0, .ref h0), (1, .int (nI s0))]) dX12_clashesReserved_26 1 rfl (nI_addE (a := (a0.1 0)) (b := 1) (by omega)) (by decide) rfl ?_
          refine V_goto 29 B 4 dX12_clashesReserved_29 (by decide) ?_
          refine V_lv [(3, .int (nI (1 + (a0.1 0)))), (2, .int 1), (0, .ref h0), (1, .int (nI s0))] [0, 1, 2, 3] rfl ?_
          exact IH1 (mkW [1 + (a0.1 0)] [1] [] [] [] []) ⟨(show 1 + (a0.1 0) ≤ 6 by omega), (Or.inr rfl)⟩ (by show 100000 - (1 + (a0.1 0)) < 100000 - (a0.1 0); omega)
    ·
      refine V_lv [(3, .int (nI (a0.1 0))), (2, .int 1), (0, .ref h0), (1, .int (nI s0))] [0, 1, 2, 3] (by rw [e5]; rfl) ?_
      refine V_iload_n 4 B dX12_clashesReserved_4 0 rfl ?_
      refine V_aload_n 5 B dX12_clashesReserved_5 2 rfl ?_
      refine V_get 6 B gf_RX12_9 0 rfl rfl dX12_clashesReserved_6 ?_
      refine V_iconst 9 B (v := 2) dX12_clashesReserved_9 (by decide +kernel) ?_
      have x19 : (gN f0 2) ≤ 6 := gN_le HI (by omega) (show bd 2 = (0, ((6 : Nat) : Int)) by decide +kernel)
      refine V_iald 10 B (v := (nI (gN f0 2))) 1 rfl (vpin _ _ (by decide +kernel)) dX12_clashesReserved_10 (by show f0 2 = _; exact gN_eq HI (by omega) (show bd 2 = (0, ((6 : Nat) : Int)) by decide +kernel)) ?_
      refine V_icmp_ge 11 B 32 dX12_clashesReserved_11 (by decide) (fun kk20 => ?_) (fun kk20 => ?_)
      ·
        have x21 := n_le (a := (gN f0 2)) (b := (a0.1 0)) kk20 (by omega) (by omega)
        refine V_iload_n 32 B dX12_clashesReserved_32 1 rfl ?_
        exact V_zret 33 B rfl dX12_clashesReserved_33 (mkW [] [] [] [] [] []) (Or.inr rfl) rfl
      ·
        have x22 := n_nle (a := (gN f0 2)) (b := (a0.1 0)) kk20 (by omega) (by omega)
        refine V_iload_n 14 B dX12_clashesReserved_14 1 rfl ?_
        refine V_aload_n 15 B dX12_clashesReserved_15 2 rfl ?_
        refine V_iload_n 16 B dX12_clashesReserved_16 0 rfl ?_
        refine V_csi 17 B (st := [.ref h0, .int 1]) (As := [.int (nI (a0.1 0))]) (fun sz => rX12_reservedAt l D Y (a0.1 0) (by omega) sz) glS_RX12_108 ⟨rfl, rfl⟩ ⟨(Nat.le_of_ble_eq_true rfl), (Nat.le_of_ble_eq_true rfl)⟩ ⟨(Nat.le_of_ble_eq_true rfl), (Nat.le_of_ble_eq_true rfl)⟩ [] rfl rfl (Nat.le_of_ble_eq_true rfl) rfl (fun _ _ _ => rfl) dX12_clashesReserved_17 (fun j23 u24 w25 => ?_)
        refine V_ws [(h0, oC 13 [.ref h1, .ref h2, .int p2, .ref h3, .ref h4, .int (nI k5), .int (nI k6), .int p7, .int p8, .int p9, .int (nI k10), .int p11, .long q12, .ref h5, .ref h6, .int (nI k15), .int (nI k16)]), (h1, aI Y 3640 f0), (h2, aZ Y 2 f1), (h3, aZ Y 80 f3), (h4, aB Y 1600 f4), (h5, aI Y 200 f13), (h6, aI Y 800 f14)] rfl ?_
        have x26 := w25
        clear w25
        obtain rfl := x26
        refine V_iload_n 20 B dX12_clashesReserved_20 3 rfl ?_
        refine V_cvi 21 B (st := [.int 1]) (As := [.int (nI (154 + 5 * (a0.1 0))), .int (nI s0)]) (fun sz => rX12_doClash l D Y h0 h1 h2 h3 h4 h5 h6 p2 k5 k6 p7 p8 p9 k10 p11 q12 k15 k16 f0 f1 f3 f4 f13 f14 ph HI (by omega) HP (154 + 5 * (a0.1 0)) s0 (rl10 (a0.1 0) (by omega)) hs0 sz) glV_RX12_111 ⟨rfl, rfl⟩ ⟨(Nat.le_of_ble_eq_true rfl), (Nat.le_of_ble_eq_true rfl)⟩ ⟨(Nat.le_of_ble_eq_true rfl), (Nat.le_of_ble_eq_true rfl)⟩ [0, 0, 0, 0, 0, 0, 0] rfl 13 0 rfl rfl rfl rfl (Nat.le_of_ble_eq_true rfl) rfl (fun _ _ _ => rfl) dX12_clashesReserved_21 (fun j27 u28 w29 => ?_)
        refine V_ws [(h0, oC 13 [.ref h1, .ref h2, .int p2, .ref h3, .ref h4, .int (nI k5), .int (nI k6), .int p7, .int p8, .int p9, .int (nI k10), .int p11, .long q12, .ref h5, .ref h6, .int (nI k15), .int (nI k16)]), (h1, aI Y 3640 f0), (h2, aZ Y 2 f1), (h3, aZ Y 80 f3), (h4, aB Y 1600 f4), (h5, aI Y 200 f13), (h6, aI Y 800 f14)] rfl ?_
        have x30 := w29
        clear w29
        rcases x30 with ⟨rfl, x31⟩ | ⟨rfl, x31⟩
        ·
          refine V_ior 24 B (v := 1) dX12_clashesReserved_24 (by decide +kernel) ?_
          refine V_istore_n 25 B (lv2 := [(2, .int 1), (3, .int (nI (a0.1 0))), (0, .ref h0), (1, .int (nI s0))]) dX12_clashesReserved_25 (by decide) rfl ?_
          refine V_iinc 26 B (v := (nI (1 + (a0.1 0)))) (lv2 := [(3, .int (nI (1 + (a0.1 0)))), (2, .int 1), (0, .ref h0), (1, .int (nI s0))]) dX12_clashesReserved_26 1 rfl (nI_addE (a := (a0.1 0)) (b := 1) (by omega)) (by decide) rfl ?_
          refine V_goto 29 B 4 dX12_clashesReserved_29 (by decide) ?_
          refine V_lv [(3, .int (nI (1 + (a0.1 0)))), (2, .int 1), (0, .ref h0), (1, .int (nI s0))] [0, 1, 2, 3] rfl ?_
          exact IH1 (mkW [1 + (a0.1 0)] [1] [] [] [] []) ⟨(show 1 + (a0.1 0) ≤ 6 by omega), (Or.inr rfl)⟩ (by show 100000 - (1 + (a0.1 0)) < 100000 - (a0.1 0); omega)
        ·
          refine V_ior 24 B (v := 1) dX12_clashesReserved_24 (by decide +kernel) ?_
          refine V_istore_n 25 B (lv2 := [(2, .int 1), (3, .int (nI (a0.1 0))), (0, .ref h0), (1, .int (nI s0))]) dX12_clashesReserved_25 (by decide) rfl ?_
          refine V_iinc 26 B (v := (nI (1 + (a0.1 0)))) (lv2 := [(3, .int (nI (1 + (a0.1 0)))), (2, .int 1), (0, .ref h0), (1, .int (nI s0))]) dX12_clashesReserved_26 1 rfl (nI_addE (a := (a0.1 0)) (b := 1) (by omega)) (by decide) rfl ?_
          refine V_goto 29 B 4 dX12_clashesReserved_29 (by decide) ?_
          refine V_lv [(3, .int (nI (1 + (a0.1 0)))), (2, .int 1), (0, .ref h0), (1, .int (nI s0))] [0, 1, 2, 3] rfl ?_
          exact IH1 (mkW [1 + (a0.1 0)] [1] [] [] [] []) ⟨(show 1 + (a0.1 0) ≤ 6 by omega), (Or.inr rfl)⟩ (by show 100000 - (1 + (a0.1 0)) < 100000 - (a0.1 0); omega))
