theorem dX12_inRange_0 : decode cX12_inRange 0 = .ok (.lload_n 0, 1) := by decide +kernel
theorem dX12_inRange_1 : decode cX12_inRange 1 = .ok (.lload_n 2, 1) := by decide +kernel
theorem dX12_inRange_2 : decode cX12_inRange 2 = .ok (.lcmp, 1) := by decide +kernel
theorem dX12_inRange_3 : decode cX12_inRange 3 = .ok (.ifCond .lt 14, 3) := by decide +kernel
theorem dX12_inRange_6 : decode cX12_inRange 6 = .ok (.lload_n 0, 1) := by decide +kernel
theorem dX12_inRange_7 : decode cX12_inRange 7 = .ok (.lload 4, 2) := by decide +kernel
theorem dX12_inRange_9 : decode cX12_inRange 9 = .ok (.lcmp, 1) := by decide +kernel
theorem dX12_inRange_10 : decode cX12_inRange 10 = .ok (.ifCond .gt 7, 3) := by decide +kernel
theorem dX12_inRange_13 : decode cX12_inRange 13 = .ok (.iconst 1, 1) := by decide +kernel
theorem dX12_inRange_14 : decode cX12_inRange 14 = .ok (.goto 4, 3) := by decide +kernel
theorem dX12_inRange_17 : decode cX12_inRange 17 = .ok (.iconst 0, 1) := by decide +kernel
theorem dX12_inRange_18 : decode cX12_inRange 18 = .ok (.ireturn, 1) := by decide +kernel
set_option maxHeartbeats 4000000 in
theorem rX12_inRange (l : Launch) (D : va_G) (Y : Nat → ClassId) (v lo hi : Int64) (sz : Nat) : Met l yX12_inRange (WSm yX12_inRange cX12_inRange 6 (some .boolean)) (mkR 0 0 0 0) (PreC D Y [.long v, .long lo, .long hi] [] sz) (QI D (fun (r : Int32) (_ : WU) => r = 0 ∨ (r = 1 ∧ lo.toInt ≤ v.toInt ∧ v.toInt ≤ hi.toInt)) (fun (_ : WU) => []) (va_A [] sz)) 0 0 (va_A [] sz) :=
  met_of (by decide +kernel) (Nat.le_of_ble_eq_true rfl) (fun p e s m args below meth c B hin hsz => by
    have B : VB p s m args meth c D Y (va_A [] sz) cX12_inRange 6 RX12 (some .boolean) := B
    refine V_lload_n 0 B dX12_inRange_0 0 rfl ?_
    refine V_lload_n 1 B dX12_inRange_1 1 rfl ?_
    refine V_lcmp 2 B dX12_inRange_2 rfl ?_
    refine V_if_lt 3 B 17 dX12_inRange_3 (by decide) (fun k1 => ?_) (fun k1 => ?_)
    · refine V_iconst 17 B (v := 0) dX12_inRange_17 (by decide +kernel) ?_
      exact V_zret 18 B rfl dX12_inRange_18 (mkW [] [] [] [] [] []) (Or.inl rfl) rfl
    · refine V_lload_n 6 B dX12_inRange_6 0 rfl ?_
      refine V_lload 7 B dX12_inRange_7 2 rfl ?_
      refine V_lcmp 9 B dX12_inRange_9 rfl ?_
      refine V_if_gt 10 B 17 dX12_inRange_10 (by decide) (fun k2 => ?_) (fun k2 => ?_)
      · refine V_iconst 17 B (v := 0) dX12_inRange_17 (by decide +kernel) ?_
        exact V_zret 18 B rfl dX12_inRange_18 (mkW [] [] [] [] [] []) (Or.inl rfl) rfl
      · refine V_iconst 13 B (v := 1) dX12_inRange_13 (by decide +kernel) ?_
        refine V_goto 14 B 18 dX12_inRange_14 (by decide) ?_
        exact V_zret 18 B rfl dX12_inRange_18 (mkW [] [] [] [] [] []) (Or.inr ⟨rfl, lc_nltL k1, lc_ngtL k2⟩) rfl)
theorem dX12_strokeCost_0 : decode cX12_strokeCost 0 = .ok (.iload_n 0, 1) := by decide +kernel
theorem dX12_strokeCost_1 : decode cX12_strokeCost 1 = .ok (.bipush 32, 2) := by decide +kernel
theorem dX12_strokeCost_3 : decode cX12_strokeCost 3 = .ok (.irem, 1) := by decide +kernel
theorem dX12_strokeCost_4 : decode cX12_strokeCost 4 = .ok (.invokestatic 51, 3) := by decide +kernel
theorem dX12_keyCost_0 : decode cX12_keyCost 0 = .ok (.bipush 97, 2) := by decide +kernel
theorem dX12_keyCost_2 : decode cX12_keyCost 2 = .ok (.iload_n 0, 1) := by decide +kernel
theorem dX12_keyCost_3 : decode cX12_keyCost 3 = .ok (.iadd, 1) := by decide +kernel
theorem dX12_keyCost_4 : decode cX12_keyCost 4 = .ok (.tableswitch 120 97 121 #[116, 120, 120, 116, 118, 116, 116, 116, 118, 116, 116, 116, 120, 120, 118, 118, 118, 118, 116, 118, 118, 120, 118, 120, 118], 116) := by decide +kernel
theorem dX12_keyCost_120 : decode cX12_keyCost 120 = .ok (.iconst 1, 1) := by decide +kernel
theorem dX12_keyCost_121 : decode cX12_keyCost 121 = .ok (.ireturn, 1) := by decide +kernel
theorem dX12_keyCost_124 : decode cX12_keyCost 124 = .ok (.iconst 3, 1) := by decide +kernel
theorem dX12_keyCost_125 : decode cX12_keyCost 125 = .ok (.ireturn, 1) := by decide +kernel
theorem dX12_keyCost_122 : decode cX12_keyCost 122 = .ok (.iconst 2, 1) := by decide +kernel
theorem dX12_keyCost_123 : decode cX12_keyCost 123 = .ok (.ireturn, 1) := by decide +kernel
theorem sw_out_97_121 {x : Int32} (h97 : ¬ x = 97) (h98 : ¬ x = 98) (h99 : ¬ x = 99) (h100 : ¬ x = 100) (h101 : ¬ x = 101) (h102 : ¬ x = 102) (h103 : ¬ x = 103) (h104 : ¬ x = 104) (h105 : ¬ x = 105) (h106 : ¬ x = 106) (h107 : ¬ x = 107) (h108 : ¬ x = 108) (h109 : ¬ x = 109) (h110 : ¬ x = 110) (h111 : ¬ x = 111) (h112 : ¬ x = 112) (h113 : ¬ x = 113) (h114 : ¬ x = 114) (h115 : ¬ x = 115) (h116 : ¬ x = 116) (h117 : ¬ x = 117) (h118 : ¬ x = 118) (h119 : ¬ x = 119) (h120 : ¬ x = 120) (h121 : ¬ x = 121) : x.toInt < 97 ∨ 121 < x.toInt := by
  have e97 := neT (n := 97) h97 (by decide +kernel)
  have e98 := neT (n := 98) h98 (by decide +kernel)
  have e99 := neT (n := 99) h99 (by decide +kernel)
  have e100 := neT (n := 100) h100 (by decide +kernel)
  have e101 := neT (n := 101) h101 (by decide +kernel)
  have e102 := neT (n := 102) h102 (by decide +kernel)
  have e103 := neT (n := 103) h103 (by decide +kernel)
  have e104 := neT (n := 104) h104 (by decide +kernel)
  have e105 := neT (n := 105) h105 (by decide +kernel)
  have e106 := neT (n := 106) h106 (by decide +kernel)
  have e107 := neT (n := 107) h107 (by decide +kernel)
  have e108 := neT (n := 108) h108 (by decide +kernel)
  have e109 := neT (n := 109) h109 (by decide +kernel)
  have e110 := neT (n := 110) h110 (by decide +kernel)
  have e111 := neT (n := 111) h111 (by decide +kernel)
  have e112 := neT (n := 112) h112 (by decide +kernel)
  have e113 := neT (n := 113) h113 (by decide +kernel)
  have e114 := neT (n := 114) h114 (by decide +kernel)
  have e115 := neT (n := 115) h115 (by decide +kernel)
  have e116 := neT (n := 116) h116 (by decide +kernel)
  have e117 := neT (n := 117) h117 (by decide +kernel)
  have e118 := neT (n := 118) h118 (by decide +kernel)
  have e119 := neT (n := 119) h119 (by decide +kernel)
  have e120 := neT (n := 120) h120 (by decide +kernel)
  have e121 := neT (n := 121) h121 (by decide +kernel)
  omega
set_option maxRecDepth 100000 in
set_option maxHeartbeats 4000000 in
theorem rX12_keyCost (l : Launch) (D : va_G) (Y : Nat → ClassId)  (s0 : Int32)  (sz : Nat) : Met l yX12_keyCost (WSm yX12_keyCost cX12_keyCost 1 (some .int)) (mkR 0 0 0 0) (PreC D Y [.int s0] [] sz) (QI D (fun (r : Int32) (u : WU) => True) (fun (u : WU) => []) (va_A [] sz)) 0 0 (va_A [] sz) :=
  met_of (by decide +kernel) (Nat.le_of_ble_eq_true rfl) (fun p e s m args below meth c B hin hsz => by
    have B : VB p s m args meth c D Y (va_A [] sz) cX12_keyCost 1 RX12 (some .int) := B
    refine V_bipush 0 B (v := 97) dX12_keyCost_0 (by decide +kernel) ?_
    refine V_iload_n 2 B dX12_keyCost_2 0 rfl ?_
    refine V_iadd 3 B dX12_keyCost_3 rfl ?_
    refine V_nmi (fun j0 _ => ?_)
    by_cases k1 : j0 = 97
    ·
      refine V_eqi _ 97 k1 ?_
      refine V_tableIn 4 B 120 dX12_keyCost_4 (by decide +kernel) (by decide +kernel) (off := 116) (by decide +kernel) (by decide) ?_
      refine V_iconst 120 B (v := 1) dX12_keyCost_120 (by decide +kernel) ?_
      exact V_iret 121 B dX12_keyCost_121 (mkW [] [] [] [] [] []) trivial rfl
    ·
      by_cases k2 : j0 = 98
      ·
        refine V_eqi _ 98 k2 ?_
        refine V_tableIn 4 B 124 dX12_keyCost_4 (by decide +kernel) (by decide +kernel) (off := 120) (by decide +kernel) (by decide) ?_
        refine V_iconst 124 B (v := 3) dX12_keyCost_124 (by decide +kernel) ?_
        exact V_iret 125 B dX12_keyCost_125 (mkW [] [] [] [] [] []) trivial rfl
      ·
        by_cases k3 : j0 = 99
        ·
          refine V_eqi _ 99 k3 ?_
          refine V_tableIn 4 B 124 dX12_keyCost_4 (by decide +kernel) (by decide +kernel) (off := 120) (by decide +kernel) (by decide) ?_
          refine V_iconst 124 B (v := 3) dX12_keyCost_124 (by decide +kernel) ?_
          exact V_iret 125 B dX12_keyCost_125 (mkW [] [] [] [] [] []) trivial rfl
        ·
          by_cases k4 : j0 = 100
          ·
            refine V_eqi _ 100 k4 ?_
            refine V_tableIn 4 B 120 dX12_keyCost_4 (by decide +kernel) (by decide +kernel) (off := 116) (by decide +kernel) (by decide) ?_
            refine V_iconst 120 B (v := 1) dX12_keyCost_120 (by decide +kernel) ?_
            exact V_iret 121 B dX12_keyCost_121 (mkW [] [] [] [] [] []) trivial rfl
          ·
            by_cases k5 : j0 = 101
            ·
              refine V_eqi _ 101 k5 ?_
              refine V_tableIn 4 B 122 dX12_keyCost_4 (by decide +kernel) (by decide +kernel) (off := 118) (by decide +kernel) (by decide) ?_
              refine V_iconst 122 B (v := 2) dX12_keyCost_122 (by decide +kernel) ?_
              exact V_iret 123 B dX12_keyCost_123 (mkW [] [] [] [] [] []) trivial rfl
            ·
              by_cases k6 : j0 = 102
              ·
                refine V_eqi _ 102 k6 ?_
                refine V_tableIn 4 B 120 dX12_keyCost_4 (by decide +kernel) (by decide +kernel) (off := 116) (by decide +kernel) (by decide) ?_
                refine V_iconst 120 B (v := 1) dX12_keyCost_120 (by decide +kernel) ?_
                exact V_iret 121 B dX12_keyCost_121 (mkW [] [] [] [] [] []) trivial rfl
              ·
                by_cases k7 : j0 = 103
                ·
                  refine V_eqi _ 103 k7 ?_
                  refine V_tableIn 4 B 120 dX12_keyCost_4 (by decide +kernel) (by decide +kernel) (off := 116) (by decide +kernel) (by decide) ?_
                  refine V_iconst 120 B (v := 1) dX12_keyCost_120 (by decide +kernel) ?_
                  exact V_iret 121 B dX12_keyCost_121 (mkW [] [] [] [] [] []) trivial rfl
                ·
                  by_cases k8 : j0 = 104
                  ·
                    refine V_eqi _ 104 k8 ?_
                    refine V_tableIn 4 B 120 dX12_keyCost_4 (by decide +kernel) (by decide +kernel) (off := 116) (by decide +kernel) (by decide) ?_
                    refine V_iconst 120 B (v := 1) dX12_keyCost_120 (by decide +kernel) ?_
                    exact V_iret 121 B dX12_keyCost_121 (mkW [] [] [] [] [] []) trivial rfl
                  ·
                    by_cases k9 : j0 = 105
                    ·
                      refine V_eqi _ 105 k9 ?_
                      refine V_tableIn 4 B 122 dX12_keyCost_4 (by decide +kernel) (by decide +kernel) (off := 118) (by decide +kernel) (by decide) ?_
                      refine V_iconst 122 B (v := 2) dX12_keyCost_122 (by decide +kernel) ?_
                      exact V_iret 123 B dX12_keyCost_123 (mkW [] [] [] [] [] []) trivial rfl
                    ·
                      by_cases k10 : j0 = 106
                      ·
                        refine V_eqi _ 106 k10 ?_
                        refine V_tableIn 4 B 120 dX12_keyCost_4 (by decide +kernel) (by decide +kernel) (off := 116) (by decide +kernel) (by decide) ?_
                        refine V_iconst 120 B (v := 1) dX12_keyCost_120 (by decide +kernel) ?_
                        exact V_iret 121 B dX12_keyCost_121 (mkW [] [] [] [] [] []) trivial rfl
                      ·
                        by_cases k11 : j0 = 107
                        ·
                          refine V_eqi _ 107 k11 ?_
                          refine V_tableIn 4 B 120 dX12_keyCost_4 (by decide +kernel) (by decide +kernel) (off := 116) (by decide +kernel) (by decide) ?_
                          refine V_iconst 120 B (v := 1) dX12_keyCost_120 (by decide +kernel) ?_
                          exact V_iret 121 B dX12_keyCost_121 (mkW [] [] [] [] [] []) trivial rfl
                        ·
                          by_cases k12 : j0 = 108
                          ·
                            refine V_eqi _ 108 k12 ?_
                            refine V_tableIn 4 B 120 dX12_keyCost_4 (by decide +kernel) (by decide +kernel) (off := 116) (by decide +kernel) (by decide) ?_
                            refine V_iconst 120 B (v := 1) dX12_keyCost_120 (by decide +kernel) ?_
                            exact V_iret 121 B dX12_keyCost_121 (mkW [] [] [] [] [] []) trivial rfl
                          ·
                            by_cases k13 : j0 = 109
                            ·
                              refine V_eqi _ 109 k13 ?_
                              refine V_tableIn 4 B 124 dX12_keyCost_4 (by decide +kernel) (by decide +kernel) (off := 120) (by decide +kernel) (by decide) ?_
                              refine V_iconst 124 B (v := 3) dX12_keyCost_124 (by decide +kernel) ?_
                              exact V_iret 125 B dX12_keyCost_125 (mkW [] [] [] [] [] []) trivial rfl
                            ·
                              by_cases k14 : j0 = 110
                              ·
                                refine V_eqi _ 110 k14 ?_
                                refine V_tableIn 4 B 124 dX12_keyCost_4 (by decide +kernel) (by decide +kernel) (off := 120) (by decide +kernel) (by decide) ?_
                                refine V_iconst 124 B (v := 3) dX12_keyCost_124 (by decide +kernel) ?_
                                exact V_iret 125 B dX12_keyCost_125 (mkW [] [] [] [] [] []) trivial rfl
                              ·
                                by_cases k15 : j0 = 111
                                ·
                                  refine V_eqi _ 111 k15 ?_
                                  refine V_tableIn 4 B 122 dX12_keyCost_4 (by decide +kernel) (by decide +kernel) (off := 118) (by decide +kernel) (by decide) ?_
                                  refine V_iconst 122 B (v := 2) dX12_keyCost_122 (by decide +kernel) ?_
                                  exact V_iret 123 B dX12_keyCost_123 (mkW [] [] [] [] [] []) trivial rfl
                                ·
                                  by_cases k16 : j0 = 112
                                  ·
                                    refine V_eqi _ 112 k16 ?_
                                    refine V_tableIn 4 B 122 dX12_keyCost_4 (by decide +kernel) (by decide +kernel) (off := 118) (by decide +kernel) (by decide) ?_
                                    refine V_iconst 122 B (v := 2) dX12_keyCost_122 (by decide +kernel) ?_
                                    exact V_iret 123 B dX12_keyCost_123 (mkW [] [] [] [] [] []) trivial rfl
                                  ·
                                    by_cases k17 : j0 = 113
                                    ·
                                      refine V_eqi _ 113 k17 ?_
                                      refine V_tableIn 4 B 122 dX12_keyCost_4 (by decide +kernel) (by decide +kernel) (off := 118) (by decide +kernel) (by decide) ?_
                                      refine V_iconst 122 B (v := 2) dX12_keyCost_122 (by decide +kernel) ?_
                                      exact V_iret 123 B dX12_keyCost_123 (mkW [] [] [] [] [] []) trivial rfl
                                    ·
                                      by_cases k18 : j0 = 114
                                      ·
                                        refine V_eqi _ 114 k18 ?_
                                        refine V_tableIn 4 B 122 dX12_keyCost_4 (by decide +kernel) (by decide +kernel) (off := 118) (by decide +kernel) (by decide) ?_
                                        refine V_iconst 122 B (v := 2) dX12_keyCost_122 (by decide +kernel) ?_
                                        exact V_iret 123 B dX12_keyCost_123 (mkW [] [] [] [] [] []) trivial rfl
                                      ·
                                        by_cases k19 : j0 = 115
                                        ·
                                          refine V_eqi _ 115 k19 ?_
                                          refine V_tableIn 4 B 120 dX12_keyCost_4 (by decide +kernel) (by decide +kernel) (off := 116) (by decide +kernel) (by decide) ?_
                                          refine V_iconst 120 B (v := 1) dX12_keyCost_120 (by decide +kernel) ?_
                                          exact V_iret 121 B dX12_keyCost_121 (mkW [] [] [] [] [] []) trivial rfl
                                        ·
                                          by_cases k20 : j0 = 116
                                          ·
                                            refine V_eqi _ 116 k20 ?_
                                            refine V_tableIn 4 B 122 dX12_keyCost_4 (by decide +kernel) (by decide +kernel) (off := 118) (by decide +kernel) (by decide) ?_
                                            refine V_iconst 122 B (v := 2) dX12_keyCost_122 (by decide +kernel) ?_
                                            exact V_iret 123 B dX12_keyCost_123 (mkW [] [] [] [] [] []) trivial rfl
                                          ·
                                            by_cases k21 : j0 = 117
                                            ·
                                              refine V_eqi _ 117 k21 ?_
                                              refine V_tableIn 4 B 122 dX12_keyCost_4 (by decide +kernel) (by decide +kernel) (off := 118) (by decide +kernel) (by decide) ?_
                                              refine V_iconst 122 B (v := 2) dX12_keyCost_122 (by decide +kernel) ?_
                                              exact V_iret 123 B dX12_keyCost_123 (mkW [] [] [] [] [] []) trivial rfl
                                            ·
                                              by_cases k22 : j0 = 118
                                              ·
                                                refine V_eqi _ 118 k22 ?_
                                                refine V_tableIn 4 B 124 dX12_keyCost_4 (by decide +kernel) (by decide +kernel) (off := 120) (by decide +kernel) (by decide) ?_
                                                refine V_iconst 124 B (v := 3) dX12_keyCost_124 (by decide +kernel) ?_
                                                exact V_iret 125 B dX12_keyCost_125 (mkW [] [] [] [] [] []) trivial rfl
                                              ·
                                                by_cases k23 : j0 = 119
                                                ·
                                                  refine V_eqi _ 119 k23 ?_
                                                  refine V_tableIn 4 B 122 dX12_keyCost_4 (by decide +kernel) (by decide +kernel) (off := 118) (by decide +kernel) (by decide) ?_
                                                  refine V_iconst 122 B (v := 2) dX12_keyCost_122 (by decide +kernel) ?_
                                                  exact V_iret 123 B dX12_keyCost_123 (mkW [] [] [] [] [] []) trivial rfl
                                                ·
                                                  by_cases k24 : j0 = 120
                                                  ·
                                                    refine V_eqi _ 120 k24 ?_
                                                    refine V_tableIn 4 B 124 dX12_keyCost_4 (by decide +kernel) (by decide +kernel) (off := 120) (by decide +kernel) (by decide) ?_
                                                    refine V_iconst 124 B (v := 3) dX12_keyCost_124 (by decide +kernel) ?_
                                                    exact V_iret 125 B dX12_keyCost_125 (mkW [] [] [] [] [] []) trivial rfl
                                                  ·
                                                    by_cases k25 : j0 = 121
                                                    ·
                                                      refine V_eqi _ 121 k25 ?_
                                                      refine V_tableIn 4 B 122 dX12_keyCost_4 (by decide +kernel) (by decide +kernel) (off := 118) (by decide +kernel) (by decide) ?_
                                                      refine V_iconst 122 B (v := 2) dX12_keyCost_122 (by decide +kernel) ?_
                                                      exact V_iret 123 B dX12_keyCost_123 (mkW [] [] [] [] [] []) trivial rfl
                                                    ·
                                                      refine V_tableOut 4 B 124 dX12_keyCost_4 (sw_out_97_121 k1 k2 k3 k4 k5 k6 k7 k8 k9 k10 k11 k12 k13 k14 k15 k16 k17 k18 k19 k20 k21 k22 k23 k24 k25) (by decide) ?_
                                                      refine V_iconst 124 B (v := 3) dX12_keyCost_124 (by decide +kernel) ?_
                                                      exact V_iret 125 B dX12_keyCost_125 (mkW [] [] [] [] [] []) trivial rfl)
theorem glS_RX12_51 : GLS RX12 51 yX12_keyCost cX12_keyCost 1 (some .int) 1 := ⟨⟨(mT8 0 rfl rfl), (mT8 1 rfl rfl), (mT1 13 rfl rfl), (mT8 2 rfl rfl)⟩, by decide +kernel⟩
theorem dX12_strokeCost_7 : decode cX12_strokeCost 7 = .ok (.istore_n 1, 1) := by decide +kernel
theorem dX12_strokeCost_8 : decode cX12_strokeCost 8 = .ok (.iload_n 0, 1) := by decide +kernel
theorem dX12_strokeCost_9 : decode cX12_strokeCost 9 = .ok (.bipush 32, 2) := by decide +kernel
theorem dX12_strokeCost_11 : decode cX12_strokeCost 11 = .ok (.idiv, 1) := by decide +kernel
theorem dX12_strokeCost_12 : decode cX12_strokeCost 12 = .ok (.istore_n 2, 1) := by decide +kernel
theorem dX12_strokeCost_13 : decode cX12_strokeCost 13 = .ok (.iload_n 2, 1) := by decide +kernel
theorem dX12_strokeCost_14 : decode cX12_strokeCost 14 = .ok (.ifCond .le 18, 3) := by decide +kernel
theorem dX12_strokeCost_32 : decode cX12_strokeCost 32 = .ok (.iload_n 1, 1) := by decide +kernel
theorem dX12_strokeCost_33 : decode cX12_strokeCost 33 = .ok (.ireturn, 1) := by decide +kernel
theorem dX12_strokeCost_17 : decode cX12_strokeCost 17 = .ok (.iload_n 1, 1) := by decide +kernel
theorem dX12_strokeCost_18 : decode cX12_strokeCost 18 = .ok (.iconst 2, 1) := by decide +kernel
theorem dX12_strokeCost_19 : decode cX12_strokeCost 19 = .ok (.iload_n 2, 1) := by decide +kernel
theorem dX12_strokeCost_20 : decode cX12_strokeCost 20 = .ok (.iconst 2, 1) := by decide +kernel
theorem dX12_strokeCost_21 : decode cX12_strokeCost 21 = .ok (.irem, 1) := by decide +kernel
theorem dX12_strokeCost_22 : decode cX12_strokeCost 22 = .ok (.imul, 1) := by decide +kernel
theorem dX12_strokeCost_23 : decode cX12_strokeCost 23 = .ok (.iadd, 1) := by decide +kernel
theorem dX12_strokeCost_24 : decode cX12_strokeCost 24 = .ok (.istore_n 1, 1) := by decide +kernel
theorem dX12_strokeCost_25 : decode cX12_strokeCost 25 = .ok (.iload_n 2, 1) := by decide +kernel
theorem dX12_strokeCost_26 : decode cX12_strokeCost 26 = .ok (.iconst 2, 1) := by decide +kernel
theorem dX12_strokeCost_27 : decode cX12_strokeCost 27 = .ok (.idiv, 1) := by decide +kernel
theorem dX12_strokeCost_28 : decode cX12_strokeCost 28 = .ok (.istore_n 2, 1) := by decide +kernel
theorem dX12_strokeCost_29 : decode cX12_strokeCost 29 = .ok (.goto (-16), 3) := by decide +kernel
set_option maxRecDepth 100000 in
set_option maxHeartbeats 4000000 in
theorem rX12_strokeCost (l : Launch) (D : va_G) (Y : Nat → ClassId)  (s0 : Int32)  (sz : Nat) : Met l yX12_strokeCost (WSm yX12_strokeCost cX12_strokeCost 3 (some .int)) (mkR 1 0 0 20) (PreC D Y [.int s0] [] sz) (QI D (fun (r : Int32) (u : WU) => True) (fun (u : WU) => []) (va_A [] sz)) 0 0 (va_A [] sz) :=
  met_of (by decide +kernel) (Nat.le_of_ble_eq_true rfl) (fun p e s m args below meth c B hin hsz => by
    have B : VB p s m args meth c D Y (va_A [] sz) cX12_strokeCost 3 RX12 (some .int) := B
    refine V_iload_n 0 B dX12_strokeCost_0 0 rfl ?_
    refine V_bipush 1 B (v := 32) dX12_strokeCost_1 (by decide +kernel) ?_
    refine V_irem 3 B dX12_strokeCost_3 (by decide +kernel) rfl ?_
    refine V_nmi (fun j0 e1 => ?_)
    refine V_csi 4 B (st := []) (As := [.int j0]) (fun sz => rX12_keyCost l D Y j0 sz) glS_RX12_51 ⟨rfl, rfl⟩ ⟨(Nat.le_of_ble_eq_true rfl), (Nat.le_of_ble_eq_true rfl)⟩ ⟨(Nat.le_of_ble_eq_true rfl), (Nat.le_of_ble_eq_true rfl)⟩ [] rfl rfl (Nat.le_of_ble_eq_true rfl) rfl (fun _ _ _ => rfl) dX12_strokeCost_4 (fun j2 u3 w4 => ?_)
    refine V_istore_n 7 B (lv2 := [(1, .int j2), (0, .int s0)]) dX12_strokeCost_7 (by decide) rfl ?_
    refine V_iload_n 8 B dX12_strokeCost_8 1 rfl ?_
    refine V_bipush 9 B (v := 32) dX12_strokeCost_9 (by decide +kernel) ?_
    refine V_idiv 11 B dX12_strokeCost_11 (by decide +kernel) rfl ?_
    refine V_nmi (fun j5 e6 => ?_)
    refine V_istore_n 12 B (lv2 := [(2, .int j5), (1, .int j2), (0, .int s0)]) dX12_strokeCost_12 (by decide) rfl ?_
    refine V_wloop (α := WU) (fun a => ((a.2.1 0)).toInt.toNat) (fun a => True) (fun a => [(2, .int (a.2.1 0)), (1, .int (a.2.1 1)), (0, .int s0)]) (fun a => []) (mkW [] [j5, j2] [] [] [] []) trivial rfl rfl (fun a7 hI9 IH8 => ?_)
    refine V_lv [(2, .int (a7.2.1 0)), (1, .int (a7.2.1 1)), (0, .int s0)] [0, 1, 2] rfl ?_
    refine V_iload_n 13 B dX12_strokeCost_13 0 rfl ?_
    refine V_if_le 14 B 32 dX12_strokeCost_14 (by decide) (fun k10 => ?_) (fun k10 => ?_)
    ·
      have h11 := x_le k10
      rw [show (0 : Int32).toInt = 0 by decide +kernel] at h11
      refine V_iload_n 32 B dX12_strokeCost_32 1 rfl ?_
      exact V_iret 33 B dX12_strokeCost_33 (mkW [] [] [] [] [] []) trivial rfl
    ·
      have h12 := x_nle k10
      rw [show (0 : Int32).toInt = 0 by decide +kernel] at h12
      refine V_iload_n 17 B dX12_strokeCost_17 1 rfl ?_
      refine V_iconst 18 B (v := 2) dX12_strokeCost_18 (by decide +kernel) ?_
      refine V_iload_n 19 B dX12_strokeCost_19 0 rfl ?_
      refine V_iconst 20 B (v := 2) dX12_strokeCost_20 (by decide +kernel) ?_
      refine V_irem 21 B dX12_strokeCost_21 (by decide +kernel) rfl ?_
      refine V_nmi (fun j13 e14 => ?_)
      refine V_imul 22 B dX12_strokeCost_22 rfl ?_
      refine V_nmi (fun j15 _ => ?_)
      refine V_iadd 23 B dX12_strokeCost_23 rfl ?_
      refine V_nmi (fun j16 _ => ?_)
      refine V_istore_n 24 B (lv2 := [(1, .int j16), (2, .int (a7.2.1 0)), (0, .int s0)]) dX12_strokeCost_24 (by decide) rfl ?_
      refine V_iload_n 25 B dX12_strokeCost_25 1 rfl ?_
      refine V_iconst 26 B (v := 2) dX12_strokeCost_26 (by decide +kernel) ?_
      refine V_idiv 27 B dX12_strokeCost_27 (by decide +kernel) rfl ?_
      refine V_nmi (fun j17 e18 => ?_)
      have h19 : 0 ≤ j17.toInt ∧ j17.toInt < (a7.2.1 0).toInt := by rw [e18]; exact half_dec (by omega)
      refine V_istore_n 28 B (lv2 := [(2, .int j17), (1, .int j16), (0, .int s0)]) dX12_strokeCost_28 (by decide) rfl ?_
      refine V_goto 29 B 13 dX12_strokeCost_29 (by decide) ?_
      refine V_lv [(2, .int j17), (1, .int j16), (0, .int s0)] [0, 1, 2] rfl ?_
      exact IH8 (mkW [] [j17, j16] [] [] [] []) trivial (by show (j17).toInt.toNat < ((a7.2.1 0)).toInt.toNat; omega))
theorem dX12_costOf_0 : decode cX12_costOf 0 = .ok (.iconst 0, 1) := by decide +kernel
theorem dX12_costOf_1 : decode cX12_costOf 1 = .ok (.istore_n 2, 1) := by decide +kernel
theorem dX12_costOf_2 : decode cX12_costOf 2 = .ok (.iconst 1, 1) := by decide +kernel
theorem dX12_costOf_3 : decode cX12_costOf 3 = .ok (.istore_n 3, 1) := by decide +kernel
theorem dX12_costOf_4 : decode cX12_costOf 4 = .ok (.iload_n 3, 1) := by decide +kernel
theorem dX12_costOf_5 : decode cX12_costOf 5 = .ok (.aload_n 0, 1) := by decide +kernel
theorem dX12_costOf_6 : decode cX12_costOf 6 = .ok (.getfield 9, 3) := by decide +kernel
theorem inw_X12 : ∀ w ∈ u_ws RX12 TX12 17, w ∈ lw_good := by decide +kernel
theorem gf_RX12_9 : GF RX12 9 13 0 := ⟨RX12, TX12, 17, rfl, inw_X12, Nat.le_of_ble_eq_true rfl, (mT7 137 rfl rfl)⟩
theorem dX12_costOf_9 : decode cX12_costOf 9 = .ok (.iload_n 1, 1) := by decide +kernel
theorem dX12_costOf_10 : decode cX12_costOf 10 = .ok (.iaload, 1) := by decide +kernel
theorem dX12_costOf_11 : decode cX12_costOf 11 = .ok (.if_icmp .gt 23, 3) := by decide +kernel
theorem dX12_costOf_34 : decode cX12_costOf 34 = .ok (.iload_n 2, 1) := by decide +kernel
theorem dX12_costOf_35 : decode cX12_costOf 35 = .ok (.ireturn, 1) := by decide +kernel
theorem dX12_costOf_14 : decode cX12_costOf 14 = .ok (.iload_n 2, 1) := by decide +kernel
theorem dX12_costOf_15 : decode cX12_costOf 15 = .ok (.aload_n 0, 1) := by decide +kernel
theorem dX12_costOf_16 : decode cX12_costOf 16 = .ok (.getfield 9, 3) := by decide +kernel
theorem dX12_costOf_19 : decode cX12_costOf 19 = .ok (.iload_n 1, 1) := by decide +kernel
theorem dX12_costOf_20 : decode cX12_costOf 20 = .ok (.iload_n 3, 1) := by decide +kernel
theorem dX12_costOf_21 : decode cX12_costOf 21 = .ok (.iadd, 1) := by decide +kernel
theorem dX12_costOf_22 : decode cX12_costOf 22 = .ok (.iaload, 1) := by decide +kernel
theorem dX12_costOf_23 : decode cX12_costOf 23 = .ok (.invokestatic 55, 3) := by decide +kernel
theorem glS_RX12_55 : GLS RX12 55 yX12_strokeCost cX12_strokeCost 3 (some .int) 1 := ⟨⟨(mT7 237 rfl rfl), (mT7 238 rfl rfl), (mT1 13 rfl rfl), (mT7 239 rfl rfl)⟩, by decide +kernel⟩
theorem dX12_costOf_26 : decode cX12_costOf 26 = .ok (.iadd, 1) := by decide +kernel
theorem dX12_costOf_27 : decode cX12_costOf 27 = .ok (.istore_n 2, 1) := by decide +kernel
theorem dX12_costOf_28 : decode cX12_costOf 28 = .ok (.iinc 3 1, 3) := by decide +kernel
theorem dX12_costOf_31 : decode cX12_costOf 31 = .ok (.goto (-27), 3) := by decide +kernel
set_option maxRecDepth 100000 in
set_option maxHeartbeats 4000000 in
theorem rX12_costOf (l : Launch) (D : va_G) (Y : Nat → ClassId) (h0 : Nat) (h1 : Nat) (h2 : Nat) (h3 : Nat) (h4 : Nat) (h5 : Nat) (h6 : Nat) (p2 : Int32) (k5 : Nat) (k6 : Nat) (p7 : Int32) (p8 : Int32) (p9 : Int32) (k10 : Nat) (p11 : Int32) (q12 : Int64) (k15 : Nat) (k16 : Nat) (f0 : Nat → Int32) (f1 : Nat → Int32) (f3 : Nat → Int32) (f4 : Nat → Int32) (f13 : Nat → Int32) (f14 : Nat → Int32) (HI : INV f0) (HL : k5 ≤ 1600) (HP : PLV f13) (s0 : Nat) (hs0 : SQ s0) (sz : Nat) : Met l yX12_costOf (WSm yX12_costOf cX12_costOf 4 (some .int)) (mkR 2 0 0 42) (PreC D Y [.ref h0, .int (nI s0)] [(h0, oC 13 [.ref h1, .ref h2, .int p2, .ref h3, .ref h4, .int (nI k5), .int (nI k6), .int p7, .int p8, .int p9, .int (nI k10), .int p11, .long q12, .ref h5, .ref h6, .int (nI k15), .int (nI k16)]), (h1, aI Y 3640 f0), (h2, aZ Y 2 f1), (h3, aZ Y 80 f3), (h4, aB Y 1600 f4), (h5, aI Y 200 f13), (h6, aI Y 800 f14)] sz) (QI D (fun (r : Int32) (u : WU) => True) (fun (u : WU) => [(h0, oC 13 [.ref h1, .ref h2, .int p2, .ref h3, .ref h4, .int (nI k5), .int (nI k6), .int p7, .int p8, .int p9, .int (nI k10), .int p11, .long q12, .ref h5, .ref h6, .int (nI k15), .int (nI k16)]), (h1, aI Y 3640 f0), (h2, aZ Y 2 f1), (h3, aZ Y 80 f3), (h4, aB Y 1600 f4), (h5, aI Y 200 f13), (h6, aI Y 800 f14)]) (va_A [(h0, oC 13 [.ref h1, .ref h2, .int p2, .ref h3, .ref h4, .int (nI k5), .int (nI k6), .int p7, .int p8, .int p9, .int (nI k10), .int p11, .long q12, .ref h5, .ref h6, .int (nI k15), .int (nI k16)]), (h1, aI Y 3640 f0), (h2, aZ Y 2 f1), (h3, aZ Y 80 f3), (h4, aB Y 1600 f4), (h5, aI Y 200 f13), (h6, aI Y 800 f14)] sz)) 0 0 (va_A [(h0, oC 13 [.ref h1, .ref h2, .int p2, .ref h3, .ref h4, .int (nI k5), .int (nI k6), .int p7, .int p8, .int p9, .int (nI k10), .int p11, .long q12, .ref h5, .ref h6, .int (nI k15), .int (nI k16)]), (h1, aI Y 3640 f0), (h2, aZ Y 2 f1), (h3, aZ Y 80 f3), (h4, aB Y 1600 f4), (h5, aI Y 200 f13), (h6, aI Y 800 f14)] sz) :=
  met_of (by decide +kernel) (Nat.le_of_ble_eq_true rfl) (fun p e s m args below meth c B hin hsz => by
    have B : VB p s m args meth c D Y (va_A [(h0, oC 13 [.ref h1, .ref h2, .int p2, .ref h3, .ref h4, .int (nI k5), .int (nI k6), .int p7, .int p8, .int p9, .int (nI k10), .int p11, .long q12, .ref h5, .ref h6, .int (nI k15), .int (nI k16)]), (h1, aI Y 3640 f0), (h2, aZ Y 2 f1), (h3, aZ Y 80 f3), (h4, aB Y 1600 f4), (h5, aI Y 200 f13), (h6, aI Y 800 f14)] sz) cX12_costOf 4 RX12 (some .int) := B
    have hq_s0 := hs0.1
    refine V_iconst 0 B (v := 0) dX12_costOf_0 (by decide +kernel) ?_
    refine V_istore_n 1 B (lv2 := [(2, .int 0), (0, .ref h0), (1, .int (nI s0))]) dX12_costOf_1 (by decide) rfl ?_
    refine V_iconst 2 B (v := 1) dX12_costOf_2 (by decide +kernel) ?_
    refine V_istore_n 3 B (lv2 := [(3, .int 1), (2, .int 0), (0, .ref h0), (1, .int (nI s0))]) dX12_costOf_3 (by decide) rfl ?_
    refine V_wloop (α := WU) (fun a => 100000 - (a.1 0)) (fun a => True) (fun a => [(3, .int (nI (a.1 0))), (2, .int (a.2.1 0)), (0, .ref h0), (1, .int (nI s0))]) (fun a => [(h0, oC 13 [.ref h1, .ref h2, .int p2, .ref h3, .ref h4, .int (nI k5), .int (nI k6), .int p7, .int p8, .int p9, .int (nI k10), .int p11, .long q12, .ref h5, .ref h6, .int (nI k15), .int (nI k16)]), (h1, aI Y 3640 f0), (h2, aZ Y 2 f1), (h3, aZ Y 80 f3), (h4, aB Y 1600 f4), (h5, aI Y 200 f13), (h6, aI Y 800 f14)]) (mkW [1] [0] [] [] [] []) trivial rfl rfl (fun a0 hI2 IH1 => ?_)
    refine V_lv [(3, .int (nI (a0.1 0))), (2, .int (a0.2.1 0)), (0, .ref h0), (1, .int (nI s0))] [0, 1, 2, 3] rfl ?_
    refine V_ws [(h0, oC 13 [.ref h1, .ref h2, .int p2, .ref h3, .ref h4, .int (nI k5), .int (nI k6), .int p7, .int p8, .int p9, .int (nI k10), .int p11, .long q12, .ref h5, .ref h6, .int (nI k15), .int (nI k16)]), (h1, aI Y 3640 f0), (h2, aZ Y 2 f1), (h3, aZ Y 80 f3), (h4, aB Y 1600 f4), (h5, aI Y 200 f13), (h6, aI Y 800 f14)] rfl ?_
    refine V_iload_n 4 B dX12_costOf_4 0 rfl ?_
    refine V_aload_n 5 B dX12_costOf_5 2 rfl ?_
    refine V_get 6 B gf_RX12_9 0 rfl rfl dX12_costOf_6 ?_
    refine V_iload_n 9 B dX12_costOf_9 3 rfl ?_
    have h3 : (gN f0 s0) ≤ 4 := gN_le HI (by omega) hs0.2.1
    refine V_iald 10 B (v := (nI (gN f0 s0))) 1 rfl (vp_in_nI (n := s0) (by omega) (by decide)) dX12_costOf_10 (by rw [nI_clamp (show s0 < 2 ^ 31 by omega)]; exact gN_eq HI (by omega) hs0.2.1) ?_
    refine V_icmp_gt 11 B 34 dX12_costOf_11 (by decide) (fun k4 => ?_) (fun k4 => ?_)
    ·
      have h5 := n_lt (a := (gN f0 s0)) (b := (a0.1 0)) k4 (by omega) (by omega)
      refine V_iload_n 34 B dX12_costOf_34 1 rfl ?_
      exact V_iret 35 B dX12_costOf_35 (mkW [] [] [] [] [] []) trivial rfl
    ·
      have h6 := n_nlt (a := (gN f0 s0)) (b := (a0.1 0)) k4 (by omega) (by omega)
      refine V_iload_n 14 B dX12_costOf_14 1 rfl ?_
      refine V_aload_n 15 B dX12_costOf_15 2 rfl ?_
      refine V_get 16 B gf_RX12_9 0 rfl rfl dX12_costOf_16 ?_
      refine V_iload_n 19 B dX12_costOf_19 3 rfl ?_
      refine V_iload_n 20 B dX12_costOf_20 0 rfl ?_
      refine V_iadd 21 B (v := (nI ((a0.1 0) + s0))) dX12_costOf_21 (nI_addE (a := s0) (b := (a0.1 0)) (by omega)) ?_
      refine V_iald 22 B (v := f0 ((a0.1 0) + s0)) 1 rfl (vp_in_nI (n := (a0.1 0) + s0) (by omega) (by decide)) dX12_costOf_22 (by rw [nI_clamp (show (a0.1 0) + s0 < 2 ^ 31 by omega)]; exact rfl) ?_
      refine V_nmi (fun j7 e8 => ?_)
      refine V_csi 23 B (st := [.int (a0.2.1 0)]) (As := [.int j7]) (fun sz => rX12_strokeCost l D Y j7 sz) glS_RX12_55 ⟨rfl, rfl⟩ ⟨(Nat.le_of_ble_eq_true rfl), (Nat.le_of_ble_eq_true rfl)⟩ ⟨(Nat.le_of_ble_eq_true rfl), (Nat.le_of_ble_eq_true rfl)⟩ [] rfl rfl (Nat.le_of_ble_eq_true rfl) rfl (fun _ _ _ => rfl) dX12_costOf_23 (fun j9 u10 w11 => ?_)
      refine V_ws [(h0, oC 13 [.ref h1, .ref h2, .int p2, .ref h3, .ref h4, .int (nI k5), .int (nI k6), .int p7, .int p8, .int p9, .int (nI k10), .int p11, .long q12, .ref h5, .ref h6, .int (nI k15), .int (nI k16)]), (h1, aI Y 3640 f0), (h2, aZ Y 2 f1), (h3, aZ Y 80 f3), (h4, aB Y 1600 f4), (h5, aI Y 200 f13), (h6, aI Y 800 f14)] rfl ?_
      refine V_iadd 26 B dX12_costOf_26 rfl ?_
      refine V_nmi (fun j12 _ => ?_)
      refine V_istore_n 27 B (lv2 := [(2, .int j12), (3, .int (nI (a0.1 0))), (0, .ref h0), (1, .int (nI s0))]) dX12_costOf_27 (by decide) rfl ?_
      refine V_iinc 28 B (v := (nI (1 + (a0.1 0)))) (lv2 := [(3, .int (nI (1 + (a0.1 0)))), (2, .int j12), (0, .ref h0), (1, .int (nI s0))]) dX12_costOf_28 1 rfl (nI_addE (a := (a0.1 0)) (b := 1) (by omega)) (by decide) rfl ?_
      refine V_goto 31 B 4 dX12_costOf_31 (by decide) ?_
      refine V_lv [(3, .int (nI (1 + (a0.1 0)))), (2, .int j12), (0, .ref h0), (1, .int (nI s0))] [0, 1, 2, 3] rfl ?_
      exact IH1 (mkW [1 + (a0.1 0)] [j12] [] [] [] []) trivial (by show 100000 - (1 + (a0.1 0)) < 100000 - (a0.1 0); omega))
theorem dX12_copySequence_0 : decode cX12_copySequence 0 = .ok (.iconst 0, 1) := by decide +kernel
theorem dX12_copySequence_1 : decode cX12_copySequence 1 = .ok (.istore_n 3, 1) := by decide +kernel
theorem dX12_copySequence_2 : decode cX12_copySequence 2 = .ok (.iload_n 3, 1) := by decide +kernel
theorem dX12_copySequence_3 : decode cX12_copySequence 3 = .ok (.iconst 5, 1) := by decide +kernel
theorem dX12_copySequence_4 : decode cX12_copySequence 4 = .ok (.if_icmp .ge 39, 3) := by decide +kernel
theorem dX12_copySequence_43 : decode cX12_copySequence 43 = .ok (.return_, 1) := by decide +kernel
theorem dX12_copySequence_7 : decode cX12_copySequence 7 = .ok (.aload_n 0, 1) := by decide +kernel
theorem dX12_copySequence_8 : decode cX12_copySequence 8 = .ok (.getfield 9, 3) := by decide +kernel
theorem dX12_copySequence_11 : decode cX12_copySequence 11 = .ok (.iload_n 2, 1) := by decide +kernel
theorem dX12_copySequence_12 : decode cX12_copySequence 12 = .ok (.iload_n 3, 1) := by decide +kernel
theorem dX12_copySequence_13 : decode cX12_copySequence 13 = .ok (.iadd, 1) := by decide +kernel
theorem dX12_copySequence_14 : decode cX12_copySequence 14 = .ok (.iload_n 3, 1) := by decide +kernel
theorem dX12_copySequence_15 : decode cX12_copySequence 15 = .ok (.aload_n 0, 1) := by decide +kernel
theorem dX12_copySequence_16 : decode cX12_copySequence 16 = .ok (.getfield 9, 3) := by decide +kernel
theorem dX12_copySequence_19 : decode cX12_copySequence 19 = .ok (.iload_n 1, 1) := by decide +kernel
theorem dX12_copySequence_20 : decode cX12_copySequence 20 = .ok (.iaload, 1) := by decide +kernel
theorem dX12_copySequence_21 : decode cX12_copySequence 21 = .ok (.if_icmp .gt 14, 3) := by decide +kernel
theorem dX12_copySequence_35 : decode cX12_copySequence 35 = .ok (.iconst 0, 1) := by decide +kernel
theorem dX12_copySequence_36 : decode cX12_copySequence 36 = .ok (.iastore, 1) := by decide +kernel
theorem dX12_copySequence_37 : decode cX12_copySequence 37 = .ok (.iinc 3 1, 3) := by decide +kernel
theorem dX12_copySequence_40 : decode cX12_copySequence 40 = .ok (.goto (-38), 3) := by decide +kernel
theorem dX12_copySequence_24 : decode cX12_copySequence 24 = .ok (.aload_n 0, 1) := by decide +kernel
theorem dX12_copySequence_25 : decode cX12_copySequence 25 = .ok (.getfield 9, 3) := by decide +kernel
theorem dX12_copySequence_28 : decode cX12_copySequence 28 = .ok (.iload_n 1, 1) := by decide +kernel
theorem dX12_copySequence_29 : decode cX12_copySequence 29 = .ok (.iload_n 3, 1) := by decide +kernel
theorem dX12_copySequence_30 : decode cX12_copySequence 30 = .ok (.iadd, 1) := by decide +kernel
theorem dX12_copySequence_31 : decode cX12_copySequence 31 = .ok (.iaload, 1) := by decide +kernel
theorem dX12_copySequence_32 : decode cX12_copySequence 32 = .ok (.goto 4, 3) := by decide +kernel
set_option maxRecDepth 100000 in
set_option maxHeartbeats 4000000 in
theorem rX12_copySequence (l : Launch) (D : va_G) (Y : Nat → ClassId) (h0 : Nat) (h1 : Nat) (h2 : Nat) (h3 : Nat) (h4 : Nat) (h5 : Nat) (h6 : Nat) (p2 : Int32) (k5 : Nat) (k6 : Nat) (p7 : Int32) (p8 : Int32) (p9 : Int32) (k10 : Nat) (p11 : Int32) (q12 : Int64) (k15 : Nat) (k16 : Nat) (f0 : Nat → Int32) (f1 : Nat → Int32) (f3 : Nat → Int32) (f4 : Nat → Int32) (f13 : Nat → Int32) (f14 : Nat → Int32) (HI : INV f0) (HL : k5 ≤ 1600) (HP : PLV f13) (s0 : Nat) (s1 : Nat) (hs0 : SQ s0) (hs1 : SQ s1) (sz : Nat) : Met l yX12_copySequence (WSm yX12_copySequence cX12_copySequence 4 none) (mkR 0 0 0 0) (PreC D Y [.ref h0, .int (nI s0), .int (nI s1)] [(h0, oC 13 [.ref h1, .ref h2, .int p2, .ref h3, .ref h4, .int (nI k5), .int (nI k6), .int p7, .int p8, .int p9, .int (nI k10), .int p11, .long q12, .ref h5, .ref h6, .int (nI k15), .int (nI k16)]), (h1, aI Y 3640 f0), (h2, aZ Y 2 f1), (h3, aZ Y 80 f3), (h4, aB Y 1600 f4), (h5, aI Y 200 f13), (h6, aI Y 800 f14)] sz) (QV D (fun (u : WU) => INV (u.2.2.2.1 0) ∧ (∀ k, (k < s1 ∨ s1 + 5 ≤ k) → (u.2.2.2.1 0) k = f0 k)) (fun (u : WU) => [(h0, oC 13 [.ref h1, .ref h2, .int p2, .ref h3, .ref h4, .int (nI k5), .int (nI k6), .int p7, .int p8, .int p9, .int (nI k10), .int p11, .long q12, .ref h5, .ref h6, .int (nI k15), .int (nI k16)]), (h1, aI Y 3640 (u.2.2.2.1 0)), (h2, aZ Y 2 f1), (h3, aZ Y 80 f3), (h4, aB Y 1600 f4), (h5, aI Y 200 f13), (h6, aI Y 800 f14)]) (va_A [(h0, oC 13 [.ref h1, .ref h2, .int p2, .ref h3, .ref h4, .int (nI k5), .int (nI k6), .int p7, .int p8, .int p9, .int (nI k10), .int p11, .long q12, .ref h5, .ref h6, .int (nI k15), .int (nI k16)]), (h1, aI Y 3640 f0), (h2, aZ Y 2 f1), (h3, aZ Y 80 f3), (h4, aB Y 1600 f4), (h5, aI Y 200 f13), (h6, aI Y 800 f14)] sz)) 0 0 (va_A [(h0, oC 13 [.ref h1, .ref h2, .int p2, .ref h3, .ref h4, .int (nI k5), .int (nI k6), .int p7, .int p8, .int p9, .int (nI k10), .int p11, .long q12, .ref h5, .ref h6, .int (nI k15), .int (nI k16)]), (h1, aI Y 3640 f0), (h2, aZ Y 2 f1), (h3, aZ Y 80 f3), (h4, aB Y 1600 f4), (h5, aI Y 200 f13), (h6, aI Y 800 f14)] sz) :=
  met_of (by decide +kernel) (Nat.le_of_ble_eq_true rfl) (fun p e s m args below meth c B hin hsz => by
    have B : VB p s m args meth c D Y (va_A [(h0, oC 13 [.ref h1, .ref h2, .int p2, .ref h3, .ref h4, .int (nI k5), .int (nI k6), .int p7, .int p8, .int p9, .int (nI k10), .int p11, .long q12, .ref h5, .ref h6, .int (nI k15), .int (nI k16)]), (h1, aI Y 3640 f0), (h2, aZ Y 2 f1), (h3, aZ Y 80 f3), (h4, aB Y 1600 f4), (h5, aI Y 200 f13), (h6, aI Y 800 f14)] sz) cX12_copySequence 4 RX12 none := B
    have hq_s0 := hs0.1
    have hq_s1 := hs1.1
    refine V_iconst 0 B (v := 0) dX12_copySequence_0 (by decide +kernel) ?_
    refine V_istore_n 1 B (lv2 := [(3, .int 0), (0, .ref h0), (1, .int (nI s0)), (2, .int (nI s1))]) dX12_copySequence_1 (by decide) rfl ?_
    refine V_wloop (α := WU) (fun a => 100000 - (a.1 0)) (fun a => INV (a.2.2.2.1 0) ∧ (a.1 0) ≤ 5 ∧ (∀ k, (k < s1 ∨ s1 + 5 ≤ k) → (a.2.2.2.1 0) k = f0 k)) (fun a => [(3, .int (nI (a.1 0))), (0, .ref h0), (1, .int (nI s0)), (2, .int (nI s1))]) (fun a => [(h0, oC 13 [.ref h1, .ref h2, .int p2, .ref h3, .ref h4, .int (nI k5), .int (nI k6), .int p7, .int p8, .int p9, .int (nI k10), .int p11, .long q12, .ref h5, .ref h6, .int (nI k15), .int (nI k16)]), (h1, aI Y 3640 (a.2.2.2.1 0)), (h2, aZ Y 2 f1), (h3, aZ Y 80 f3), (h4, aB Y 1600 f4), (h5, aI Y 200 f13), (h6, aI Y 800 f14)]) (mkW [0] [] [] [f0] [] []) ⟨HI, (by omega), (fun _ _ => rfl)⟩ rfl rfl (fun a0 hI2 IH1 => ?_)
    refine V_lv [(3, .int (nI (a0.1 0))), (0, .ref h0), (1, .int (nI s0)), (2, .int (nI s1))] [0, 1, 2, 3] rfl ?_
    refine V_ws [(h0, oC 13 [.ref h1, .ref h2, .int p2, .ref h3, .ref h4, .int (nI k5), .int (nI k6), .int p7, .int p8, .int p9, .int (nI k10), .int p11, .long q12, .ref h5, .ref h6, .int (nI k15), .int (nI k16)]), (h1, aI Y 3640 (a0.2.2.2.1 0)), (h2, aZ Y 2 f1), (h3, aZ Y 80 f3), (h4, aB Y 1600 f4), (h5, aI Y 200 f13), (h6, aI Y 800 f14)] rfl ?_
    obtain ⟨h3, h4, h5⟩ := hI2
    refine V_iload_n 2 B dX12_copySequence_2 0 rfl ?_
    refine V_iconst 3 B (v := 5) dX12_copySequence_3 (by decide +kernel) ?_
    refine V_icmp_ge 4 B 43 dX12_copySequence_4 (by decide) (fun k6 => ?_) (fun k6 => ?_)
    ·
      have h7 := n_le (a := 5) (b := (a0.1 0)) k6 (by omega) (by omega)
      exact V_vret 43 B dX12_copySequence_43 (mkW [] [] [] [(a0.2.2.2.1 0)] [] []) ⟨h3, h5⟩ rfl
    ·
      have h8 := n_nle (a := 5) (b := (a0.1 0)) k6 (by omega) (by omega)
      by_cases h9 : (a0.1 0) = 0
      ·
        refine V_lv [(3, .int 0), (0, .ref h0), (1, .int (nI s0)), (2, .int (nI s1))] [0, 1, 2, 3] (by rw [h9]; rfl) ?_
        refine V_aload_n 7 B dX12_copySequence_7 1 rfl ?_
        refine V_get 8 B gf_RX12_9 0 rfl rfl dX12_copySequence_8 ?_
        refine V_iload_n 11 B dX12_copySequence_11 3 rfl ?_
        refine V_iload_n 12 B dX12_copySequence_12 0 rfl ?_
        refine V_iadd 13 B (v := (nI s1)) dX12_copySequence_13 (nI_addE (a := s1) (b := 0) (by omega)) ?_
        refine V_iload_n 14 B dX12_copySequence_14 0 rfl ?_
        refine V_aload_n 15 B dX12_copySequence_15 1 rfl ?_
        refine V_get 16 B gf_RX12_9 0 rfl rfl dX12_copySequence_16 ?_
        refine V_iload_n 19 B dX12_copySequence_19 2 rfl ?_
        have h10 : (gN (a0.2.2.2.1 0) s0) ≤ 4 := gN_le h3 (by omega) hs0.2.1
        refine V_iald 20 B (v := (nI ((gN (a0.2.2.2.1 0) s0)))) 1 rfl (vp_in_nI (n := s0) (by omega) (by decide)) dX12_copySequence_20 (by rw [nI_clamp (show s0 < 2 ^ 31 by omega)]; exact gN_eq h3 (by omega) hs0.2.1) ?_
        refine V_icmp_gt 21 B 35 dX12_copySequence_21 (by decide) (fun k11 => ?_) (fun k11 => ?_)
        ·
          have h12 := n_lt (a := (gN (a0.2.2.2.1 0) s0)) (b := 0) k11 (by omega) (by omega)
          refine V_iconst 35 B (v := 0) dX12_copySequence_35 (by decide +kernel) ?_
          have hv13 : INV (upd (a0.2.2.2.1 0) s1 0) := INV_nat (v := 0) h3 hs1.2.1 (by omega) (by decide)
          refine V_iast 36 B 1 rfl (vp_in_nI (n := s1) (by omega) (by decide)) dX12_copySequence_36 [(h0, oC 13 [.ref h1, .ref h2, .int p2, .ref h3, .ref h4, .int (nI k5), .int (nI k6), .int p7, .int p8, .int p9, .int (nI k10), .int p11, .long q12, .ref h5, .ref h6, .int (nI k15), .int (nI k16)]), (h1, aI Y 3640 (upd (a0.2.2.2.1 0) s1 0)), (h2, aZ Y 2 f1), (h3, aZ Y 80 f3), (h4, aB Y 1600 f4), (h5, aI Y 200 f13), (h6, aI Y 800 f14)] (by rw [nI_clamp (show s1 < 2 ^ 31 by omega)]; rfl) ?_
          refine V_iinc 37 B (v := 1) (lv2 := [(3, .int 1), (0, .ref h0), (1, .int (nI s0)), (2, .int (nI s1))]) dX12_copySequence_37 0 rfl (by decide +kernel) (by decide) rfl ?_
          refine V_goto 40 B 2 dX12_copySequence_40 (by decide) ?_
          refine V_lv [(3, .int 1), (0, .ref h0), (1, .int (nI s0)), (2, .int (nI s1))] [0, 1, 2, 3] rfl ?_
          exact IH1 (mkW [1] [] [] [(upd (a0.2.2.2.1 0) s1 0)] [] []) ⟨hv13, (by omega), (fr_upd h5 (by omega) (by omega))⟩ (by show 100000 - (1) < 100000 - (a0.1 0); omega)
        ·
          have h14 := n_nlt (a := (gN (a0.2.2.2.1 0) s0)) (b := 0) k11 (by omega) (by omega)
          refine V_aload_n 24 B dX12_copySequence_24 1 rfl ?_
          refine V_get 25 B gf_RX12_9 0 rfl rfl dX12_copySequence_25 ?_
          refine V_iload_n 28 B dX12_copySequence_28 2 rfl ?_
          refine V_iload_n 29 B dX12_copySequence_29 0 rfl ?_
          refine V_iadd 30 B (v := (nI s0)) dX12_copySequence_30 (nI_addE (a := s0) (b := 0) (by omega)) ?_
          have h15 : (gN (a0.2.2.2.1 0) s0) ≤ 4 := gN_le h3 (by omega) hs0.2.1
          refine V_iald 31 B (v := (nI ((gN (a0.2.2.2.1 0) s0)))) 1 rfl (vp_in_nI (n := s0) (by omega) (by decide)) dX12_copySequence_31 (by rw [nI_clamp (show s0 < 2 ^ 31 by omega)]; exact gN_eq h3 (by omega) hs0.2.1) ?_
          refine V_goto 32 B 36 dX12_copySequence_32 (by decide) ?_
          have hv16 : INV (upd (a0.2.2.2.1 0) s1 (nI ((gN (a0.2.2.2.1 0) s0)))) := INV_nat (v := (gN (a0.2.2.2.1 0) s0)) h3 hs1.2.1 (by omega) (by decide)
          refine V_iast 36 B 1 rfl (vp_in_nI (n := s1) (by omega) (by decide)) dX12_copySequence_36 [(h0, oC 13 [.ref h1, .ref h2, .int p2, .ref h3, .ref h4, .int (nI k5), .int (nI k6), .int p7, .int p8, .int p9, .int (nI k10), .int p11, .long q12, .ref h5, .ref h6, .int (nI k15), .int (nI k16)]), (h1, aI Y 3640 (upd (a0.2.2.2.1 0) s1 (nI ((gN (a0.2.2.2.1 0) s0))))), (h2, aZ Y 2 f1), (h3, aZ Y 80 f3), (h4, aB Y 1600 f4), (h5, aI Y 200 f13), (h6, aI Y 800 f14)] (by rw [nI_clamp (show s1 < 2 ^ 31 by omega)]; rfl) ?_
          refine V_iinc 37 B (v := 1) (lv2 := [(3, .int 1), (0, .ref h0), (1, .int (nI s0)), (2, .int (nI s1))]) dX12_copySequence_37 0 rfl (by decide +kernel) (by decide) rfl ?_
          refine V_goto 40 B 2 dX12_copySequence_40 (by decide) ?_
          refine V_lv [(3, .int 1), (0, .ref h0), (1, .int (nI s0)), (2, .int (nI s1))] [0, 1, 2, 3] rfl ?_
          exact IH1 (mkW [1] [] [] [(upd (a0.2.2.2.1 0) s1 (nI ((gN (a0.2.2.2.1 0) s0))))] [] []) ⟨hv16, (by omega), (fr_upd h5 (by omega) (by omega))⟩ (by show 100000 - (1) < 100000 - (a0.1 0); omega)
      ·
        refine V_aload_n 7 B dX12_copySequence_7 1 rfl ?_
        refine V_get 8 B gf_RX12_9 0 rfl rfl dX12_copySequence_8 ?_
        refine V_iload_n 11 B dX12_copySequence_11 3 rfl ?_
        refine V_iload_n 12 B dX12_copySequence_12 0 rfl ?_
        refine V_iadd 13 B (v := (nI ((a0.1 0) + s1))) dX12_copySequence_13 (nI_addE (a := s1) (b := (a0.1 0)) (by omega)) ?_
        refine V_iload_n 14 B dX12_copySequence_14 0 rfl ?_
        refine V_aload_n 15 B dX12_copySequence_15 1 rfl ?_
        refine V_get 16 B gf_RX12_9 0 rfl rfl dX12_copySequence_16 ?_
        refine V_iload_n 19 B dX12_copySequence_19 2 rfl ?_
        have h17 : (gN (a0.2.2.2.1 0) s0) ≤ 4 := gN_le h3 (by omega) hs0.2.1
        refine V_iald 20 B (v := (nI ((gN (a0.2.2.2.1 0) s0)))) 1 rfl (vp_in_nI (n := s0) (by omega) (by decide)) dX12_copySequence_20 (by rw [nI_clamp (show s0 < 2 ^ 31 by omega)]; exact gN_eq h3 (by omega) hs0.2.1) ?_
        refine V_icmp_gt 21 B 35 dX12_copySequence_21 (by decide) (fun k18 => ?_) (fun k18 => ?_)
        ·
          have h19 := n_lt (a := (gN (a0.2.2.2.1 0) s0)) (b := (a0.1 0)) k18 (by omega) (by omega)
          refine V_iconst 35 B (v := 0) dX12_copySequence_35 (by decide +kernel) ?_
          have hv20 : INV (upd (a0.2.2.2.1 0) ((a0.1 0) + s1) 0) := INV_free h3 (SQ.fr hs1 (j := (a0.1 0) + s1) (by omega) (by omega))
          refine V_iast 36 B 1 rfl (vp_in_nI (n := (a0.1 0) + s1) (by omega) (by decide)) dX12_copySequence_36 [(h0, oC 13 [.ref h1, .ref h2, .int p2, .ref h3, .ref h4, .int (nI k5), .int (nI k6), .int p7, .int p8, .int p9, .int (nI k10), .int p11, .long q12, .ref h5, .ref h6, .int (nI k15), .int (nI k16)]), (h1, aI Y 3640 (upd (a0.2.2.2.1 0) ((a0.1 0) + s1) 0)), (h2, aZ Y 2 f1), (h3, aZ Y 80 f3), (h4, aB Y 1600 f4), (h5, aI Y 200 f13), (h6, aI Y 800 f14)] (by rw [nI_clamp (show (a0.1 0) + s1 < 2 ^ 31 by omega)]; rfl) ?_
          refine V_iinc 37 B (v := (nI (1 + (a0.1 0)))) (lv2 := [(3, .int (nI (1 + (a0.1 0)))), (0, .ref h0), (1, .int (nI s0)), (2, .int (nI s1))]) dX12_copySequence_37 0 rfl (nI_addE (a := (a0.1 0)) (b := 1) (by omega)) (by decide) rfl ?_
          refine V_goto 40 B 2 dX12_copySequence_40 (by decide) ?_
          refine V_lv [(3, .int (nI (1 + (a0.1 0)))), (0, .ref h0), (1, .int (nI s0)), (2, .int (nI s1))] [0, 1, 2, 3] rfl ?_
          exact IH1 (mkW [1 + (a0.1 0)] [] [] [(upd (a0.2.2.2.1 0) ((a0.1 0) + s1) 0)] [] []) ⟨hv20, (by omega), (fr_upd h5 (by omega) (by omega))⟩ (by show 100000 - (1 + (a0.1 0)) < 100000 - (a0.1 0); omega)
        ·
          have h21 := n_nlt (a := (gN (a0.2.2.2.1 0) s0)) (b := (a0.1 0)) k18 (by omega) (by omega)
          refine V_aload_n 24 B dX12_copySequence_24 1 rfl ?_
          refine V_get 25 B gf_RX12_9 0 rfl rfl dX12_copySequence_25 ?_
          refine V_iload_n 28 B dX12_copySequence_28 2 rfl ?_
          refine V_iload_n 29 B dX12_copySequence_29 0 rfl ?_
          refine V_iadd 30 B (v := (nI ((a0.1 0) + s0))) dX12_copySequence_30 (nI_addE (a := s0) (b := (a0.1 0)) (by omega)) ?_
          refine V_iald 31 B (v := (a0.2.2.2.1 0) ((a0.1 0) + s0)) 1 rfl (vp_in_nI (n := (a0.1 0) + s0) (by omega) (by decide)) dX12_copySequence_31 (by rw [nI_clamp (show (a0.1 0) + s0 < 2 ^ 31 by omega)]; exact rfl) ?_
          refine V_nmi (fun j22 e23 => ?_)
          refine V_goto 32 B 36 dX12_copySequence_32 (by decide) ?_
          have hv24 : INV (upd (a0.2.2.2.1 0) ((a0.1 0) + s1) j22) := INV_free h3 (SQ.fr hs1 (j := (a0.1 0) + s1) (by omega) (by omega))
          refine V_iast 36 B 1 rfl (vp_in_nI (n := (a0.1 0) + s1) (by omega) (by decide)) dX12_copySequence_36 [(h0, oC 13 [.ref h1, .ref h2, .int p2, .ref h3, .ref h4, .int (nI k5), .int (nI k6), .int p7, .int p8, .int p9, .int (nI k10), .int p11, .long q12, .ref h5, .ref h6, .int (nI k15), .int (nI k16)]), (h1, aI Y 3640 (upd (a0.2.2.2.1 0) ((a0.1 0) + s1) j22)), (h2, aZ Y 2 f1), (h3, aZ Y 80 f3), (h4, aB Y 1600 f4), (h5, aI Y 200 f13), (h6, aI Y 800 f14)] (by rw [nI_clamp (show (a0.1 0) + s1 < 2 ^ 31 by omega)]; rfl) ?_
          refine V_iinc 37 B (v := (nI (1 + (a0.1 0)))) (lv2 := [(3, .int (nI (1 + (a0.1 0)))), (0, .ref h0), (1, .int (nI s0)), (2, .int (nI s1))]) dX12_copySequence_37 0 rfl (nI_addE (a := (a0.1 0)) (b := 1) (by omega)) (by decide) rfl ?_
          refine V_goto 40 B 2 dX12_copySequence_40 (by decide) ?_
          refine V_lv [(3, .int (nI (1 + (a0.1 0)))), (0, .ref h0), (1, .int (nI s0)), (2, .int (nI s1))] [0, 1, 2, 3] rfl ?_
          exact IH1 (mkW [1 + (a0.1 0)] [] [] [(upd (a0.2.2.2.1 0) ((a0.1 0) + s1) j22)] [] []) ⟨hv24, (by omega), (fr_upd h5 (by omega) (by omega))⟩ (by show 100000 - (1 + (a0.1 0)) < 100000 - (a0.1 0); omega))
theorem dX12_commonOf_0 : decode cX12_commonOf 0 = .ok (.iconst 0, 1) := by decide +kernel
theorem dX12_commonOf_1 : decode cX12_commonOf 1 = .ok (.istore_n 3, 1) := by decide +kernel
theorem dX12_commonOf_2 : decode cX12_commonOf 2 = .ok (.iload_n 3, 1) := by decide +kernel
theorem dX12_commonOf_3 : decode cX12_commonOf 3 = .ok (.aload_n 0, 1) := by decide +kernel
theorem dX12_commonOf_4 : decode cX12_commonOf 4 = .ok (.getfield 9, 3) := by decide +kernel
theorem dX12_commonOf_7 : decode cX12_commonOf 7 = .ok (.iload_n 1, 1) := by decide +kernel
theorem dX12_commonOf_8 : decode cX12_commonOf 8 = .ok (.iaload, 1) := by decide +kernel
theorem dX12_commonOf_9 : decode cX12_commonOf 9 = .ok (.aload_n 0, 1) := by decide +kernel
theorem dX12_commonOf_10 : decode cX12_commonOf 10 = .ok (.getfield 9, 3) := by decide +kernel
theorem dX12_commonOf_13 : decode cX12_commonOf 13 = .ok (.iload_n 2, 1) := by decide +kernel
theorem dX12_commonOf_14 : decode cX12_commonOf 14 = .ok (.iaload, 1) := by decide +kernel
theorem dX12_commonOf_15 : decode cX12_commonOf 15 = .ok (.invokestatic 58, 3) := by decide +kernel
theorem dX12_min_0 : decode cX12_min 0 = .ok (.iload_n 0, 1) := by decide +kernel
theorem dX12_min_1 : decode cX12_min 1 = .ok (.iload_n 1, 1) := by decide +kernel
theorem dX12_min_2 : decode cX12_min 2 = .ok (.if_icmp .ge 7, 3) := by decide +kernel
theorem dX12_min_9 : decode cX12_min 9 = .ok (.iload_n 1, 1) := by decide +kernel
theorem dX12_min_10 : decode cX12_min 10 = .ok (.ireturn, 1) := by decide +kernel
theorem dX12_min_5 : decode cX12_min 5 = .ok (.iload_n 0, 1) := by decide +kernel
theorem dX12_min_6 : decode cX12_min 6 = .ok (.goto 4, 3) := by decide +kernel
set_option maxRecDepth 100000 in
set_option maxHeartbeats 4000000 in
theorem rX12_min (l : Launch) (D : va_G) (Y : Nat → ClassId)  (s0 : Nat) (s1 : Nat) (hn0 : s0 < 5000) (hn1 : s1 < 5000) (sz : Nat) : Met l yX12_min (WSm yX12_min cX12_min 2 (some .int)) (mkR 0 0 0 0) (PreC D Y [.int (nI s0), .int (nI s1)] [] sz) (QI D (fun (r : Int32) (u : WU) => r = nI (min s0 s1)) (fun (u : WU) => []) (va_A [] sz)) 0 0 (va_A [] sz) :=
  met_of (by decide +kernel) (Nat.le_of_ble_eq_true rfl) (fun p e s m args below meth c B hin hsz => by
    have B : VB p s m args meth c D Y (va_A [] sz) cX12_min 2 RX12 (some .int) := B
    refine V_iload_n 0 B dX12_min_0 0 rfl ?_
    refine V_iload_n 1 B dX12_min_1 1 rfl ?_
    refine V_icmp_ge 2 B 9 dX12_min_2 (by decide) (fun k0 => ?_) (fun k0 => ?_)
    ·
      have h1 := n_le (a := s1) (b := s0) k0 (by omega) (by omega)
      refine V_iload_n 9 B dX12_min_9 1 rfl ?_
      exact V_iret 10 B dX12_min_10 (mkW [] [] [] [] [] []) (congrArg nI (by omega)) rfl
    ·
      have h2 := n_nle (a := s1) (b := s0) k0 (by omega) (by omega)
      refine V_iload_n 5 B dX12_min_5 0 rfl ?_
      refine V_goto 6 B 10 dX12_min_6 (by decide) ?_
      exact V_iret 10 B dX12_min_10 (mkW [] [] [] [] [] []) (congrArg nI (by omega)) rfl)
theorem glS_RX12_58 : GLS RX12 58 yX12_min cX12_min 2 (some .int) 2 := ⟨⟨(mT8 86 rfl rfl), (mT8 87 rfl rfl), (mT1 13 rfl rfl), (mT8 88 rfl rfl)⟩, by decide +kernel⟩
theorem dX12_commonOf_18 : decode cX12_commonOf 18 = .ok (.if_icmp .ge 32, 3) := by decide +kernel
theorem dX12_commonOf_50 : decode cX12_commonOf 50 = .ok (.iload_n 3, 1) := by decide +kernel
theorem dX12_commonOf_51 : decode cX12_commonOf 51 = .ok (.ireturn, 1) := by decide +kernel
theorem dX12_commonOf_21 : decode cX12_commonOf 21 = .ok (.aload_n 0, 1) := by decide +kernel
theorem dX12_commonOf_22 : decode cX12_commonOf 22 = .ok (.getfield 9, 3) := by decide +kernel
theorem dX12_commonOf_25 : decode cX12_commonOf 25 = .ok (.iload_n 1, 1) := by decide +kernel
theorem dX12_commonOf_26 : decode cX12_commonOf 26 = .ok (.iload_n 3, 1) := by decide +kernel
theorem dX12_commonOf_27 : decode cX12_commonOf 27 = .ok (.iadd, 1) := by decide +kernel
theorem dX12_commonOf_28 : decode cX12_commonOf 28 = .ok (.iconst 1, 1) := by decide +kernel
theorem dX12_commonOf_29 : decode cX12_commonOf 29 = .ok (.iadd, 1) := by decide +kernel
theorem dX12_commonOf_30 : decode cX12_commonOf 30 = .ok (.iaload, 1) := by decide +kernel
theorem dX12_commonOf_31 : decode cX12_commonOf 31 = .ok (.aload_n 0, 1) := by decide +kernel
theorem dX12_commonOf_32 : decode cX12_commonOf 32 = .ok (.getfield 9, 3) := by decide +kernel
theorem dX12_commonOf_35 : decode cX12_commonOf 35 = .ok (.iload_n 2, 1) := by decide +kernel
theorem dX12_commonOf_36 : decode cX12_commonOf 36 = .ok (.iload_n 3, 1) := by decide +kernel
theorem dX12_commonOf_37 : decode cX12_commonOf 37 = .ok (.iadd, 1) := by decide +kernel
theorem dX12_commonOf_38 : decode cX12_commonOf 38 = .ok (.iconst 1, 1) := by decide +kernel
theorem dX12_commonOf_39 : decode cX12_commonOf 39 = .ok (.iadd, 1) := by decide +kernel
theorem dX12_commonOf_40 : decode cX12_commonOf 40 = .ok (.iaload, 1) := by decide +kernel
theorem dX12_commonOf_41 : decode cX12_commonOf 41 = .ok (.if_icmp .ne 9, 3) := by decide +kernel
theorem dX12_commonOf_44 : decode cX12_commonOf 44 = .ok (.iinc 3 1, 3) := by decide +kernel
theorem dX12_commonOf_47 : decode cX12_commonOf 47 = .ok (.goto (-45), 3) := by decide +kernel
set_option maxRecDepth 100000 in
set_option maxHeartbeats 4000000 in
theorem rX12_commonOf (l : Launch) (D : va_G) (Y : Nat → ClassId) (h0 : Nat) (h1 : Nat) (h2 : Nat) (h3 : Nat) (h4 : Nat) (h5 : Nat) (h6 : Nat) (p2 : Int32) (k5 : Nat) (k6 : Nat) (p7 : Int32) (p8 : Int32) (p9 : Int32) (k10 : Nat) (p11 : Int32) (q12 : Int64) (k15 : Nat) (k16 : Nat) (f0 : Nat → Int32) (f1 : Nat → Int32) (f3 : Nat → Int32) (f4 : Nat → Int32) (f13 : Nat → Int32) (f14 : Nat → Int32) (HI : INV f0) (HL : k5 ≤ 1600) (HP : PLV f13) (s0 : Nat) (s1 : Nat) (hs0 : SQ s0) (hs1 : SQ s1) (sz : Nat) : Met l yX12_commonOf (WSm yX12_commonOf cX12_commonOf 4 (some .int)) (mkR 1 0 0 21) (PreC D Y [.ref h0, .int (nI s0), .int (nI s1)] [(h0, oC 13 [.ref h1, .ref h2, .int p2, .ref h3, .ref h4, .int (nI k5), .int (nI k6), .int p7, .int p8, .int p9, .int (nI k10), .int p11, .long q12, .ref h5, .ref h6, .int (nI k15), .int (nI k16)]), (h1, aI Y 3640 f0), (h2, aZ Y 2 f1), (h3, aZ Y 80 f3), (h4, aB Y 1600 f4), (h5, aI Y 200 f13), (h6, aI Y 800 f14)] sz) (QI D (fun (r : Int32) (u : WU) => (∃ c : Nat, r = nI c ∧ c ≤ 4)) (fun (u : WU) => [(h0, oC 13 [.ref h1, .ref h2, .int p2, .ref h3, .ref h4, .int (nI k5), .int (nI k6), .int p7, .int p8, .int p9, .int (nI k10), .int p11, .long q12, .ref h5, .ref h6, .int (nI k15), .int (nI k16)]), (h1, aI Y 3640 f0), (h2, aZ Y 2 f1), (h3, aZ Y 80 f3), (h4, aB Y 1600 f4), (h5, aI Y 200 f13), (h6, aI Y 800 f14)]) (va_A [(h0, oC 13 [.ref h1, .ref h2, .int p2, .ref h3, .ref h4, .int (nI k5), .int (nI k6), .int p7, .int p8, .int p9, .int (nI k10), .int p11, .long q12, .ref h5, .ref h6, .int (nI k15), .int (nI k16)]), (h1, aI Y 3640 f0), (h2, aZ Y 2 f1), (h3, aZ Y 80 f3), (h4, aB Y 1600 f4), (h5, aI Y 200 f13), (h6, aI Y 800 f14)] sz)) 0 0 (va_A [(h0, oC 13 [.ref h1, .ref h2, .int p2, .ref h3, .ref h4, .int (nI k5), .int (nI k6), .int p7, .int p8, .int p9, .int (nI k10), .int p11, .long q12, .ref h5, .ref h6, .int (nI k15), .int (nI k16)]), (h1, aI Y 3640 f0), (h2, aZ Y 2 f1), (h3, aZ Y 80 f3), (h4, aB Y 1600 f4), (h5, aI Y 200 f13), (h6, aI Y 800 f14)] sz) :=
  met_of (by decide +kernel) (Nat.le_of_ble_eq_true rfl) (fun p e s m args below meth c B hin hsz => by
    have B : VB p s m args meth c D Y (va_A [(h0, oC 13 [.ref h1, .ref h2, .int p2, .ref h3, .ref h4, .int (nI k5), .int (nI k6), .int p7, .int p8, .int p9, .int (nI k10), .int p11, .long q12, .ref h5, .ref h6, .int (nI k15), .int (nI k16)]), (h1, aI Y 3640 f0), (h2, aZ Y 2 f1), (h3, aZ Y 80 f3), (h4, aB Y 1600 f4), (h5, aI Y 200 f13), (h6, aI Y 800 f14)] sz) cX12_commonOf 4 RX12 (some .int) := B
    have hq_s0 := hs0.1
    have hq_s1 := hs1.1
    refine V_iconst 0 B (v := 0) dX12_commonOf_0 (by decide +kernel) ?_
    refine V_istore_n 1 B (lv2 := [(3, .int 0), (0, .ref h0), (1, .int (nI s0)), (2, .int (nI s1))]) dX12_commonOf_1 (by decide) rfl ?_
    refine V_wloop (α := WU) (fun a => 100000 - (a.1 0)) (fun a => (a.1 0) ≤ 4) (fun a => [(3, .int (nI (a.1 0))), (0, .ref h0), (1, .int (nI s0)), (2, .int (nI s1))]) (fun a => [(h0, oC 13 [.ref h1, .ref h2, .int p2, .ref h3, .ref h4, .int (nI k5), .int (nI k6), .int p7, .int p8, .int p9, .int (nI k10), .int p11, .long q12, .ref h5, .ref h6, .int (nI k15), .int (nI k16)]), (h1, aI Y 3640 f0), (h2, aZ Y 2 f1), (h3, aZ Y 80 f3), (h4, aB Y 1600 f4), (h5, aI Y 200 f13), (h6, aI Y 800 f14)]) (mkW [0] [] [] [] [] []) (by omega) rfl rfl (fun a0 hI2 IH1 => ?_)
    refine V_lv [(3, .int (nI (a0.1 0))), (0, .ref h0), (1, .int (nI s0)), (2, .int (nI s1))] [0, 1, 2, 3] rfl ?_
    refine V_ws [(h0, oC 13 [.ref h1, .ref h2, .int p2, .ref h3, .ref h4, .int (nI k5), .int (nI k6), .int p7, .int p8, .int p9, .int (nI k10), .int p11, .long q12, .ref h5, .ref h6, .int (nI k15), .int (nI k16)]), (h1, aI Y 3640 f0), (h2, aZ Y 2 f1), (h3, aZ Y 80 f3), (h4, aB Y 1600 f4), (h5, aI Y 200 f13), (h6, aI Y 800 f14)] rfl ?_
    have h3 := hI2
    refine V_iload_n 2 B dX12_commonOf_2 0 rfl ?_
    refine V_aload_n 3 B dX12_commonOf_3 1 rfl ?_
    refine V_get 4 B gf_RX12_9 0 rfl rfl dX12_commonOf_4 ?_
    refine V_iload_n 7 B dX12_commonOf_7 2 rfl ?_
    have h4 : (gN f0 s0) ≤ 4 := gN_le HI (by omega) hs0.2.1
    refine V_iald 8 B (v := (nI (gN f0 s0))) 1 rfl (vp_in_nI (n := s0) (by omega) (by decide)) dX12_commonOf_8 (by rw [nI_clamp (show s0 < 2 ^ 31 by omega)]; exact gN_eq HI (by omega) hs0.2.1) ?_
    refine V_aload_n 9 B dX12_commonOf_9 1 rfl ?_
    refine V_get 10 B gf_RX12_9 0 rfl rfl dX12_commonOf_10 ?_
    refine V_iload_n 13 B dX12_commonOf_13 3 rfl ?_
    have h5 : (gN f0 s1) ≤ 4 := gN_le HI (by omega) hs1.2.1
    refine V_iald 14 B (v := (nI (gN f0 s1))) 1 rfl (vp_in_nI (n := s1) (by omega) (by decide)) dX12_commonOf_14 (by rw [nI_clamp (show s1 < 2 ^ 31 by omega)]; exact gN_eq HI (by omega) hs1.2.1) ?_
    refine V_csi 15 B (st := [.int (nI (a0.1 0))]) (As := [.int (nI (gN f0 s0)), .int (nI (gN f0 s1))]) (fun sz => rX12_min l D Y (gN f0 s0) (gN f0 s1) (by omega) (by omega) sz) glS_RX12_58 ⟨rfl, rfl⟩ ⟨(Nat.le_of_ble_eq_true rfl), (Nat.le_of_ble_eq_true rfl)⟩ ⟨(Nat.le_of_ble_eq_true rfl), (Nat.le_of_ble_eq_true rfl)⟩ [] rfl rfl (Nat.le_of_ble_eq_true rfl) rfl (fun _ _ _ => rfl) dX12_commonOf_15 (fun j6 u7 w8 => ?_)
    refine V_ws [(h0, oC 13 [.ref h1, .ref h2, .int p2, .ref h3, .ref h4, .int (nI k5), .int (nI k6), .int p7, .int p8, .int p9, .int (nI k10), .int p11, .long q12, .ref h5, .ref h6, .int (nI k15), .int (nI k16)]), (h1, aI Y 3640 f0), (h2, aZ Y 2 f1), (h3, aZ Y 80 f3), (h4, aB Y 1600 f4), (h5, aI Y 200 f13), (h6, aI Y 800 f14)] rfl ?_
    have h9 := w8
    obtain rfl := h9
    refine V_icmp_ge 18 B 50 dX12_commonOf_18 (by decide) (fun k10 => ?_) (fun k10 => ?_)
    ·
      have h11 := n_le (a := (min (gN f0 s0) (gN f0 s1))) (b := (a0.1 0)) k10 (by omega) (by omega)
      refine V_iload_n 50 B dX12_commonOf_50 0 rfl ?_
      exact V_iret 51 B dX12_commonOf_51 (mkW [] [] [] [] [] []) ⟨(a0.1 0), rfl, by omega⟩ rfl
    ·
      have h12 := n_nle (a := (min (gN f0 s0) (gN f0 s1))) (b := (a0.1 0)) k10 (by omega) (by omega)
      refine V_aload_n 21 B dX12_commonOf_21 1 rfl ?_
      refine V_get 22 B gf_RX12_9 0 rfl rfl dX12_commonOf_22 ?_
      refine V_iload_n 25 B dX12_commonOf_25 2 rfl ?_
      refine V_iload_n 26 B dX12_commonOf_26 0 rfl ?_
      refine V_iadd 27 B (v := (nI ((a0.1 0) + s0))) dX12_commonOf_27 (nI_addE (a := s0) (b := (a0.1 0)) (by omega)) ?_
      refine V_iconst 28 B (v := 1) dX12_commonOf_28 (by decide +kernel) ?_
      refine V_iadd 29 B (v := (nI (1 + (a0.1 0) + s0))) dX12_commonOf_29 (nI_addE (a := (a0.1 0) + s0) (b := 1) (by omega)) ?_
      refine V_iald 30 B (v := f0 (1 + (a0.1 0) + s0)) 1 rfl (vp_in_nI (n := 1 + (a0.1 0) + s0) (by omega) (by decide)) dX12_commonOf_30 (by rw [nI_clamp (show 1 + (a0.1 0) + s0 < 2 ^ 31 by omega)]; exact rfl) ?_
      refine V_nmi (fun j13 e14 => ?_)
      refine V_aload_n 31 B dX12_commonOf_31 1 rfl ?_
      refine V_get 32 B gf_RX12_9 0 rfl rfl dX12_commonOf_32 ?_
      refine V_iload_n 35 B dX12_commonOf_35 3 rfl ?_
      refine V_iload_n 36 B dX12_commonOf_36 0 rfl ?_
      refine V_iadd 37 B (v := (nI ((a0.1 0) + s1))) dX12_commonOf_37 (nI_addE (a := s1) (b := (a0.1 0)) (by omega)) ?_
      refine V_iconst 38 B (v := 1) dX12_commonOf_38 (by decide +kernel) ?_
      refine V_iadd 39 B (v := (nI (1 + (a0.1 0) + s1))) dX12_commonOf_39 (nI_addE (a := (a0.1 0) + s1) (b := 1) (by omega)) ?_
      refine V_iald 40 B (v := f0 (1 + (a0.1 0) + s1)) 1 rfl (vp_in_nI (n := 1 + (a0.1 0) + s1) (by omega) (by decide)) dX12_commonOf_40 (by rw [nI_clamp (show 1 + (a0.1 0) + s1 < 2 ^ 31 by omega)]; exact rfl) ?_
      refine V_nmi (fun j15 e16 => ?_)
      refine V_icmp_ne 41 B 50 dX12_commonOf_41 (by decide) (fun k17 => ?_) (fun k17 => ?_)
      ·
        have h18 := x_ne k17
        refine V_iload_n 50 B dX12_commonOf_50 0 rfl ?_
        exact V_iret 51 B dX12_commonOf_51 (mkW [] [] [] [] [] []) ⟨(a0.1 0), rfl, by omega⟩ rfl
      ·
        have h19 := x_eq k17
        refine V_iinc 44 B (v := (nI (1 + (a0.1 0)))) (lv2 := [(3, .int (nI (1 + (a0.1 0)))), (0, .ref h0), (1, .int (nI s0)), (2, .int (nI s1))]) dX12_commonOf_44 0 rfl (nI_addE (a := (a0.1 0)) (b := 1) (by omega)) (by decide) rfl ?_
        refine V_goto 47 B 2 dX12_commonOf_47 (by decide) ?_
        refine V_lv [(3, .int (nI (1 + (a0.1 0)))), (0, .ref h0), (1, .int (nI s0)), (2, .int (nI s1))] [0, 1, 2, 3] rfl ?_
        exact IH1 (mkW [1 + (a0.1 0)] [] [] [] [] []) (by omega) (by show 100000 - (1 + (a0.1 0)) < 100000 - (a0.1 0); omega))
theorem dX12_clashesReserved_0 : decode cX12_clashesReserved 0 = .ok (.iconst 0, 1) := by decide +kernel
theorem dX12_clashesReserved_1 : decode cX12_clashesReserved 1 = .ok (.istore_n 2, 1) := by decide +kernel
theorem dX12_clashesReserved_2 : decode cX12_clashesReserved 2 = .ok (.iconst 0, 1) := by decide +kernel
theorem dX12_clashesReserved_3 : decode cX12_clashesReserved 3 = .ok (.istore_n 3, 1) := by decide +kernel
theorem dX12_clashesReserved_4 : decode cX12_clashesReserved 4 = .ok (.iload_n 3, 1) := by decide +kernel
theorem dX12_clashesReserved_5 : decode cX12_clashesReserved 5 = .ok (.aload_n 0, 1) := by decide +kernel
theorem dX12_clashesReserved_6 : decode cX12_clashesReserved 6 = .ok (.getfield 9, 3) := by decide +kernel
theorem dX12_clashesReserved_9 : decode cX12_clashesReserved 9 = .ok (.iconst 2, 1) := by decide +kernel
theorem dX12_clashesReserved_10 : decode cX12_clashesReserved 10 = .ok (.iaload, 1) := by decide +kernel
theorem dX12_clashesReserved_11 : decode cX12_clashesReserved 11 = .ok (.if_icmp .ge 21, 3) := by decide +kernel
theorem dX12_clashesReserved_32 : decode cX12_clashesReserved 32 = .ok (.iload_n 2, 1) := by decide +kernel
theorem dX12_clashesReserved_33 : decode cX12_clashesReserved 33 = .ok (.ireturn, 1) := by decide +kernel
theorem dX12_clashesReserved_14 : decode cX12_clashesReserved 14 = .ok (.iload_n 2, 1) := by decide +kernel
theorem dX12_clashesReserved_15 : decode cX12_clashesReserved 15 = .ok (.aload_n 0, 1) := by decide +kernel
theorem dX12_clashesReserved_16 : decode cX12_clashesReserved 16 = .ok (.iload_n 3, 1) := by decide +kernel
theorem dX12_clashesReserved_17 : decode cX12_clashesReserved 17 = .ok (.invokestatic 108, 3) := by decide +kernel
theorem dX12_reservedAt_0 : decode cX12_reservedAt 0 = .ok (.sipush 154, 3) := by decide +kernel
theorem dX12_reservedAt_3 : decode cX12_reservedAt 3 = .ok (.iconst 5, 1) := by decide +kernel
theorem dX12_reservedAt_4 : decode cX12_reservedAt 4 = .ok (.iload_n 0, 1) := by decide +kernel
theorem dX12_reservedAt_5 : decode cX12_reservedAt 5 = .ok (.imul, 1) := by decide +kernel
theorem dX12_reservedAt_6 : decode cX12_reservedAt 6 = .ok (.iadd, 1) := by decide +kernel
theorem dX12_reservedAt_7 : decode cX12_reservedAt 7 = .ok (.ireturn, 1) := by decide +kernel
set_option maxRecDepth 100000 in
set_option maxHeartbeats 4000000 in
theorem rX12_reservedAt (l : Launch) (D : va_G) (Y : Nat → ClassId)  (s0 : Nat) (hn0 : s0 < 7) (sz : Nat) : Met l yX12_reservedAt (WSm yX12_reservedAt cX12_reservedAt 1 (some .int)) (mkR 0 0 0 0) (PreC D Y [.int (nI s0)] [] sz) (QI D (fun (r : Int32) (u : WU) => r = nI (154 + 5 * s0)) (fun (u : WU) => []) (va_A [] sz)) 0 0 (va_A [] sz) :=
  met_of (by decide +kernel) (Nat.le_of_ble_eq_true rfl) (fun p e s m args below meth c B hin hsz => by
    have B : VB p s m args meth c D Y (va_A [] sz) cX12_reservedAt 1 RX12 (some .int) := B
    refine V_sipush 0 B (v := 154) dX12_reservedAt_0 (by decide +kernel) ?_
    refine V_iconst 3 B (v := 5) dX12_reservedAt_3 (by decide +kernel) ?_
    refine V_iload_n 4 B dX12_reservedAt_4 0 rfl ?_
    refine V_imul 5 B (v := (nI (5 * s0))) dX12_reservedAt_5 (nI_mulE (a := 5) (b := s0) (by omega)) ?_
    refine V_iadd 6 B (v := (nI (154 + 5 * s0))) dX12_reservedAt_6 (nI_addE (a := 154) (b := 5 * s0) (by omega)) ?_
    exact V_iret 7 B dX12_reservedAt_7 (mkW [] [] [] [] [] []) (congrArg nI (by omega)) rfl)
theorem glS_RX12_108 : GLS RX12 108 yX12_reservedAt cX12_reservedAt 1 (some .int) 1 := ⟨⟨(mT8 89 rfl rfl), (mT8 90 rfl rfl), (mT1 13 rfl rfl), (mT8 91 rfl rfl)⟩, by decide +kernel⟩
theorem dX12_clashesReserved_20 : decode cX12_clashesReserved 20 = .ok (.iload_n 1, 1) := by decide +kernel
theorem dX12_clashesReserved_21 : decode cX12_clashesReserved 21 = .ok (.invokevirtual 111, 3) := by decide +kernel
theorem rl0 : ∀ z0, z0 < 6 → SQ (154 + 5 * z0) := by unfold SQ; decide +kernel
theorem dX12_doClash_0 : decode cX12_doClash 0 = .ok (.aload_n 0, 1) := by decide +kernel
theorem dX12_doClash_1 : decode cX12_doClash 1 = .ok (.iload_n 1, 1) := by decide +kernel
theorem dX12_doClash_2 : decode cX12_doClash 2 = .ok (.iload_n 2, 1) := by decide +kernel
theorem dX12_doClash_3 : decode cX12_doClash 3 = .ok (.invokevirtual 62, 3) := by decide +kernel
theorem glV_RX12_62 : GLV RX12 62 yX12_commonOf RX12 cX12_commonOf 4 (some .int) 2 := ⟨⟨(mT8 82 rfl rfl), (mT8 84 rfl rfl), (mTs 43 rfl rfl), (mT1 13 rfl rfl), (mT8 85 rfl rfl)⟩, by decide +kernel⟩
theorem dX12_doClash_6 : decode cX12_doClash 6 = .ok (.aload_n 0, 1) := by decide +kernel
theorem dX12_doClash_7 : decode cX12_doClash 7 = .ok (.getfield 9, 3) := by decide +kernel
theorem dX12_doClash_10 : decode cX12_doClash 10 = .ok (.iload_n 1, 1) := by decide +kernel
theorem dX12_doClash_11 : decode cX12_doClash 11 = .ok (.iaload, 1) := by decide +kernel
theorem dX12_doClash_12 : decode cX12_doClash 12 = .ok (.aload_n 0, 1) := by decide +kernel
theorem dX12_doClash_13 : decode cX12_doClash 13 = .ok (.getfield 9, 3) := by decide +kernel
theorem dX12_doClash_16 : decode cX12_doClash 16 = .ok (.iload_n 2, 1) := by decide +kernel
theorem dX12_doClash_17 : decode cX12_doClash 17 = .ok (.iaload, 1) := by decide +kernel
theorem dX12_doClash_18 : decode cX12_doClash 18 = .ok (.invokestatic 58, 3) := by decide +kernel
theorem dX12_doClash_21 : decode cX12_doClash 21 = .ok (.if_icmp .ne 7, 3) := by decide +kernel
theorem dX12_doClash_28 : decode cX12_doClash 28 = .ok (.iconst 0, 1) := by decide +kernel
theorem dX12_doClash_29 : decode cX12_doClash 29 = .ok (.ireturn, 1) := by decide +kernel
theorem dX12_doClash_24 : decode cX12_doClash 24 = .ok (.iconst 1, 1) := by decide +kernel
theorem dX12_doClash_25 : decode cX12_doClash 25 = .ok (.goto 4, 3) := by decide +kernel
set_option maxRecDepth 100000 in
set_option maxHeartbeats 4000000 in
theorem rX12_doClash (l : Launch) (D : va_G) (Y : Nat → ClassId) (h0 : Nat) (h1 : Nat) (h2 : Nat) (h3 : Nat) (h4 : Nat) (h5 : Nat) (h6 : Nat) (p2 : Int32) (k5 : Nat) (k6 : Nat) (p7 : Int32) (p8 : Int32) (p9 : Int32) (k10 : Nat) (p11 : Int32) (q12 : Int64) (k15 : Nat) (k16 : Nat) (f0 : Nat → Int32) (f1 : Nat → Int32) (f3 : Nat → Int32) (f4 : Nat → Int32) (f13 : Nat → Int32) (f14 : Nat → Int32) (HI : INV f0) (HL : k5 ≤ 1600) (HP : PLV f13) (s0 : Nat) (s1 : Nat) (hs0 : SQ s0) (hs1 : SQ s1) (sz : Nat) : Met l yX12_doClash (WSm yX12_doClash cX12_doClash 3 (some .boolean)) (mkR 2 0 0 44) (PreC D Y [.ref h0, .int (nI s0), .int (nI s1)] [(h0, oC 13 [.ref h1, .ref h2, .int p2, .ref h3, .ref h4, .int (nI k5), .int (nI k6), .int p7, .int p8, .int p9, .int (nI k10), .int p11, .long q12, .ref h5, .ref h6, .int (nI k15), .int (nI k16)]), (h1, aI Y 3640 f0), (h2, aZ Y 2 f1), (h3, aZ Y 80 f3), (h4, aB Y 1600 f4), (h5, aI Y 200 f13), (h6, aI Y 800 f14)] sz) (QI D (fun (r : Int32) (u : WU) => (r = 0 ∨ r = 1)) (fun (u : WU) => [(h0, oC 13 [.ref h1, .ref h2, .int p2, .ref h3, .ref h4, .int (nI k5), .int (nI k6), .int p7, .int p8, .int p9, .int (nI k10), .int p11, .long q12, .ref h5, .ref h6, .int (nI k15), .int (nI k16)]), (h1, aI Y 3640 f0), (h2, aZ Y 2 f1), (h3, aZ Y 80 f3), (h4, aB Y 1600 f4), (h5, aI Y 200 f13), (h6, aI Y 800 f14)]) (va_A [(h0, oC 13 [.ref h1, .ref h2, .int p2, .ref h3, .ref h4, .int (nI k5), .int (nI k6), .int p7, .int p8, .int p9, .int (nI k10), .int p11, .long q12, .ref h5, .ref h6, .int (nI k15), .int (nI k16)]), (h1, aI Y 3640 f0), (h2, aZ Y 2 f1), (h3, aZ Y 80 f3), (h4, aB Y 1600 f4), (h5, aI Y 200 f13), (h6, aI Y 800 f14)] sz)) 0 0 (va_A [(h0, oC 13 [.ref h1, .ref h2, .int p2, .ref h3, .ref h4, .int (nI k5), .int (nI k6), .int p7, .int p8, .int p9, .int (nI k10), .int p11, .long q12, .ref h5, .ref h6, .int (nI k15), .int (nI k16)]), (h1, aI Y 3640 f0), (h2, aZ Y 2 f1), (h3, aZ Y 80 f3), (h4, aB Y 1600 f4), (h5, aI Y 200 f13), (h6, aI Y 800 f14)] sz) :=
  met_of (by decide +kernel) (Nat.le_of_ble_eq_true rfl) (fun p e s m args below meth c B hin hsz => by
    have B : VB p s m args meth c D Y (va_A [(h0, oC 13 [.ref h1, .ref h2, .int p2, .ref h3, .ref h4, .int (nI k5), .int (nI k6), .int p7, .int p8, .int p9, .int (nI k10), .int p11, .long q12, .ref h5, .ref h6, .int (nI k15), .int (nI k16)]), (h1, aI Y 3640 f0), (h2, aZ Y 2 f1), (h3, aZ Y 80 f3), (h4, aB Y 1600 f4), (h5, aI Y 200 f13), (h6, aI Y 800 f14)] sz) cX12_doClash 3 RX12 (some .boolean) := B
    have hq_s0 := hs0.1
    have hq_s1 := hs1.1
    refine V_aload_n 0 B dX12_doClash_0 0 rfl ?_
    refine V_iload_n 1 B dX12_doClash_1 1 rfl ?_
    refine V_iload_n 2 B dX12_doClash_2 2 rfl ?_
    refine V_cvi 3 B (st := []) (As := [.int (nI s0), .int (nI s1)]) (fun sz => rX12_commonOf l D Y h0 h1 h2 h3 h4 h5 h6 p2 k5 k6 p7 p8 p9 k10 p11 q12 k15 k16 f0 f1 f3 f4 f13 f14 HI (by omega) HP s0 s1 hs0 hs1 sz) glV_RX12_62 ⟨rfl, rfl⟩ ⟨(Nat.le_of_ble_eq_true rfl), (Nat.le_of_ble_eq_true rfl)⟩ ⟨(Nat.le_of_ble_eq_true rfl), (Nat.le_of_ble_eq_true rfl)⟩ [0, 0, 0, 0, 0, 0, 0] rfl 13 0 rfl rfl rfl rfl (Nat.le_of_ble_eq_true rfl) rfl (fun _ _ _ => rfl) dX12_doClash_3 (fun j0 u1 w2 => ?_)
    refine V_ws [(h0, oC 13 [.ref h1, .ref h2, .int p2, .ref h3, .ref h4, .int (nI k5), .int (nI k6), .int p7, .int p8, .int p9, .int (nI k10), .int p11, .long q12, .ref h5, .ref h6, .int (nI k15), .int (nI k16)]), (h1, aI Y 3640 f0), (h2, aZ Y 2 f1), (h3, aZ Y 80 f3), (h4, aB Y 1600 f4), (h5, aI Y 200 f13), (h6, aI Y 800 f14)] rfl ?_
    have h3 := w2
    obtain ⟨n4, rfl, h5⟩ := h3
    refine V_aload_n 6 B dX12_doClash_6 0 rfl ?_
    refine V_get 7 B gf_RX12_9 0 rfl rfl dX12_doClash_7 ?_
    refine V_iload_n 10 B dX12_doClash_10 1 rfl ?_
    have h6 : (gN f0 s0) ≤ 4 := gN_le HI (by omega) hs0.2.1
    refine V_iald 11 B (v := (nI (gN f0 s0))) 1 rfl (vp_in_nI (n := s0) (by omega) (by decide)) dX12_doClash_11 (by rw [nI_clamp (show s0 < 2 ^ 31 by omega)]; exact gN_eq HI (by omega) hs0.2.1) ?_
    refine V_aload_n 12 B dX12_doClash_12 0 rfl ?_
    refine V_get 13 B gf_RX12_9 0 rfl rfl dX12_doClash_13 ?_
    refine V_iload_n 16 B dX12_doClash_16 2 rfl ?_
    have h7 : (gN f0 s1) ≤ 4 := gN_le HI (by omega) hs1.2.1
    refine V_iald 17 B (v := (nI (gN f0 s1))) 1 rfl (vp_in_nI (n := s1) (by omega) (by decide)) dX12_doClash_17 (by rw [nI_clamp (show s1 < 2 ^ 31 by omega)]; exact gN_eq HI (by omega) hs1.2.1) ?_
    refine V_csi 18 B (st := [.int (nI n4)]) (As := [.int (nI (gN f0 s0)), .int (nI (gN f0 s1))]) (fun sz => rX12_min l D Y (gN f0 s0) (gN f0 s1) (by omega) (by omega) sz) glS_RX12_58 ⟨rfl, rfl⟩ ⟨(Nat.le_of_ble_eq_true rfl), (Nat.le_of_ble_eq_true rfl)⟩ ⟨(Nat.le_of_ble_eq_true rfl), (Nat.le_of_ble_eq_true rfl)⟩ [] rfl rfl (Nat.le_of_ble_eq_true rfl) rfl (fun _ _ _ => rfl) dX12_doClash_18 (fun j8 u9 w10 => ?_)
    refine V_ws [(h0, oC 13 [.ref h1, .ref h2, .int p2, .ref h3, .ref h4, .int (nI k5), .int (nI k6), .int p7, .int p8, .int p9, .int (nI k10), .int p11, .long q12, .ref h5, .ref h6, .int (nI k15), .int (nI k16)]), (h1, aI Y 3640 f0), (h2, aZ Y 2 f1), (h3, aZ Y 80 f3), (h4, aB Y 1600 f4), (h5, aI Y 200 f13), (h6, aI Y 800 f14)] rfl ?_
    have h11 := w10
    obtain rfl := h11
    refine V_icmp_ne 21 B 28 dX12_doClash_21 (by decide) (fun k12 => ?_) (fun k12 => ?_)
    ·
      have h13 := n_ne (a := n4) (b := (min (gN f0 s0) (gN f0 s1))) k12
      refine V_iconst 28 B (v := 0) dX12_doClash_28 (by decide +kernel) ?_
      exact V_zret 29 B rfl dX12_doClash_29 (mkW [] [] [] [] [] []) (Or.inl rfl) rfl
    ·
      have h14 := n_eq (a := n4) (b := (min (gN f0 s0) (gN f0 s1))) k12 (by omega) (by omega)
      refine V_iconst 24 B (v := 1) dX12_doClash_24 (by decide +kernel) ?_
      refine V_goto 25 B 29 dX12_doClash_25 (by decide) ?_
      exact V_zret 29 B rfl dX12_doClash_29 (mkW [] [] [] [] [] []) (Or.inr rfl) rfl)
theorem glV_RX12_111 : GLV RX12 111 yX12_doClash RX12 cX12_doClash 3 (some .boolean) 2 := ⟨⟨(mT8 78 rfl rfl), (mT8 80 rfl rfl), (mTs 42 rfl rfl), (mT1 13 rfl rfl), (mT8 81 rfl rfl)⟩, by decide +kernel⟩
theorem dX12_clashesReserved_24 : decode cX12_clashesReserved 24 = .ok (.ior, 1) := by decide +kernel
theorem dX12_clashesReserved_25 : decode cX12_clashesReserved 25 = .ok (.istore_n 2, 1) := by decide +kernel
theorem dX12_clashesReserved_26 : decode cX12_clashesReserved 26 = .ok (.iinc 3 1, 3) := by decide +kernel
theorem dX12_clashesReserved_29 : decode cX12_clashesReserved 29 = .ok (.goto (-25), 3) := by decide +kernel
set_option maxRecDepth 100000 in
set_option maxHeartbeats 4000000 in
theorem rX12_clashesReserved (l : Launch) (D : va_G) (Y : Nat → ClassId) (h0 : Nat) (h1 : Nat) (h2 : Nat) (h3 : Nat) (h4 : Nat) (h5 : Nat) (h6 : Nat) (p2 : Int32) (k5 : Nat) (k6 : Nat) (p7 : Int32) (p8 : Int32) (p9 : Int32) (k10 : Nat) (p11 : Int32) (q12 : Int64) (k15 : Nat) (k16 : Nat) (f0 : Nat → Int32) (f1 : Nat → Int32) (f3 : Nat → Int32) (f4 : Nat → Int32) (f13 : Nat → Int32) (f14 : Nat → Int32) (HI : INV f0) (HL : k5 ≤ 1600) (HP : PLV f13) (s0 : Nat) (hs0 : SQ s0) (sz : Nat) : Met l yX12_clashesReserved (WSm yX12_clashesReserved cX12_clashesReserved 4 (some .boolean)) (mkR 3 0 0 66) (PreC D Y [.ref h0, .int (nI s0)] [(h0, oC 13 [.ref h1, .ref h2, .int p2, .ref h3, .ref h4, .int (nI k5), .int (nI k6), .int p7, .int p8, .int p9, .int (nI k10), .int p11, .long q12, .ref h5, .ref h6, .int (nI k15), .int (nI k16)]), (h1, aI Y 3640 f0), (h2, aZ Y 2 f1), (h3, aZ Y 80 f3), (h4, aB Y 1600 f4), (h5, aI Y 200 f13), (h6, aI Y 800 f14)] sz) (QI D (fun (r : Int32) (u : WU) => (r = 0 ∨ r = 1)) (fun (u : WU) => [(h0, oC 13 [.ref h1, .ref h2, .int p2, .ref h3, .ref h4, .int (nI k5), .int (nI k6), .int p7, .int p8, .int p9, .int (nI k10), .int p11, .long q12, .ref h5, .ref h6, .int (nI k15), .int (nI k16)]), (h1, aI Y 3640 f0), (h2, aZ Y 2 f1), (h3, aZ Y 80 f3), (h4, aB Y 1600 f4), (h5, aI Y 200 f13), (h6, aI Y 800 f14)]) (va_A [(h0, oC 13 [.ref h1, .ref h2, .int p2, .ref h3, .ref h4, .int (nI k5), .int (nI k6), .int p7, .int p8, .int p9, .int (nI k10), .int p11, .long q12, .ref h5, .ref h6, .int (nI k15), .int (nI k16)]), (h1, aI Y 3640 f0), (h2, aZ Y 2 f1), (h3, aZ Y 80 f3), (h4, aB Y 1600 f4), (h5, aI Y 200 f13), (h6, aI Y 800 f14)] sz)) 0 0 (va_A [(h0, oC 13 [.ref h1, .ref h2, .int p2, .ref h3, .ref h4, .int (nI k5), .int (nI k6), .int p7, .int p8, .int p9, .int (nI k10), .int p11, .long q12, .ref h5, .ref h6, .int (nI k15), .int (nI k16)]), (h1, aI Y 3640 f0), (h2, aZ Y 2 f1), (h3, aZ Y 80 f3), (h4, aB Y 1600 f4), (h5, aI Y 200 f13), (h6, aI Y 800 f14)] sz) :=
  met_of (by decide +kernel) (Nat.le_of_ble_eq_true rfl) (fun p e s m args below meth c B hin hsz => by
    have B : VB p s m args meth c D Y (va_A [(h0, oC 13 [.ref h1, .ref h2, .int p2, .ref h3, .ref h4, .int (nI k5), .int (nI k6), .int p7, .int p8, .int p9, .int (nI k10), .int p11, .long q12, .ref h5, .ref h6, .int (nI k15), .int (nI k16)]), (h1, aI Y 3640 f0), (h2, aZ Y 2 f1), (h3, aZ Y 80 f3), (h4, aB Y 1600 f4), (h5, aI Y 200 f13), (h6, aI Y 800 f14)] sz) cX12_clashesReserved 4 RX12 (some .boolean) := B
    have hq_s0 := hs0.1
    refine V_iconst 0 B (v := 0) dX12_clashesReserved_0 (by decide +kernel) ?_
    refine V_istore_n 1 B (lv2 := [(2, .int 0), (0, .ref h0), (1, .int (nI s0))]) dX12_clashesReserved_1 (by decide) rfl ?_
    refine V_iconst 2 B (v := 0) dX12_clashesReserved_2 (by decide +kernel) ?_
    refine V_istore_n 3 B (lv2 := [(3, .int 0), (2, .int 0), (0, .ref h0), (1, .int (nI s0))]) dX12_clashesReserved_3 (by decide) rfl ?_
    refine V_wloop (α := WU) (fun a => 100000 - (a.1 0)) (fun a => (a.1 0) ≤ 6 ∧ ((a.2.1 0) = 0 ∨ (a.2.1 0) = 1)) (fun a => [(3, .int (nI (a.1 0))), (2, .int (a.2.1 0)), (0, .ref h0), (1, .int (nI s0))]) (fun a => [(h0, oC 13 [.ref h1, .ref h2, .int p2, .ref h3, .ref h4, .int (nI k5), .int (nI k6), .int p7, .int p8, .int p9, .int (nI k10), .int p11, .long q12, .ref h5, .ref h6, .int (nI k15), .int (nI k16)]), (h1, aI Y 3640 f0), (h2, aZ Y 2 f1), (h3, aZ Y 80 f3), (h4, aB Y 1600 f4), (h5, aI Y 200 f13), (h6, aI Y 800 f14)]) (mkW [0] [0] [] [] [] []) ⟨(by omega), (Or.inl rfl)⟩ rfl rfl (fun a0 hI2 IH1 => ?_)
    refine V_lv [(3, .int (nI (a0.1 0))), (2, .int (a0.2.1 0)), (0, .ref h0), (1, .int (nI s0))] [0, 1, 2, 3] rfl ?_
    refine V_ws [(h0, oC 13 [.ref h1, .ref h2, .int p2, .ref h3, .ref h4, .int (nI k5), .int (nI k6), .int p7, .int p8, .int p9, .int (nI k10), .int p11, .long q12, .ref h5, .ref h6, .int (nI k15), .int (nI k16)]), (h1, aI Y 3640 f0), (h2, aZ Y 2 f1), (h3, aZ Y 80 f3), (h4, aB Y 1600 f4), (h5, aI Y 200 f13), (h6, aI Y 800 f14)] rfl ?_
    obtain ⟨h3, h4⟩ := hI2
    rcases h4 with e5 | e5
    ·
      refine V_lv [(3, .int (nI (a0.1 0))), (2, .int 0), (0, .ref h0), (1, .int (nI s0))] [0, 1, 2, 3] (by rw [e5]; rfl) ?_
      refine V_iload_n 4 B dX12_clashesReserved_4 0 rfl ?_
      refine V_aload_n 5 B dX12_clashesReserved_5 2 rfl ?_
      refine V_get 6 B gf_RX12_9 0 rfl rfl dX12_clashesReserved_6 ?_
      refine V_iconst 9 B (v := 2) dX12_clashesReserved_9 (by decide +kernel) ?_
      have h6 : (gN f0 2) ≤ 6 := gN_le HI (by omega) (show bd 2 = (0, ((6 : Nat) : Int)) by decide +kernel)
      refine V_iald 10 B (v := (nI (gN f0 2))) 1 rfl (vpin _ _ (by decide +kernel)) dX12_clashesReserved_10 (by show f0 2 = _; exact gN_eq HI (by omega) (show bd 2 = (0, ((6 : Nat) : Int)) by decide +kernel)) ?_
      refine V_icmp_ge 11 B 32 dX12_clashesReserved_11 (by decide) (fun k7 => ?_) (fun k7 => ?_)
      ·
        have h8 := n_le (a := (gN f0 2)) (b := (a0.1 0)) k7 (by omega) (by omega)
        refine V_iload_n 32 B dX12_clashesReserved_32 1 rfl ?_
        exact V_zret 33 B rfl dX12_clashesReserved_33 (mkW [] [] [] [] [] []) (Or.inl rfl) rfl
      ·
        have h9 := n_nle (a := (gN f0 2)) (b := (a0.1 0)) k7 (by omega) (by omega)
        refine V_iload_n 14 B dX12_clashesReserved_14 1 rfl ?_
        refine V_aload_n 15 B dX12_clashesReserved_15 2 rfl ?_
        refine V_iload_n 16 B dX12_clashesReserved_16 0 rfl ?_
        refine V_csi 17 B (st := [.ref h0, .int 0]) (As := [.int (nI (a0.1 0))]) (fun sz => rX12_reservedAt l D Y (a0.1 0) (by omega) sz) glS_RX12_108 ⟨rfl, rfl⟩ ⟨(Nat.le_of_ble_eq_true rfl), (Nat.le_of_ble_eq_true rfl)⟩ ⟨(Nat.le_of_ble_eq_true rfl), (Nat.le_of_ble_eq_true rfl)⟩ [] rfl rfl (Nat.le_of_ble_eq_true rfl) rfl (fun _ _ _ => rfl) dX12_clashesReserved_17 (fun j10 u11 w12 => ?_)
        refine V_ws [(h0, oC 13 [.ref h1, .ref h2, .int p2, .ref h3, .ref h4, .int (nI k5), .int (nI k6), .int p7, .int p8, .int p9, .int (nI k10), .int p11, .long q12, .ref h5, .ref h6, .int (nI k15), .int (nI k16)]), (h1, aI Y 3640 f0), (h2, aZ Y 2 f1), (h3, aZ Y 80 f3), (h4, aB Y 1600 f4), (h5, aI Y 200 f13), (h6, aI Y 800 f14)] rfl ?_
        have h13 := w12
        obtain rfl := h13
        refine V_iload_n 20 B dX12_clashesReserved_20 3 rfl ?_
        refine V_cvi 21 B (st := [.int 0]) (As := [.int (nI (154 + 5 * (a0.1 0))), .int (nI s0)]) (fun sz => rX12_doClash l D Y h0 h1 h2 h3 h4 h5 h6 p2 k5 k6 p7 p8 p9 k10 p11 q12 k15 k16 f0 f1 f3 f4 f13 f14 HI (by omega) HP (154 + 5 * (a0.1 0)) s0 (rl0 (a0.1 0) (by omega)) hs0 sz) glV_RX12_111 ⟨rfl, rfl⟩ ⟨(Nat.le_of_ble_eq_true rfl), (Nat.le_of_ble_eq_true rfl)⟩ ⟨(Nat.le_of_ble_eq_true rfl), (Nat.le_of_ble_eq_true rfl)⟩ [0, 0, 0, 0, 0, 0, 0] rfl 13 0 rfl rfl rfl rfl (Nat.le_of_ble_eq_true rfl) rfl (fun _ _ _ => rfl) dX12_clashesReserved_21 (fun j14 u15 w16 => ?_)
        refine V_ws [(h0, oC 13 [.ref h1, .ref h2, .int p2, .ref h3, .ref h4, .int (nI k5), .int (nI k6), .int p7, .int p8, .int p9, .int (nI k10), .int p11, .long q12, .ref h5, .ref h6, .int (nI k15), .int (nI k16)]), (h1, aI Y 3640 f0), (h2, aZ Y 2 f1), (h3, aZ Y 80 f3), (h4, aB Y 1600 f4), (h5, aI Y 200 f13), (h6, aI Y 800 f14)] rfl ?_
        have h17 := w16
        rcases h17 with rfl | rfl
        ·
          refine V_ior 24 B (v := 0) dX12_clashesReserved_24 (by decide +kernel) ?_
          refine V_istore_n 25 B (lv2 := [(2, .int 0), (3, .int (nI (a0.1 0))), (0, .ref h0), (1, .int (nI s0))]) dX12_clashesReserved_25 (by decide) rfl ?_
          refine V_iinc 26 B (v := (nI (1 + (a0.1 0)))) (lv2 := [(3, .int (nI (1 + (a0.1 0)))), (2, .int 0), (0, .ref h0), (1, .int (nI s0))]) dX12_clashesReserved_26 1 rfl (nI_addE (a := (a0.1 0)) (b := 1) (by omega)) (by decide) rfl ?_
          refine V_goto 29 B 4 dX12_clashesReserved_29 (by decide) ?_
          refine V_lv [(3, .int (nI (1 + (a0.1 0)))), (2, .int 0), (0, .ref h0), (1, .int (nI s0))] [0, 1, 2, 3] rfl ?_
          exact IH1 (mkW [1 + (a0.1 0)] [0] [] [] [] []) ⟨(by omega), (Or.inl rfl)⟩ (by show 100000 - (1 + (a0.1 0)) < 100000 - (a0.1 0); omega)
        ·
          refine V_ior 24 B (v := 1) dX12_clashesReserved_24 (by decide +kernel) ?_
          refine V_istore_n 25 B (lv2 := [(2, .int 1), (3, .int (nI (a0.1 0))), (0, .ref h0), (1, .int (nI s0))]) dX12_clashesReserved_25 (by decide) rfl ?_
          refine V_iinc 26 B (v := (nI (1 + (a0.1 0)))) (lv2 := [(3, .int (nI (1 + (a0.1 0)))), (2, .int 1), (0, .ref h0), (1, .int (nI s0))]) dX12_clashesReserved_26 1 rfl (nI_addE (a := (a0.1 0)) (b := 1) (by omega)) (by decide) rfl ?_
          refine V_goto 29 B 4 dX12_clashesReserved_29 (by decide) ?_
          refine V_lv [(3, .int (nI (1 + (a0.1 0)))), (2, .int 1), (0, .ref h0), (1, .int (nI s0))] [0, 1, 2, 3] rfl ?_
          exact IH1 (mkW [1 + (a0.1 0)] [1] [] [] [] []) ⟨(by omega), (Or.inr rfl)⟩ (by show 100000 - (1 + (a0.1 0)) < 100000 - (a0.1 0); omega)
    ·
      refine V_lv [(3, .int (nI (a0.1 0))), (2, .int 1), (0, .ref h0), (1, .int (nI s0))] [0, 1, 2, 3] (by rw [e5]; rfl) ?_
      refine V_iload_n 4 B dX12_clashesReserved_4 0 rfl ?_
      refine V_aload_n 5 B dX12_clashesReserved_5 2 rfl ?_
      refine V_get 6 B gf_RX12_9 0 rfl rfl dX12_clashesReserved_6 ?_
      refine V_iconst 9 B (v := 2) dX12_clashesReserved_9 (by decide +kernel) ?_
      have h18 : (gN f0 2) ≤ 6 := gN_le HI (by omega) (show bd 2 = (0, ((6 : Nat) : Int)) by decide +kernel)
      refine V_iald 10 B (v := (nI (gN f0 2))) 1 rfl (vpin _ _ (by decide +kernel)) dX12_clashesReserved_10 (by show f0 2 = _; exact gN_eq HI (by omega) (show bd 2 = (0, ((6 : Nat) : Int)) by decide +kernel)) ?_
      refine V_icmp_ge 11 B 32 dX12_clashesReserved_11 (by decide) (fun k19 => ?_) (fun k19 => ?_)
      ·
        have h20 := n_le (a := (gN f0 2)) (b := (a0.1 0)) k19 (by omega) (by omega)
        refine V_iload_n 32 B dX12_clashesReserved_32 1 rfl ?_
        exact V_zret 33 B rfl dX12_clashesReserved_33 (mkW [] [] [] [] [] []) (Or.inr rfl) rfl
      ·
        have h21 := n_nle (a := (gN f0 2)) (b := (a0.1 0)) k19 (by omega) (by omega)
        refine V_iload_n 14 B dX12_clashesReserved_14 1 rfl ?_
        refine V_aload_n 15 B dX12_clashesReserved_15 2 rfl ?_
        refine V_iload_n 16 B dX12_clashesReserved_16 0 rfl ?_
        refine V_csi 17 B (st := [.ref h0, .int 1]) (As := [.int (nI (a0.1 0))]) (fun sz => rX12_reservedAt l D Y (a0.1 0) (by omega) sz) glS_RX12_108 ⟨rfl, rfl⟩ ⟨(Nat.le_of_ble_eq_true rfl), (Nat.le_of_ble_eq_true rfl)⟩ ⟨(Nat.le_of_ble_eq_true rfl), (Nat.le_of_ble_eq_true rfl)⟩ [] rfl rfl (Nat.le_of_ble_eq_true rfl) rfl (fun _ _ _ => rfl) dX12_clashesReserved_17 (fun j22 u23 w24 => ?_)
        refine V_ws [(h0, oC 13 [.ref h1, .ref h2, .int p2, .ref h3, .ref h4, .int (nI k5), .int (nI k6), .int p7, .int p8, .int p9, .int (nI k10), .int p11, .long q12, .ref h5, .ref h6, .int (nI k15), .int (nI k16)]), (h1, aI Y 3640 f0), (h2, aZ Y 2 f1), (h3, aZ Y 80 f3), (h4, aB Y 1600 f4), (h5, aI Y 200 f13), (h6, aI Y 800 f14)] rfl ?_
        have h25 := w24
        obtain rfl := h25
        refine V_iload_n 20 B dX12_clashesReserved_20 3 rfl ?_
        refine V_cvi 21 B (st := [.int 1]) (As := [.int (nI (154 + 5 * (a0.1 0))), .int (nI s0)]) (fun sz => rX12_doClash l D Y h0 h1 h2 h3 h4 h5 h6 p2 k5 k6 p7 p8 p9 k10 p11 q12 k15 k16 f0 f1 f3 f4 f13 f14 HI (by omega) HP (154 + 5 * (a0.1 0)) s0 (rl0 (a0.1 0) (by omega)) hs0 sz) glV_RX12_111 ⟨rfl, rfl⟩ ⟨(Nat.le_of_ble_eq_true rfl), (Nat.le_of_ble_eq_true rfl)⟩ ⟨(Nat.le_of_ble_eq_true rfl), (Nat.le_of_ble_eq_true rfl)⟩ [0, 0, 0, 0, 0, 0, 0] rfl 13 0 rfl rfl rfl rfl (Nat.le_of_ble_eq_true rfl) rfl (fun _ _ _ => rfl) dX12_clashesReserved_21 (fun j26 u27 w28 => ?_)
        refine V_ws [(h0, oC 13 [.ref h1, .ref h2, .int p2, .ref h3, .ref h4, .int (nI k5), .int (nI k6), .int p7, .int p8, .int p9, .int (nI k10), .int p11, .long q12, .ref h5, .ref h6, .int (nI k15), .int (nI k16)]), (h1, aI Y 3640 f0), (h2, aZ Y 2 f1), (h3, aZ Y 80 f3), (h4, aB Y 1600 f4), (h5, aI Y 200 f13), (h6, aI Y 800 f14)] rfl ?_
        have h29 := w28
        rcases h29 with rfl | rfl
        ·
          refine V_ior 24 B (v := 1) dX12_clashesReserved_24 (by decide +kernel) ?_
          refine V_istore_n 25 B (lv2 := [(2, .int 1), (3, .int (nI (a0.1 0))), (0, .ref h0), (1, .int (nI s0))]) dX12_clashesReserved_25 (by decide) rfl ?_
          refine V_iinc 26 B (v := (nI (1 + (a0.1 0)))) (lv2 := [(3, .int (nI (1 + (a0.1 0)))), (2, .int 1), (0, .ref h0), (1, .int (nI s0))]) dX12_clashesReserved_26 1 rfl (nI_addE (a := (a0.1 0)) (b := 1) (by omega)) (by decide) rfl ?_
          refine V_goto 29 B 4 dX12_clashesReserved_29 (by decide) ?_
          refine V_lv [(3, .int (nI (1 + (a0.1 0)))), (2, .int 1), (0, .ref h0), (1, .int (nI s0))] [0, 1, 2, 3] rfl ?_
          exact IH1 (mkW [1 + (a0.1 0)] [1] [] [] [] []) ⟨(by omega), (Or.inr rfl)⟩ (by show 100000 - (1 + (a0.1 0)) < 100000 - (a0.1 0); omega)
        ·
          refine V_ior 24 B (v := 1) dX12_clashesReserved_24 (by decide +kernel) ?_
          refine V_istore_n 25 B (lv2 := [(2, .int 1), (3, .int (nI (a0.1 0))), (0, .ref h0), (1, .int (nI s0))]) dX12_clashesReserved_25 (by decide) rfl ?_
          refine V_iinc 26 B (v := (nI (1 + (a0.1 0)))) (lv2 := [(3, .int (nI (1 + (a0.1 0)))), (2, .int 1), (0, .ref h0), (1, .int (nI s0))]) dX12_clashesReserved_26 1 rfl (nI_addE (a := (a0.1 0)) (b := 1) (by omega)) (by decide) rfl ?_
          refine V_goto 29 B 4 dX12_clashesReserved_29 (by decide) ?_
          refine V_lv [(3, .int (nI (1 + (a0.1 0)))), (2, .int 1), (0, .ref h0), (1, .int (nI s0))] [0, 1, 2, 3] rfl ?_
          exact IH1 (mkW [1 + (a0.1 0)] [1] [] [] [] []) ⟨(by omega), (Or.inr rfl)⟩ (by show 100000 - (1 + (a0.1 0)) < 100000 - (a0.1 0); omega))
theorem dX12_clashIn_0 : decode cX12_clashIn 0 = .ok (.iconst 0, 1) := by decide +kernel
theorem dX12_clashIn_1 : decode cX12_clashIn 1 = .ok (.istore 4, 2) := by decide +kernel
theorem dX12_clashIn_3 : decode cX12_clashIn 3 = .ok (.iload 4, 2) := by decide +kernel
theorem dX12_clashIn_5 : decode cX12_clashIn 5 = .ok (.aload_n 0, 1) := by decide +kernel
theorem dX12_clashIn_6 : decode cX12_clashIn 6 = .ok (.getfield 9, 3) := by decide +kernel
theorem dX12_clashIn_9 : decode cX12_clashIn 9 = .ok (.iconst 3, 1) := by decide +kernel
theorem dX12_clashIn_10 : decode cX12_clashIn 10 = .ok (.iaload, 1) := by decide +kernel
theorem dX12_clashIn_11 : decode cX12_clashIn 11 = .ok (.if_icmp .ge 46, 3) := by decide +kernel
theorem dX12_clashIn_57 : decode cX12_clashIn 57 = .ok (.iconst (-1), 1) := by decide +kernel
theorem dX12_clashIn_58 : decode cX12_clashIn 58 = .ok (.ireturn, 1) := by decide +kernel
theorem dX12_clashIn_14 : decode cX12_clashIn 14 = .ok (.iload 4, 2) := by decide +kernel
theorem dX12_clashIn_16 : decode cX12_clashIn 16 = .ok (.iload_n 3, 1) := by decide +kernel
theorem dX12_clashIn_17 : decode cX12_clashIn 17 = .ok (.if_icmp .eq 34, 3) := by decide +kernel
theorem dX12_clashIn_51 : decode cX12_clashIn 51 = .ok (.iinc 4 1, 3) := by decide +kernel
theorem dX12_clashIn_54 : decode cX12_clashIn 54 = .ok (.goto (-51), 3) := by decide +kernel
theorem dX12_clashIn_20 : decode cX12_clashIn 20 = .ok (.iload_n 1, 1) := by decide +kernel
theorem dX12_clashIn_21 : decode cX12_clashIn 21 = .ok (.iconst (-1), 1) := by decide +kernel
theorem dX12_clashIn_22 : decode cX12_clashIn 22 = .ok (.if_icmp .eq 13, 3) := by decide +kernel
theorem dX12_clashIn_35 : decode cX12_clashIn 35 = .ok (.aload_n 0, 1) := by decide +kernel
theorem dX12_clashIn_36 : decode cX12_clashIn 36 = .ok (.iload 4, 2) := by decide +kernel
theorem dX12_clashIn_38 : decode cX12_clashIn 38 = .ok (.invokestatic 85, 3) := by decide +kernel
theorem dX12_sequenceOf_0 : decode cX12_sequenceOf 0 = .ok (.iload_n 0, 1) := by decide +kernel
theorem dX12_sequenceOf_1 : decode cX12_sequenceOf 1 = .ok (.invokestatic 79, 3) := by decide +kernel
theorem dX12_bindingAt_0 : decode cX12_bindingAt 0 = .ok (.sipush 184, 3) := by decide +kernel
theorem dX12_bindingAt_3 : decode cX12_bindingAt 3 = .ok (.bipush 7, 2) := by decide +kernel
theorem dX12_bindingAt_5 : decode cX12_bindingAt 5 = .ok (.iload_n 0, 1) := by decide +kernel
theorem dX12_bindingAt_6 : decode cX12_bindingAt 6 = .ok (.imul, 1) := by decide +kernel
theorem dX12_bindingAt_7 : decode cX12_bindingAt 7 = .ok (.iadd, 1) := by decide +kernel
theorem dX12_bindingAt_8 : decode cX12_bindingAt 8 = .ok (.ireturn, 1) := by decide +kernel
set_option maxRecDepth 100000 in
set_option maxHeartbeats 4000000 in
theorem rX12_bindingAt (l : Launch) (D : va_G) (Y : Nat → ClassId)  (s0 : Nat) (hn0 : s0 < 81) (sz : Nat) : Met l yX12_bindingAt (WSm yX12_bindingAt cX12_bindingAt 1 (some .int)) (mkR 0 0 0 0) (PreC D Y [.int (nI s0)] [] sz) (QI D (fun (r : Int32) (u : WU) => r = nI (184 + 7 * s0)) (fun (u : WU) => []) (va_A [] sz)) 0 0 (va_A [] sz) :=
  met_of (by decide +kernel) (Nat.le_of_ble_eq_true rfl) (fun p e s m args below meth c B hin hsz => by
    have B : VB p s m args meth c D Y (va_A [] sz) cX12_bindingAt 1 RX12 (some .int) := B
    refine V_sipush 0 B (v := 184) dX12_bindingAt_0 (by decide +kernel) ?_
    refine V_bipush 3 B (v := 7) dX12_bindingAt_3 (by decide +kernel) ?_
    refine V_iload_n 5 B dX12_bindingAt_5 0 rfl ?_
    refine V_imul 6 B (v := (nI (7 * s0))) dX12_bindingAt_6 (nI_mulE (a := 7) (b := s0) (by omega)) ?_
    refine V_iadd 7 B (v := (nI (184 + 7 * s0))) dX12_bindingAt_7 (nI_addE (a := 184) (b := 7 * s0) (by omega)) ?_
    exact V_iret 8 B dX12_bindingAt_8 (mkW [] [] [] [] [] []) (congrArg nI (by omega)) rfl)
theorem glS_RX12_79 : GLS RX12 79 yX12_bindingAt cX12_bindingAt 1 (some .int) 1 := ⟨⟨(mT8 14 rfl rfl), (mT8 15 rfl rfl), (mT1 13 rfl rfl), (mT8 16 rfl rfl)⟩, by decide +kernel⟩
theorem dX12_sequenceOf_4 : decode cX12_sequenceOf 4 = .ok (.iconst 2, 1) := by decide +kernel
theorem dX12_sequenceOf_5 : decode cX12_sequenceOf 5 = .ok (.iadd, 1) := by decide +kernel
theorem dX12_sequenceOf_6 : decode cX12_sequenceOf 6 = .ok (.ireturn, 1) := by decide +kernel
set_option maxRecDepth 100000 in
set_option maxHeartbeats 4000000 in
theorem rX12_sequenceOf (l : Launch) (D : va_G) (Y : Nat → ClassId)  (s0 : Nat) (hn0 : s0 < 80) (sz : Nat) : Met l yX12_sequenceOf (WSm yX12_sequenceOf cX12_sequenceOf 1 (some .int)) (mkR 1 0 0 20) (PreC D Y [.int (nI s0)] [] sz) (QI D (fun (r : Int32) (u : WU) => r = nI (186 + 7 * s0)) (fun (u : WU) => []) (va_A [] sz)) 0 0 (va_A [] sz) :=
  met_of (by decide +kernel) (Nat.le_of_ble_eq_true rfl) (fun p e s m args below meth c B hin hsz => by
    have B : VB p s m args meth c D Y (va_A [] sz) cX12_sequenceOf 1 RX12 (some .int) := B
    refine V_iload_n 0 B dX12_sequenceOf_0 0 rfl ?_
    refine V_csi 1 B (st := []) (As := [.int (nI s0)]) (fun sz => rX12_bindingAt l D Y s0 (by omega) sz) glS_RX12_79 ⟨rfl, rfl⟩ ⟨(Nat.le_of_ble_eq_true rfl), (Nat.le_of_ble_eq_true rfl)⟩ ⟨(Nat.le_of_ble_eq_true rfl), (Nat.le_of_ble_eq_true rfl)⟩ [] rfl rfl (Nat.le_of_ble_eq_true rfl) rfl (fun _ _ _ => rfl) dX12_sequenceOf_1 (fun j0 u1 w2 => ?_)
    have h3 := w2
    obtain rfl := h3
    refine V_iconst 4 B (v := 2) dX12_sequenceOf_4 (by decide +kernel) ?_
    refine V_iadd 5 B (v := (nI (186 + 7 * s0))) dX12_sequenceOf_5 (nI_addE (a := 184 + 7 * s0) (b := 2) (by omega)) ?_
    exact V_iret 6 B dX12_sequenceOf_6 (mkW [] [] [] [] [] []) (congrArg nI (by omega)) rfl)
theorem glS_RX12_85 : GLS RX12 85 yX12_sequenceOf cX12_sequenceOf 1 (some .int) 1 := ⟨⟨(mT8 11 rfl rfl), (mT8 12 rfl rfl), (mT1 13 rfl rfl), (mT8 13 rfl rfl)⟩, by decide +kernel⟩
theorem dX12_clashIn_41 : decode cX12_clashIn 41 = .ok (.iload_n 2, 1) := by decide +kernel
theorem dX12_clashIn_42 : decode cX12_clashIn 42 = .ok (.invokevirtual 111, 3) := by decide +kernel
theorem rl1 : ∀ z0, z0 < 80 → SQ (186 + 7 * z0) := by unfold SQ; decide +kernel
theorem dX12_clashIn_45 : decode cX12_clashIn 45 = .ok (.ifCond .eq 6, 3) := by decide +kernel
theorem dX12_clashIn_48 : decode cX12_clashIn 48 = .ok (.iload 4, 2) := by decide +kernel
theorem dX12_clashIn_50 : decode cX12_clashIn 50 = .ok (.ireturn, 1) := by decide +kernel
theorem dX12_clashIn_25 : decode cX12_clashIn 25 = .ok (.aload_n 0, 1) := by decide +kernel
theorem dX12_clashIn_26 : decode cX12_clashIn 26 = .ok (.iload 4, 2) := by decide +kernel
theorem dX12_clashIn_28 : decode cX12_clashIn 28 = .ok (.invokevirtual 115, 3) := by decide +kernel
theorem dX12_modeOf_0 : decode cX12_modeOf 0 = .ok (.aload_n 0, 1) := by decide +kernel
theorem dX12_modeOf_1 : decode cX12_modeOf 1 = .ok (.getfield 9, 3) := by decide +kernel
theorem dX12_modeOf_4 : decode cX12_modeOf 4 = .ok (.iload_n 1, 1) := by decide +kernel
theorem dX12_modeOf_5 : decode cX12_modeOf 5 = .ok (.invokestatic 79, 3) := by decide +kernel
theorem dX12_modeOf_8 : decode cX12_modeOf 8 = .ok (.iconst 0, 1) := by decide +kernel
theorem dX12_modeOf_9 : decode cX12_modeOf 9 = .ok (.iadd, 1) := by decide +kernel
theorem dX12_modeOf_10 : decode cX12_modeOf 10 = .ok (.iaload, 1) := by decide +kernel
theorem rl2 : ∀ z0, z0 < 80 → bd (184 + 7 * z0) = FREE := by decide +kernel
theorem dX12_modeOf_11 : decode cX12_modeOf 11 = .ok (.ireturn, 1) := by decide +kernel
set_option maxRecDepth 100000 in
set_option maxHeartbeats 4000000 in
theorem rX12_modeOf (l : Launch) (D : va_G) (Y : Nat → ClassId) (h0 : Nat) (h1 : Nat) (h2 : Nat) (h3 : Nat) (h4 : Nat) (h5 : Nat) (h6 : Nat) (p2 : Int32) (k5 : Nat) (k6 : Nat) (p7 : Int32) (p8 : Int32) (p9 : Int32) (k10 : Nat) (p11 : Int32) (q12 : Int64) (k15 : Nat) (k16 : Nat) (f0 : Nat → Int32) (f1 : Nat → Int32) (f3 : Nat → Int32) (f4 : Nat → Int32) (f13 : Nat → Int32) (f14 : Nat → Int32) (HI : INV f0) (HL : k5 ≤ 1600) (HP : PLV f13) (s0 : Nat) (hn0 : s0 < 80) (sz : Nat) : Met l yX12_modeOf (WSm yX12_modeOf cX12_modeOf 2 (some .int)) (mkR 1 0 0 20) (PreC D Y [.ref h0, .int (nI s0)] [(h0, oC 13 [.ref h1, .ref h2, .int p2, .ref h3, .ref h4, .int (nI k5), .int (nI k6), .int p7, .int p8, .int p9, .int (nI k10), .int p11, .long q12, .ref h5, .ref h6, .int (nI k15), .int (nI k16)]), (h1, aI Y 3640 f0), (h2, aZ Y 2 f1), (h3, aZ Y 80 f3), (h4, aB Y 1600 f4), (h5, aI Y 200 f13), (h6, aI Y 800 f14)] sz) (QI D (fun (r : Int32) (u : WU) => r = f0 (184 + 7 * s0)) (fun (u : WU) => [(h0, oC 13 [.ref h1, .ref h2, .int p2, .ref h3, .ref h4, .int (nI k5), .int (nI k6), .int p7, .int p8, .int p9, .int (nI k10), .int p11, .long q12, .ref h5, .ref h6, .int (nI k15), .int (nI k16)]), (h1, aI Y 3640 f0), (h2, aZ Y 2 f1), (h3, aZ Y 80 f3), (h4, aB Y 1600 f4), (h5, aI Y 200 f13), (h6, aI Y 800 f14)]) (va_A [(h0, oC 13 [.ref h1, .ref h2, .int p2, .ref h3, .ref h4, .int (nI k5), .int (nI k6), .int p7, .int p8, .int p9, .int (nI k10), .int p11, .long q12, .ref h5, .ref h6, .int (nI k15), .int (nI k16)]), (h1, aI Y 3640 f0), (h2, aZ Y 2 f1), (h3, aZ Y 80 f3), (h4, aB Y 1600 f4), (h5, aI Y 200 f13), (h6, aI Y 800 f14)] sz)) 0 0 (va_A [(h0, oC 13 [.ref h1, .ref h2, .int p2, .ref h3, .ref h4, .int (nI k5), .int (nI k6), .int p7, .int p8, .int p9, .int (nI k10), .int p11, .long q12, .ref h5, .ref h6, .int (nI k15), .int (nI k16)]), (h1, aI Y 3640 f0), (h2, aZ Y 2 f1), (h3, aZ Y 80 f3), (h4, aB Y 1600 f4), (h5, aI Y 200 f13), (h6, aI Y 800 f14)] sz) :=
  met_of (by decide +kernel) (Nat.le_of_ble_eq_true rfl) (fun p e s m args below meth c B hin hsz => by
    have B : VB p s m args meth c D Y (va_A [(h0, oC 13 [.ref h1, .ref h2, .int p2, .ref h3, .ref h4, .int (nI k5), .int (nI k6), .int p7, .int p8, .int p9, .int (nI k10), .int p11, .long q12, .ref h5, .ref h6, .int (nI k15), .int (nI k16)]), (h1, aI Y 3640 f0), (h2, aZ Y 2 f1), (h3, aZ Y 80 f3), (h4, aB Y 1600 f4), (h5, aI Y 200 f13), (h6, aI Y 800 f14)] sz) cX12_modeOf 2 RX12 (some .int) := B
    refine V_aload_n 0 B dX12_modeOf_0 0 rfl ?_
    refine V_get 1 B gf_RX12_9 0 rfl rfl dX12_modeOf_1 ?_
    refine V_iload_n 4 B dX12_modeOf_4 1 rfl ?_
    refine V_csi 5 B (st := [.ref h1]) (As := [.int (nI s0)]) (fun sz => rX12_bindingAt l D Y s0 (by omega) sz) glS_RX12_79 ⟨rfl, rfl⟩ ⟨(Nat.le_of_ble_eq_true rfl), (Nat.le_of_ble_eq_true rfl)⟩ ⟨(Nat.le_of_ble_eq_true rfl), (Nat.le_of_ble_eq_true rfl)⟩ [] rfl rfl (Nat.le_of_ble_eq_true rfl) rfl (fun _ _ _ => rfl) dX12_modeOf_5 (fun j0 u1 w2 => ?_)
    refine V_ws [(h0, oC 13 [.ref h1, .ref h2, .int p2, .ref h3, .ref h4, .int (nI k5), .int (nI k6), .int p7, .int p8, .int p9, .int (nI k10), .int p11, .long q12, .ref h5, .ref h6, .int (nI k15), .int (nI k16)]), (h1, aI Y 3640 f0), (h2, aZ Y 2 f1), (h3, aZ Y 80 f3), (h4, aB Y 1600 f4), (h5, aI Y 200 f13), (h6, aI Y 800 f14)] rfl ?_
    have h3 := w2
    obtain rfl := h3
    refine V_iconst 8 B (v := 0) dX12_modeOf_8 (by decide +kernel) ?_
    refine V_iadd 9 B (v := (nI (184 + 7 * s0))) dX12_modeOf_9 (nI_addE (a := 184 + 7 * s0) (b := 0) (by omega)) ?_
    refine V_iald 10 B (v := f0 (184 + 7 * s0)) 1 rfl (vp_in_nI (n := 184 + 7 * s0) (by omega) (by decide)) dX12_modeOf_10 (by rw [nI_clamp (show 184 + 7 * s0 < 2 ^ 31 by omega)]; exact rfl) ?_
    refine V_nmi (fun j4 e5 => ?_)
    exact V_iret 11 B dX12_modeOf_11 (mkW [] [] [] [] [] []) e5 rfl)
theorem glV_RX12_115 : GLV RX12 115 yX12_modeOf RX12 cX12_modeOf 2 (some .int) 1 := ⟨⟨(mT8 74 rfl rfl), (mT8 76 rfl rfl), (mTs 41 rfl rfl), (mT1 13 rfl rfl), (mT8 77 rfl rfl)⟩, by decide +kernel⟩
theorem dX12_clashIn_31 : decode cX12_clashIn 31 = .ok (.iload_n 1, 1) := by decide +kernel
theorem dX12_clashIn_32 : decode cX12_clashIn 32 = .ok (.if_icmp .ne 19, 3) := by decide +kernel
set_option maxRecDepth 100000 in
set_option maxHeartbeats 4000000 in
theorem rX12_clashIn (l : Launch) (D : va_G) (Y : Nat → ClassId) (h0 : Nat) (h1 : Nat) (h2 : Nat) (h3 : Nat) (h4 : Nat) (h5 : Nat) (h6 : Nat) (p2 : Int32) (k5 : Nat) (k6 : Nat) (p7 : Int32) (p8 : Int32) (p9 : Int32) (k10 : Nat) (p11 : Int32) (q12 : Int64) (k15 : Nat) (k16 : Nat) (f0 : Nat → Int32) (f1 : Nat → Int32) (f3 : Nat → Int32) (f4 : Nat → Int32) (f13 : Nat → Int32) (f14 : Nat → Int32) (HI : INV f0) (HL : k5 ≤ 1600) (HP : PLV f13) (s0 : Int32) (s1 : Nat) (s2 : Int32) (hs1 : SQ s1) (sz : Nat) : Met l yX12_clashIn (WSm yX12_clashIn cX12_clashIn 5 (some .int)) (mkR 3 0 0 66) (PreC D Y [.ref h0, .int s0, .int (nI s1), .int s2] [(h0, oC 13 [.ref h1, .ref h2, .int p2, .ref h3, .ref h4, .int (nI k5), .int (nI k6), .int p7, .int p8, .int p9, .int (nI k10), .int p11, .long q12, .ref h5, .ref h6, .int (nI k15), .int (nI k16)]), (h1, aI Y 3640 f0), (h2, aZ Y 2 f1), (h3, aZ Y 80 f3), (h4, aB Y 1600 f4), (h5, aI Y 200 f13), (h6, aI Y 800 f14)] sz) (QI D (fun (r : Int32) (u : WU) => (r = -1 ∨ ∃ b : Nat, r = nI b ∧ b < gN f0 3)) (fun (u : WU) => [(h0, oC 13 [.ref h1, .ref h2, .int p2, .ref h3, .ref h4, .int (nI k5), .int (nI k6), .int p7, .int p8, .int p9, .int (nI k10), .int p11, .long q12, .ref h5, .ref h6, .int (nI k15), .int (nI k16)]), (h1, aI Y 3640 f0), (h2, aZ Y 2 f1), (h3, aZ Y 80 f3), (h4, aB Y 1600 f4), (h5, aI Y 200 f13), (h6, aI Y 800 f14)]) (va_A [(h0, oC 13 [.ref h1, .ref h2, .int p2, .ref h3, .ref h4, .int (nI k5), .int (nI k6), .int p7, .int p8, .int p9, .int (nI k10), .int p11, .long q12, .ref h5, .ref h6, .int (nI k15), .int (nI k16)]), (h1, aI Y 3640 f0), (h2, aZ Y 2 f1), (h3, aZ Y 80 f3), (h4, aB Y 1600 f4), (h5, aI Y 200 f13), (h6, aI Y 800 f14)] sz)) 0 0 (va_A [(h0, oC 13 [.ref h1, .ref h2, .int p2, .ref h3, .ref h4, .int (nI k5), .int (nI k6), .int p7, .int p8, .int p9, .int (nI k10), .int p11, .long q12, .ref h5, .ref h6, .int (nI k15), .int (nI k16)]), (h1, aI Y 3640 f0), (h2, aZ Y 2 f1), (h3, aZ Y 80 f3), (h4, aB Y 1600 f4), (h5, aI Y 200 f13), (h6, aI Y 800 f14)] sz) :=
  met_of (by decide +kernel) (Nat.le_of_ble_eq_true rfl) (fun p e s m args below meth c B hin hsz => by
    have B : VB p s m args meth c D Y (va_A [(h0, oC 13 [.ref h1, .ref h2, .int p2, .ref h3, .ref h4, .int (nI k5), .int (nI k6), .int p7, .int p8, .int p9, .int (nI k10), .int p11, .long q12, .ref h5, .ref h6, .int (nI k15), .int (nI k16)]), (h1, aI Y 3640 f0), (h2, aZ Y 2 f1), (h3, aZ Y 80 f3), (h4, aB Y 1600 f4), (h5, aI Y 200 f13), (h6, aI Y 800 f14)] sz) cX12_clashIn 5 RX12 (some .int) := B
    have hq_s1 := hs1.1
    refine V_iconst 0 B (v := 0) dX12_clashIn_0 (by decide +kernel) ?_
    refine V_istore 1 B (lv2 := [(4, .int 0), (0, .ref h0), (1, .int s0), (2, .int (nI s1)), (3, .int s2)]) dX12_clashIn_1 (by decide) rfl ?_
    refine V_wloop (α := WU) (fun a => 100000 - (a.1 0)) (fun a => (a.1 0) ≤ 80) (fun a => [(4, .int (nI (a.1 0))), (0, .ref h0), (1, .int s0), (2, .int (nI s1)), (3, .int s2)]) (fun a => [(h0, oC 13 [.ref h1, .ref h2, .int p2, .ref h3, .ref h4, .int (nI k5), .int (nI k6), .int p7, .int p8, .int p9, .int (nI k10), .int p11, .long q12, .ref h5, .ref h6, .int (nI k15), .int (nI k16)]), (h1, aI Y 3640 f0), (h2, aZ Y 2 f1), (h3, aZ Y 80 f3), (h4, aB Y 1600 f4), (h5, aI Y 200 f13), (h6, aI Y 800 f14)]) (mkW [0] [] [] [] [] []) (by omega) rfl rfl (fun a0 hI2 IH1 => ?_)
    refine V_lv [(4, .int (nI (a0.1 0))), (0, .ref h0), (1, .int s0), (2, .int (nI s1)), (3, .int s2)] [0, 1, 2, 3, 4] rfl ?_
    refine V_ws [(h0, oC 13 [.ref h1, .ref h2, .int p2, .ref h3, .ref h4, .int (nI k5), .int (nI k6), .int p7, .int p8, .int p9, .int (nI k10), .int p11, .long q12, .ref h5, .ref h6, .int (nI k15), .int (nI k16)]), (h1, aI Y 3640 f0), (h2, aZ Y 2 f1), (h3, aZ Y 80 f3), (h4, aB Y 1600 f4), (h5, aI Y 200 f13), (h6, aI Y 800 f14)] rfl ?_
    have h3 := hI2
    refine V_iload 3 B dX12_clashIn_3 0 rfl ?_
    refine V_aload_n 5 B dX12_clashIn_5 1 rfl ?_
    refine V_get 6 B gf_RX12_9 0 rfl rfl dX12_clashIn_6 ?_
    refine V_iconst 9 B (v := 3) dX12_clashIn_9 (by decide +kernel) ?_
    have h4 : (gN f0 3) ≤ 80 := gN_le HI (by omega) (show bd 3 = (0, ((80 : Nat) : Int)) by decide +kernel)
    refine V_iald 10 B (v := (nI (gN f0 3))) 1 rfl (vpin _ _ (by decide +kernel)) dX12_clashIn_10 (by show f0 3 = _; exact gN_eq HI (by omega) (show bd 3 = (0, ((80 : Nat) : Int)) by decide +kernel)) ?_
    refine V_icmp_ge 11 B 57 dX12_clashIn_11 (by decide) (fun k5 => ?_) (fun k5 => ?_)
    ·
      have h6 := n_le (a := (gN f0 3)) (b := (a0.1 0)) k5 (by omega) (by omega)
      refine V_iconst 57 B (v := (-1)) dX12_clashIn_57 (by decide +kernel) ?_
      exact V_iret 58 B dX12_clashIn_58 (mkW [] [] [] [] [] []) (Or.inl rfl) rfl
    ·
      have h7 := n_nle (a := (gN f0 3)) (b := (a0.1 0)) k5 (by omega) (by omega)
      refine V_iload 14 B dX12_clashIn_14 0 rfl ?_
      refine V_iload_n 16 B dX12_clashIn_16 4 rfl ?_
      refine V_icmp_eq 17 B 51 dX12_clashIn_17 (by decide) (fun k8 => ?_) (fun k8 => ?_)
      ·
        have h9 := x_eq k8
        rw [nI_toInt (show (a0.1 0) < 2 ^ 31 by omega)] at h9
        refine V_iinc 51 B (v := (nI (1 + (a0.1 0)))) (lv2 := [(4, .int (nI (1 + (a0.1 0)))), (0, .ref h0), (1, .int s0), (2, .int (nI s1)), (3, .int s2)]) dX12_clashIn_51 0 rfl (nI_addE (a := (a0.1 0)) (b := 1) (by omega)) (by decide) rfl ?_
        refine V_goto 54 B 3 dX12_clashIn_54 (by decide) ?_
        refine V_lv [(4, .int (nI (1 + (a0.1 0)))), (0, .ref h0), (1, .int s0), (2, .int (nI s1)), (3, .int s2)] [0, 1, 2, 3, 4] rfl ?_
        exact IH1 (mkW [1 + (a0.1 0)] [] [] [] [] []) (by omega) (by show 100000 - (1 + (a0.1 0)) < 100000 - (a0.1 0); omega)
      ·
        have h10 := x_ne k8
        rw [nI_toInt (show (a0.1 0) < 2 ^ 31 by omega)] at h10
        refine V_iload_n 20 B dX12_clashIn_20 2 rfl ?_
        refine V_iconst 21 B (v := (-1)) dX12_clashIn_21 (by decide +kernel) ?_
        refine V_icmp_eq 22 B 35 dX12_clashIn_22 (by decide) (fun k11 => ?_) (fun k11 => ?_)
        ·
          obtain rfl : s0 = (-1) := k11
          have e13 : ((-1) : Int32).toInt = (-1) := by decide +kernel
          refine V_aload_n 35 B dX12_clashIn_35 1 rfl ?_
          refine V_iload 36 B dX12_clashIn_36 0 rfl ?_
          refine V_csi 38 B (st := [.ref h0]) (As := [.int (nI (a0.1 0))]) (fun sz => rX12_sequenceOf l D Y (a0.1 0) (by omega) sz) glS_RX12_85 ⟨rfl, rfl⟩ ⟨(Nat.le_of_ble_eq_true rfl), (Nat.le_of_ble_eq_true rfl)⟩ ⟨(Nat.le_of_ble_eq_true rfl), (Nat.le_of_ble_eq_true rfl)⟩ [] rfl rfl (Nat.le_of_ble_eq_true rfl) rfl (fun _ _ _ => rfl) dX12_clashIn_38 (fun j14 u15 w16 => ?_)
          refine V_ws [(h0, oC 13 [.ref h1, .ref h2, .int p2, .ref h3, .ref h4, .int (nI k5), .int (nI k6), .int p7, .int p8, .int p9, .int (nI k10), .int p11, .long q12, .ref h5, .ref h6, .int (nI k15), .int (nI k16)]), (h1, aI Y 3640 f0), (h2, aZ Y 2 f1), (h3, aZ Y 80 f3), (h4, aB Y 1600 f4), (h5, aI Y 200 f13), (h6, aI Y 800 f14)] rfl ?_
          have h17 := w16
          obtain rfl := h17
          refine V_iload_n 41 B dX12_clashIn_41 3 rfl ?_
          refine V_cvi 42 B (st := []) (As := [.int (nI (186 + 7 * (a0.1 0))), .int (nI s1)]) (fun sz => rX12_doClash l D Y h0 h1 h2 h3 h4 h5 h6 p2 k5 k6 p7 p8 p9 k10 p11 q12 k15 k16 f0 f1 f3 f4 f13 f14 HI (by omega) HP (186 + 7 * (a0.1 0)) s1 (rl1 (a0.1 0) (by omega)) hs1 sz) glV_RX12_111 ⟨rfl, rfl⟩ ⟨(Nat.le_of_ble_eq_true rfl), (Nat.le_of_ble_eq_true rfl)⟩ ⟨(Nat.le_of_ble_eq_true rfl), (Nat.le_of_ble_eq_true rfl)⟩ [0, 0, 0, 0, 0, 0, 0] rfl 13 0 rfl rfl rfl rfl (Nat.le_of_ble_eq_true rfl) rfl (fun _ _ _ => rfl) dX12_clashIn_42 (fun j18 u19 w20 => ?_)
          refine V_ws [(h0, oC 13 [.ref h1, .ref h2, .int p2, .ref h3, .ref h4, .int (nI k5), .int (nI k6), .int p7, .int p8, .int p9, .int (nI k10), .int p11, .long q12, .ref h5, .ref h6, .int (nI k15), .int (nI k16)]), (h1, aI Y 3640 f0), (h2, aZ Y 2 f1), (h3, aZ Y 80 f3), (h4, aB Y 1600 f4), (h5, aI Y 200 f13), (h6, aI Y 800 f14)] rfl ?_
          have h21 := w20
          rcases h21 with rfl | rfl
          ·
            refine V_if_eq_t 45 B 51 dX12_clashIn_45 (by decide) (by decide +kernel) ?_
            refine V_iinc 51 B (v := (nI (1 + (a0.1 0)))) (lv2 := [(4, .int (nI (1 + (a0.1 0)))), (0, .ref h0), (1, .int (-1)), (2, .int (nI s1)), (3, .int s2)]) dX12_clashIn_51 0 rfl (nI_addE (a := (a0.1 0)) (b := 1) (by omega)) (by decide) rfl ?_
            refine V_goto 54 B 3 dX12_clashIn_54 (by decide) ?_
            refine V_lv [(4, .int (nI (1 + (a0.1 0)))), (0, .ref h0), (1, .int (-1)), (2, .int (nI s1)), (3, .int s2)] [0, 1, 2, 3, 4] rfl ?_
            exact IH1 (mkW [1 + (a0.1 0)] [] [] [] [] []) (by omega) (by show 100000 - (1 + (a0.1 0)) < 100000 - (a0.1 0); omega)
          ·
            refine V_if_eq_f 45 B 51 dX12_clashIn_45 (by decide) (by decide +kernel) ?_
            refine V_iload 48 B dX12_clashIn_48 0 rfl ?_
            exact V_iret 50 B dX12_clashIn_50 (mkW [] [] [] [] [] []) (Or.inr ⟨(a0.1 0), rfl, by omega⟩) rfl
        ·
          have h22 := x_ne k11
          rw [show ((-1) : Int32).toInt = (-1) by decide +kernel] at h22
          refine V_aload_n 25 B dX12_clashIn_25 1 rfl ?_
          refine V_iload 26 B dX12_clashIn_26 0 rfl ?_
          refine V_cvi 28 B (st := []) (As := [.int (nI (a0.1 0))]) (fun sz => rX12_modeOf l D Y h0 h1 h2 h3 h4 h5 h6 p2 k5 k6 p7 p8 p9 k10 p11 q12 k15 k16 f0 f1 f3 f4 f13 f14 HI (by omega) HP (a0.1 0) (by omega) sz) glV_RX12_115 ⟨rfl, rfl⟩ ⟨(Nat.le_of_ble_eq_true rfl), (Nat.le_of_ble_eq_true rfl)⟩ ⟨(Nat.le_of_ble_eq_true rfl), (Nat.le_of_ble_eq_true rfl)⟩ [0, 0, 0, 0, 0, 0, 0] rfl 13 0 rfl rfl rfl rfl (Nat.le_of_ble_eq_true rfl) rfl (fun _ _ _ => rfl) dX12_clashIn_28 (fun j23 u24 w25 => ?_)
          refine V_ws [(h0, oC 13 [.ref h1, .ref h2, .int p2, .ref h3, .ref h4, .int (nI k5), .int (nI k6), .int p7, .int p8, .int p9, .int (nI k10), .int p11, .long q12, .ref h5, .ref h6, .int (nI k15), .int (nI k16)]), (h1, aI Y 3640 f0), (h2, aZ Y 2 f1), (h3, aZ Y 80 f3), (h4, aB Y 1600 f4), (h5, aI Y 200 f13), (h6, aI Y 800 f14)] rfl ?_
          have h26 := w25
          refine V_iload_n 31 B dX12_clashIn_31 2 rfl ?_
          refine V_icmp_ne 32 B 51 dX12_clashIn_32 (by decide) (fun k27 => ?_) (fun k27 => ?_)
          ·
            have h28 := x_ne k27
            refine V_iinc 51 B (v := (nI (1 + (a0.1 0)))) (lv2 := [(4, .int (nI (1 + (a0.1 0)))), (0, .ref h0), (1, .int s0), (2, .int (nI s1)), (3, .int s2)]) dX12_clashIn_51 0 rfl (nI_addE (a := (a0.1 0)) (b := 1) (by omega)) (by decide) rfl ?_
            refine V_goto 54 B 3 dX12_clashIn_54 (by decide) ?_
            refine V_lv [(4, .int (nI (1 + (a0.1 0)))), (0, .ref h0), (1, .int s0), (2, .int (nI s1)), (3, .int s2)] [0, 1, 2, 3, 4] rfl ?_
            exact IH1 (mkW [1 + (a0.1 0)] [] [] [] [] []) (by omega) (by show 100000 - (1 + (a0.1 0)) < 100000 - (a0.1 0); omega)
          ·
            have h29 := x_eq k27
            refine V_aload_n 35 B dX12_clashIn_35 1 rfl ?_
            refine V_iload 36 B dX12_clashIn_36 0 rfl ?_
            refine V_csi 38 B (st := [.ref h0]) (As := [.int (nI (a0.1 0))]) (fun sz => rX12_sequenceOf l D Y (a0.1 0) (by omega) sz) glS_RX12_85 ⟨rfl, rfl⟩ ⟨(Nat.le_of_ble_eq_true rfl), (Nat.le_of_ble_eq_true rfl)⟩ ⟨(Nat.le_of_ble_eq_true rfl), (Nat.le_of_ble_eq_true rfl)⟩ [] rfl rfl (Nat.le_of_ble_eq_true rfl) rfl (fun _ _ _ => rfl) dX12_clashIn_38 (fun j30 u31 w32 => ?_)
            refine V_ws [(h0, oC 13 [.ref h1, .ref h2, .int p2, .ref h3, .ref h4, .int (nI k5), .int (nI k6), .int p7, .int p8, .int p9, .int (nI k10), .int p11, .long q12, .ref h5, .ref h6, .int (nI k15), .int (nI k16)]), (h1, aI Y 3640 f0), (h2, aZ Y 2 f1), (h3, aZ Y 80 f3), (h4, aB Y 1600 f4), (h5, aI Y 200 f13), (h6, aI Y 800 f14)] rfl ?_
            have h33 := w32
            obtain rfl := h33
            refine V_iload_n 41 B dX12_clashIn_41 3 rfl ?_
            refine V_cvi 42 B (st := []) (As := [.int (nI (186 + 7 * (a0.1 0))), .int (nI s1)]) (fun sz => rX12_doClash l D Y h0 h1 h2 h3 h4 h5 h6 p2 k5 k6 p7 p8 p9 k10 p11 q12 k15 k16 f0 f1 f3 f4 f13 f14 HI (by omega) HP (186 + 7 * (a0.1 0)) s1 (rl1 (a0.1 0) (by omega)) hs1 sz) glV_RX12_111 ⟨rfl, rfl⟩ ⟨(Nat.le_of_ble_eq_true rfl), (Nat.le_of_ble_eq_true rfl)⟩ ⟨(Nat.le_of_ble_eq_true rfl), (Nat.le_of_ble_eq_true rfl)⟩ [0, 0, 0, 0, 0, 0, 0] rfl 13 0 rfl rfl rfl rfl (Nat.le_of_ble_eq_true rfl) rfl (fun _ _ _ => rfl) dX12_clashIn_42 (fun j34 u35 w36 => ?_)
            refine V_ws [(h0, oC 13 [.ref h1, .ref h2, .int p2, .ref h3, .ref h4, .int (nI k5), .int (nI k6), .int p7, .int p8, .int p9, .int (nI k10), .int p11, .long q12, .ref h5, .ref h6, .int (nI k15), .int (nI k16)]), (h1, aI Y 3640 f0), (h2, aZ Y 2 f1), (h3, aZ Y 80 f3), (h4, aB Y 1600 f4), (h5, aI Y 200 f13), (h6, aI Y 800 f14)] rfl ?_
            have h37 := w36
            rcases h37 with rfl | rfl
            ·
              refine V_if_eq_t 45 B 51 dX12_clashIn_45 (by decide) (by decide +kernel) ?_
              refine V_iinc 51 B (v := (nI (1 + (a0.1 0)))) (lv2 := [(4, .int (nI (1 + (a0.1 0)))), (0, .ref h0), (1, .int s0), (2, .int (nI s1)), (3, .int s2)]) dX12_clashIn_51 0 rfl (nI_addE (a := (a0.1 0)) (b := 1) (by omega)) (by decide) rfl ?_
              refine V_goto 54 B 3 dX12_clashIn_54 (by decide) ?_
              refine V_lv [(4, .int (nI (1 + (a0.1 0)))), (0, .ref h0), (1, .int s0), (2, .int (nI s1)), (3, .int s2)] [0, 1, 2, 3, 4] rfl ?_
              exact IH1 (mkW [1 + (a0.1 0)] [] [] [] [] []) (by omega) (by show 100000 - (1 + (a0.1 0)) < 100000 - (a0.1 0); omega)
            ·
              refine V_if_eq_f 45 B 51 dX12_clashIn_45 (by decide) (by decide +kernel) ?_
              refine V_iload 48 B dX12_clashIn_48 0 rfl ?_
              exact V_iret 50 B dX12_clashIn_50 (mkW [] [] [] [] [] []) (Or.inr ⟨(a0.1 0), rfl, by omega⟩) rfl)
theorem dX12_isVisible_0 : decode cX12_isVisible 0 = .ok (.iload_n 1, 1) := by decide +kernel
theorem dX12_isVisible_1 : decode cX12_isVisible 1 = .ok (.istore_n 3, 1) := by decide +kernel
theorem dX12_isVisible_2 : decode cX12_isVisible 2 = .ok (.iload_n 3, 1) := by decide +kernel
theorem dX12_isVisible_3 : decode cX12_isVisible 3 = .ok (.iconst (-1), 1) := by decide +kernel
theorem dX12_isVisible_4 : decode cX12_isVisible 4 = .ok (.if_icmp .eq 39, 3) := by decide +kernel
theorem dX12_isVisible_43 : decode cX12_isVisible 43 = .ok (.iload_n 3, 1) := by decide +kernel
theorem dX12_isVisible_44 : decode cX12_isVisible 44 = .ok (.aload_n 0, 1) := by decide +kernel
theorem dX12_isVisible_45 : decode cX12_isVisible 45 = .ok (.iload_n 2, 1) := by decide +kernel
theorem dX12_isVisible_46 : decode cX12_isVisible 46 = .ok (.invokevirtual 115, 3) := by decide +kernel
theorem dX12_isVisible_49 : decode cX12_isVisible 49 = .ok (.if_icmp .ne 7, 3) := by decide +kernel
theorem dX12_isVisible_56 : decode cX12_isVisible 56 = .ok (.iconst 0, 1) := by decide +kernel
theorem dX12_isVisible_57 : decode cX12_isVisible 57 = .ok (.ireturn, 1) := by decide +kernel
theorem dX12_isVisible_52 : decode cX12_isVisible 52 = .ok (.iconst 1, 1) := by decide +kernel
theorem dX12_isVisible_53 : decode cX12_isVisible 53 = .ok (.goto 4, 3) := by decide +kernel
theorem dX12_isVisible_7 : decode cX12_isVisible 7 = .ok (.iload_n 3, 1) := by decide +kernel
theorem dX12_isVisible_8 : decode cX12_isVisible 8 = .ok (.aload_n 0, 1) := by decide +kernel
theorem dX12_isVisible_9 : decode cX12_isVisible 9 = .ok (.iload_n 2, 1) := by decide +kernel
theorem dX12_isVisible_10 : decode cX12_isVisible 10 = .ok (.invokevirtual 115, 3) := by decide +kernel
theorem dX12_isVisible_13 : decode cX12_isVisible 13 = .ok (.if_icmp .eq 30, 3) := by decide +kernel
theorem dX12_isVisible_16 : decode cX12_isVisible 16 = .ok (.aload_n 0, 1) := by decide +kernel
theorem dX12_isVisible_17 : decode cX12_isVisible 17 = .ok (.iload_n 3, 1) := by decide +kernel
theorem dX12_isVisible_18 : decode cX12_isVisible 18 = .ok (.iload_n 2, 1) := by decide +kernel
theorem dX12_isVisible_19 : decode cX12_isVisible 19 = .ok (.invokestatic 85, 3) := by decide +kernel
theorem dX12_isVisible_22 : decode cX12_isVisible 22 = .ok (.iconst (-1), 1) := by decide +kernel
theorem dX12_isVisible_23 : decode cX12_isVisible 23 = .ok (.invokevirtual 121, 3) := by decide +kernel
theorem glV_RX12_121 : GLV RX12 121 yX12_clashIn RX12 cX12_clashIn 5 (some .int) 3 := ⟨⟨(mT8 70 rfl rfl), (mT8 72 rfl rfl), (mTs 40 rfl rfl), (mT1 13 rfl rfl), (mT8 73 rfl rfl)⟩, by decide +kernel⟩
theorem dX12_isVisible_26 : decode cX12_isVisible 26 = .ok (.iconst (-1), 1) := by decide +kernel
theorem dX12_isVisible_27 : decode cX12_isVisible 27 = .ok (.if_icmp .ne 16, 3) := by decide +kernel
theorem dX12_isVisible_30 : decode cX12_isVisible 30 = .ok (.aload_n 0, 1) := by decide +kernel
theorem dX12_isVisible_31 : decode cX12_isVisible 31 = .ok (.getfield 9, 3) := by decide +kernel
theorem dX12_isVisible_34 : decode cX12_isVisible 34 = .ok (.bipush 16, 2) := by decide +kernel
theorem dX12_isVisible_36 : decode cX12_isVisible 36 = .ok (.iload_n 3, 1) := by decide +kernel
theorem dX12_isVisible_37 : decode cX12_isVisible 37 = .ok (.iadd, 1) := by decide +kernel
theorem dX12_isVisible_38 : decode cX12_isVisible 38 = .ok (.iaload, 1) := by decide +kernel
theorem rl3 : ∀ z0, z0 < 6 → bd (16 + z0) = (-1, (z0 : Int) - 1) := by decide +kernel
theorem dX12_isVisible_39 : decode cX12_isVisible 39 = .ok (.istore_n 3, 1) := by decide +kernel
theorem dX12_isVisible_40 : decode cX12_isVisible 40 = .ok (.goto (-38), 3) := by decide +kernel
set_option maxRecDepth 100000 in
set_option maxHeartbeats 4000000 in
theorem rX12_isVisible (l : Launch) (D : va_G) (Y : Nat → ClassId) (h0 : Nat) (h1 : Nat) (h2 : Nat) (h3 : Nat) (h4 : Nat) (h5 : Nat) (h6 : Nat) (p2 : Int32) (k5 : Nat) (k6 : Nat) (p7 : Int32) (p8 : Int32) (p9 : Int32) (k10 : Nat) (p11 : Int32) (q12 : Int64) (k15 : Nat) (k16 : Nat) (f0 : Nat → Int32) (f1 : Nat → Int32) (f3 : Nat → Int32) (f4 : Nat → Int32) (f13 : Nat → Int32) (f14 : Nat → Int32) (HI : INV f0) (HL : k5 ≤ 1600) (HP : PLV f13) (s0 : Int32) (s1 : Nat) (hm0 : -1 ≤ s0.toInt ∧ s0.toInt ≤ 5) (hn1 : s1 < 80) (sz : Nat) : Met l yX12_isVisible (WSm yX12_isVisible cX12_isVisible 4 (some .boolean)) (mkR 4 0 0 90) (PreC D Y [.ref h0, .int s0, .int (nI s1)] [(h0, oC 13 [.ref h1, .ref h2, .int p2, .ref h3, .ref h4, .int (nI k5), .int (nI k6), .int p7, .int p8, .int p9, .int (nI k10), .int p11, .long q12, .ref h5, .ref h6, .int (nI k15), .int (nI k16)]), (h1, aI Y 3640 f0), (h2, aZ Y 2 f1), (h3, aZ Y 80 f3), (h4, aB Y 1600 f4), (h5, aI Y 200 f13), (h6, aI Y 800 f14)] sz) (QI D (fun (r : Int32) (u : WU) => (r = 0 ∨ r = 1)) (fun (u : WU) => [(h0, oC 13 [.ref h1, .ref h2, .int p2, .ref h3, .ref h4, .int (nI k5), .int (nI k6), .int p7, .int p8, .int p9, .int (nI k10), .int p11, .long q12, .ref h5, .ref h6, .int (nI k15), .int (nI k16)]), (h1, aI Y 3640 f0), (h2, aZ Y 2 f1), (h3, aZ Y 80 f3), (h4, aB Y 1600 f4), (h5, aI Y 200 f13), (h6, aI Y 800 f14)]) (va_A [(h0, oC 13 [.ref h1, .ref h2, .int p2, .ref h3, .ref h4, .int (nI k5), .int (nI k6), .int p7, .int p8, .int p9, .int (nI k10), .int p11, .long q12, .ref h5, .ref h6, .int (nI k15), .int (nI k16)]), (h1, aI Y 3640 f0), (h2, aZ Y 2 f1), (h3, aZ Y 80 f3), (h4, aB Y 1600 f4), (h5, aI Y 200 f13), (h6, aI Y 800 f14)] sz)) 0 0 (va_A [(h0, oC 13 [.ref h1, .ref h2, .int p2, .ref h3, .ref h4, .int (nI k5), .int (nI k6), .int p7, .int p8, .int p9, .int (nI k10), .int p11, .long q12, .ref h5, .ref h6, .int (nI k15), .int (nI k16)]), (h1, aI Y 3640 f0), (h2, aZ Y 2 f1), (h3, aZ Y 80 f3), (h4, aB Y 1600 f4), (h5, aI Y 200 f13), (h6, aI Y 800 f14)] sz) :=
  met_of (by decide +kernel) (Nat.le_of_ble_eq_true rfl) (fun p e s m args below meth c B hin hsz => by
    have B : VB p s m args meth c D Y (va_A [(h0, oC 13 [.ref h1, .ref h2, .int p2, .ref h3, .ref h4, .int (nI k5), .int (nI k6), .int p7, .int p8, .int p9, .int (nI k10), .int p11, .long q12, .ref h5, .ref h6, .int (nI k15), .int (nI k16)]), (h1, aI Y 3640 f0), (h2, aZ Y 2 f1), (h3, aZ Y 80 f3), (h4, aB Y 1600 f4), (h5, aI Y 200 f13), (h6, aI Y 800 f14)] sz) cX12_isVisible 4 RX12 (some .boolean) := B
    refine V_iload_n 0 B dX12_isVisible_0 1 rfl ?_
    refine V_istore_n 1 B (lv2 := [(3, .int s0), (0, .ref h0), (1, .int s0), (2, .int (nI s1))]) dX12_isVisible_1 (by decide) rfl ?_
    refine V_wloop (α := WU) (fun a => (((a.2.1 0)).toInt + 1).toNat) (fun a => ((-1) ≤ (a.2.1 0).toInt ∧ (a.2.1 0).toInt ≤ 5)) (fun a => [(3, .int (a.2.1 0)), (0, .ref h0), (1, .int s0), (2, .int (nI s1))]) (fun a => [(h0, oC 13 [.ref h1, .ref h2, .int p2, .ref h3, .ref h4, .int (nI k5), .int (nI k6), .int p7, .int p8, .int p9, .int (nI k10), .int p11, .long q12, .ref h5, .ref h6, .int (nI k15), .int (nI k16)]), (h1, aI Y 3640 f0), (h2, aZ Y 2 f1), (h3, aZ Y 80 f3), (h4, aB Y 1600 f4), (h5, aI Y 200 f13), (h6, aI Y 800 f14)]) (mkW [] [s0] [] [] [] []) (by omega) rfl rfl (fun a0 5 IH1 => ?_)
    refine V_lv [(3, .int (a0.2.1 0)), (0, .ref h0), (1, .int s0), (2, .int (nI s1))] [0, 1, 2, 3] rfl ?_
    refine V_ws [(h0, oC 13 [.ref h1, .ref h2, .int p2, .ref h3, .ref h4, .int (nI k5), .int (nI k6), .int p7, .int p8, .int p9, .int (nI k10), .int p11, .long q12, .ref h5, .ref h6, .int (nI k15), .int (nI k16)]), (h1, aI Y 3640 f0), (h2, aZ Y 2 f1), (h3, aZ Y 80 f3), (h4, aB Y 1600 f4), (h5, aI Y 200 f13), (h6, aI Y 800 f14)] rfl ?_
    have h3 := 5
    generalize a0.2.1 0 = j4 at *
    refine V_iload_n 2 B dX12_isVisible_2 0 rfl ?_
    refine V_iconst 3 B (v := (-1)) dX12_isVisible_3 (by decide +kernel) ?_
    refine V_icmp_eq 4 B 43 dX12_isVisible_4 (by decide) (fun k5 => ?_) (fun k5 => ?_)
    ·
      obtain rfl : j4 = (-1) := k5
      have e7 : ((-1) : Int32).toInt = (-1) := by decide +kernel
      refine V_iload_n 43 B dX12_isVisible_43 0 rfl ?_
      refine V_aload_n 44 B dX12_isVisible_44 1 rfl ?_
      refine V_iload_n 45 B dX12_isVisible_45 3 rfl ?_
      refine V_cvi 46 B (st := [.int (-1)]) (As := [.int (nI s1)]) (fun sz => rX12_modeOf l D Y h0 h1 h2 h3 h4 h5 h6 p2 k5 k6 p7 p8 p9 k10 p11 q12 k15 k16 f0 f1 f3 f4 f13 f14 HI (by omega) HP s1 (by omega) sz) glV_RX12_115 ⟨rfl, rfl⟩ ⟨(Nat.le_of_ble_eq_true rfl), (Nat.le_of_ble_eq_true rfl)⟩ ⟨(Nat.le_of_ble_eq_true rfl), (Nat.le_of_ble_eq_true rfl)⟩ [0, 0, 0, 0, 0, 0, 0] rfl 13 0 rfl rfl rfl rfl (Nat.le_of_ble_eq_true rfl) rfl (fun _ _ _ => rfl) dX12_isVisible_46 (fun j8 u9 w10 => ?_)
      refine V_ws [(h0, oC 13 [.ref h1, .ref h2, .int p2, .ref h3, .ref h4, .int (nI k5), .int (nI k6), .int p7, .int p8, .int p9, .int (nI k10), .int p11, .long q12, .ref h5, .ref h6, .int (nI k15), .int (nI k16)]), (h1, aI Y 3640 f0), (h2, aZ Y 2 f1), (h3, aZ Y 80 f3), (h4, aB Y 1600 f4), (h5, aI Y 200 f13), (h6, aI Y 800 f14)] rfl ?_
      have h11 := w10
      refine V_icmp_ne 49 B 56 dX12_isVisible_49 (by decide) (fun k12 => ?_) (fun k12 => ?_)
      ·
        have h13 := x_ne k12
        rw [show ((-1) : Int32).toInt = (-1) by decide +kernel] at h13
        refine V_iconst 56 B (v := 0) dX12_isVisible_56 (by decide +kernel) ?_
        exact V_zret 57 B rfl dX12_isVisible_57 (mkW [] [] [] [] [] []) (Or.inl rfl) rfl
      ·
        have h14 := x_eq k12
        rw [show ((-1) : Int32).toInt = (-1) by decide +kernel] at h14
        refine V_iconst 52 B (v := 1) dX12_isVisible_52 (by decide +kernel) ?_
        refine V_goto 53 B 57 dX12_isVisible_53 (by decide) ?_
        exact V_zret 57 B rfl dX12_isVisible_57 (mkW [] [] [] [] [] []) (Or.inr rfl) rfl
    ·
      have h15 := x_ne k5
      rw [show ((-1) : Int32).toInt = (-1) by decide +kernel] at h15
      refine V_iload_n 7 B dX12_isVisible_7 0 rfl ?_
      refine V_aload_n 8 B dX12_isVisible_8 1 rfl ?_
      refine V_iload_n 9 B dX12_isVisible_9 3 rfl ?_
      refine V_cvi 10 B (st := [.int j4]) (As := [.int (nI s1)]) (fun sz => rX12_modeOf l D Y h0 h1 h2 h3 h4 h5 h6 p2 k5 k6 p7 p8 p9 k10 p11 q12 k15 k16 f0 f1 f3 f4 f13 f14 HI (by omega) HP s1 (by omega) sz) glV_RX12_115 ⟨rfl, rfl⟩ ⟨(Nat.le_of_ble_eq_true rfl), (Nat.le_of_ble_eq_true rfl)⟩ ⟨(Nat.le_of_ble_eq_true rfl), (Nat.le_of_ble_eq_true rfl)⟩ [0, 0, 0, 0, 0, 0, 0] rfl 13 0 rfl rfl rfl rfl (Nat.le_of_ble_eq_true rfl) rfl (fun _ _ _ => rfl) dX12_isVisible_10 (fun j16 u17 w18 => ?_)
      refine V_ws [(h0, oC 13 [.ref h1, .ref h2, .int p2, .ref h3, .ref h4, .int (nI k5), .int (nI k6), .int p7, .int p8, .int p9, .int (nI k10), .int p11, .long q12, .ref h5, .ref h6, .int (nI k15), .int (nI k16)]), (h1, aI Y 3640 f0), (h2, aZ Y 2 f1), (h3, aZ Y 80 f3), (h4, aB Y 1600 f4), (h5, aI Y 200 f13), (h6, aI Y 800 f14)] rfl ?_
      have h19 := w18
      refine V_icmp_eq 13 B 43 dX12_isVisible_13 (by decide) (fun k20 => ?_) (fun k20 => ?_)
      ·
        have h21 := x_eq k20
        refine V_iload_n 43 B dX12_isVisible_43 0 rfl ?_
        refine V_aload_n 44 B dX12_isVisible_44 1 rfl ?_
        refine V_iload_n 45 B dX12_isVisible_45 3 rfl ?_
        refine V_cvi 46 B (st := [.int j4]) (As := [.int (nI s1)]) (fun sz => rX12_modeOf l D Y h0 h1 h2 h3 h4 h5 h6 p2 k5 k6 p7 p8 p9 k10 p11 q12 k15 k16 f0 f1 f3 f4 f13 f14 HI (by omega) HP s1 (by omega) sz) glV_RX12_115 ⟨rfl, rfl⟩ ⟨(Nat.le_of_ble_eq_true rfl), (Nat.le_of_ble_eq_true rfl)⟩ ⟨(Nat.le_of_ble_eq_true rfl), (Nat.le_of_ble_eq_true rfl)⟩ [0, 0, 0, 0, 0, 0, 0] rfl 13 0 rfl rfl rfl rfl (Nat.le_of_ble_eq_true rfl) rfl (fun _ _ _ => rfl) dX12_isVisible_46 (fun j22 u23 w24 => ?_)
        refine V_ws [(h0, oC 13 [.ref h1, .ref h2, .int p2, .ref h3, .ref h4, .int (nI k5), .int (nI k6), .int p7, .int p8, .int p9, .int (nI k10), .int p11, .long q12, .ref h5, .ref h6, .int (nI k15), .int (nI k16)]), (h1, aI Y 3640 f0), (h2, aZ Y 2 f1), (h3, aZ Y 80 f3), (h4, aB Y 1600 f4), (h5, aI Y 200 f13), (h6, aI Y 800 f14)] rfl ?_
        have h25 := w24
        refine V_icmp_ne 49 B 56 dX12_isVisible_49 (by decide) (fun k26 => ?_) (fun k26 => ?_)
        ·
          have h27 := x_ne k26
          refine V_iconst 56 B (v := 0) dX12_isVisible_56 (by decide +kernel) ?_
          exact V_zret 57 B rfl dX12_isVisible_57 (mkW [] [] [] [] [] []) (Or.inl rfl) rfl
        ·
          have h28 := x_eq k26
          refine V_iconst 52 B (v := 1) dX12_isVisible_52 (by decide +kernel) ?_
          refine V_goto 53 B 57 dX12_isVisible_53 (by decide) ?_
          exact V_zret 57 B rfl dX12_isVisible_57 (mkW [] [] [] [] [] []) (Or.inr rfl) rfl
      ·
        have h29 := x_ne k20
        refine V_aload_n 16 B dX12_isVisible_16 1 rfl ?_
        refine V_iload_n 17 B dX12_isVisible_17 0 rfl ?_
        refine V_iload_n 18 B dX12_isVisible_18 3 rfl ?_
        refine V_csi 19 B (st := [.int j4, .ref h0]) (As := [.int (nI s1)]) (fun sz => rX12_sequenceOf l D Y s1 (by omega) sz) glS_RX12_85 ⟨rfl, rfl⟩ ⟨(Nat.le_of_ble_eq_true rfl), (Nat.le_of_ble_eq_true rfl)⟩ ⟨(Nat.le_of_ble_eq_true rfl), (Nat.le_of_ble_eq_true rfl)⟩ [] rfl rfl (Nat.le_of_ble_eq_true rfl) rfl (fun _ _ _ => rfl) dX12_isVisible_19 (fun j30 u31 w32 => ?_)
        refine V_ws [(h0, oC 13 [.ref h1, .ref h2, .int p2, .ref h3, .ref h4, .int (nI k5), .int (nI k6), .int p7, .int p8, .int p9, .int (nI k10), .int p11, .long q12, .ref h5, .ref h6, .int (nI k15), .int (nI k16)]), (h1, aI Y 3640 f0), (h2, aZ Y 2 f1), (h3, aZ Y 80 f3), (h4, aB Y 1600 f4), (h5, aI Y 200 f13), (h6, aI Y 800 f14)] rfl ?_
        have h33 := w32
        obtain rfl := h33
        refine V_iconst 22 B (v := (-1)) dX12_isVisible_22 (by decide +kernel) ?_
        refine V_cvi 23 B (st := []) (As := [.int j4, .int (nI (186 + 7 * s1)), .int (-1)]) (fun sz => rX12_clashIn l D Y h0 h1 h2 h3 h4 h5 h6 p2 k5 k6 p7 p8 p9 k10 p11 q12 k15 k16 f0 f1 f3 f4 f13 f14 HI (by omega) HP j4 (186 + 7 * s1) (-1) (rl1 s1 (by omega)) sz) glV_RX12_121 ⟨rfl, rfl⟩ ⟨(Nat.le_of_ble_eq_true rfl), (Nat.le_of_ble_eq_true rfl)⟩ ⟨(Nat.le_of_ble_eq_true rfl), (Nat.le_of_ble_eq_true rfl)⟩ [0, 0, 0, 0, 0, 0, 0] rfl 13 0 rfl rfl rfl rfl (Nat.le_of_ble_eq_true rfl) rfl (fun _ _ _ => rfl) dX12_isVisible_23 (fun j34 u35 w36 => ?_)
        refine V_ws [(h0, oC 13 [.ref h1, .ref h2, .int p2, .ref h3, .ref h4, .int (nI k5), .int (nI k6), .int p7, .int p8, .int p9, .int (nI k10), .int p11, .long q12, .ref h5, .ref h6, .int (nI k15), .int (nI k16)]), (h1, aI Y 3640 f0), (h2, aZ Y 2 f1), (h3, aZ Y 80 f3), (h4, aB Y 1600 f4), (h5, aI Y 200 f13), (h6, aI Y 800 f14)] rfl ?_
        have h37 := w36
        have h40 : (gN f0 3) ≤ 80 := gN_le HI (by omega) (show bd 3 = (0, ((80 : Nat) : Int)) by decide +kernel)
        rcases h37 with rfl | ⟨n38, rfl, h39⟩
        ·
          refine V_iconst 26 B (v := (-1)) dX12_isVisible_26 (by decide +kernel) ?_
          refine V_icmp_ne_f 27 B 43 dX12_isVisible_27 (by decide) (by decide +kernel) ?_
          refine V_aload_n 30 B dX12_isVisible_30 1 rfl ?_
          refine V_get 31 B gf_RX12_9 0 rfl rfl dX12_isVisible_31 ?_
          refine V_bipush 34 B (v := 16) dX12_isVisible_34 (by decide +kernel) ?_
          refine V_iload_n 36 B dX12_isVisible_36 0 rfl ?_
          obtain ⟨n41, h42, rfl⟩ := nat_of (x := j4) (n := 5) (by omega) (by omega)
          have e43 := nI_toInt (show n41 < 2 ^ 31 by omega)
          refine V_iadd 37 B (v := (nI (16 + n41))) dX12_isVisible_37 (nI_addE (a := 16) (b := n41) (by omega)) ?_
          refine V_iald 38 B (v := f0 (16 + n41)) 1 rfl (vp_in_nI (n := 16 + n41) (by omega) (by decide)) dX12_isVisible_38 (by rw [nI_clamp (show 16 + n41 < 2 ^ 31 by omega)]; exact rfl) ?_
          refine V_nmi (fun j44 e45 => ?_)
          have h46 : (-1) ≤ j44.toInt ∧ j44.toInt ≤ (((n41 : Nat) : Int) - 1) := by rw [e45]; exact ⟨INV_lo HI (by omega) (rl3 n41 (by omega)), INV_hi HI (by omega) (rl3 n41 (by omega))⟩
          refine V_istore_n 39 B (lv2 := [(3, .int j44), (0, .ref h0), (1, .int s0), (2, .int (nI s1))]) dX12_isVisible_39 (by decide) rfl ?_
          refine V_goto 40 B 2 dX12_isVisible_40 (by decide) ?_
          refine V_lv [(3, .int j44), (0, .ref h0), (1, .int s0), (2, .int (nI s1))] [0, 1, 2, 3] rfl ?_
          exact IH1 (mkW [] [j44] [] [] [] []) (by omega) (by show ((j44 : Int32).toInt + 1).toNat < (j4.toInt + 1).toNat; omega)
        ·
          refine V_iconst 26 B (v := (-1)) dX12_isVisible_26 (by decide +kernel) ?_
          refine V_icmp_ne 27 B 43 dX12_isVisible_27 (by decide) (fun k47 => ?_) (fun k47 => ?_)
          ·
            have h48 := x_ne k47
            rw [nI_toInt (show n38 < 2 ^ 31 by omega)] at h48
            rw [show ((-1) : Int32).toInt = (-1) by decide +kernel] at h48
            refine V_iload_n 43 B dX12_isVisible_43 0 rfl ?_
            refine V_aload_n 44 B dX12_isVisible_44 1 rfl ?_
            refine V_iload_n 45 B dX12_isVisible_45 3 rfl ?_
            refine V_cvi 46 B (st := [.int j4]) (As := [.int (nI s1)]) (fun sz => rX12_modeOf l D Y h0 h1 h2 h3 h4 h5 h6 p2 k5 k6 p7 p8 p9 k10 p11 q12 k15 k16 f0 f1 f3 f4 f13 f14 HI (by omega) HP s1 (by omega) sz) glV_RX12_115 ⟨rfl, rfl⟩ ⟨(Nat.le_of_ble_eq_true rfl), (Nat.le_of_ble_eq_true rfl)⟩ ⟨(Nat.le_of_ble_eq_true rfl), (Nat.le_of_ble_eq_true rfl)⟩ [0, 0, 0, 0, 0, 0, 0] rfl 13 0 rfl rfl rfl rfl (Nat.le_of_ble_eq_true rfl) rfl (fun _ _ _ => rfl) dX12_isVisible_46 (fun j49 u50 w51 => ?_)
            refine V_ws [(h0, oC 13 [.ref h1, .ref h2, .int p2, .ref h3, .ref h4, .int (nI k5), .int (nI k6), .int p7, .int p8, .int p9, .int (nI k10), .int p11, .long q12, .ref h5, .ref h6, .int (nI k15), .int (nI k16)]), (h1, aI Y 3640 f0), (h2, aZ Y 2 f1), (h3, aZ Y 80 f3), (h4, aB Y 1600 f4), (h5, aI Y 200 f13), (h6, aI Y 800 f14)] rfl ?_
            have h52 := w51
            refine V_icmp_ne 49 B 56 dX12_isVisible_49 (by decide) (fun k53 => ?_) (fun k53 => ?_)
            ·
              have h54 := x_ne k53
              refine V_iconst 56 B (v := 0) dX12_isVisible_56 (by decide +kernel) ?_
              exact V_zret 57 B rfl dX12_isVisible_57 (mkW [] [] [] [] [] []) (Or.inl rfl) rfl
            ·
              have h55 := x_eq k53
              refine V_iconst 52 B (v := 1) dX12_isVisible_52 (by decide +kernel) ?_
              refine V_goto 53 B 57 dX12_isVisible_53 (by decide) ?_
              exact V_zret 57 B rfl dX12_isVisible_57 (mkW [] [] [] [] [] []) (Or.inr rfl) rfl
          ·
            have h56 := x_eq k47
            rw [nI_toInt (show n38 < 2 ^ 31 by omega)] at h56
            rw [show ((-1) : Int32).toInt = (-1) by decide +kernel] at h56
            refine V_aload_n 30 B dX12_isVisible_30 1 rfl ?_
            refine V_get 31 B gf_RX12_9 0 rfl rfl dX12_isVisible_31 ?_
            refine V_bipush 34 B (v := 16) dX12_isVisible_34 (by decide +kernel) ?_
            refine V_iload_n 36 B dX12_isVisible_36 0 rfl ?_
            obtain ⟨n57, h58, rfl⟩ := nat_of (x := j4) (n := 5) (by omega) (by omega)
            have e59 := nI_toInt (show n57 < 2 ^ 31 by omega)
            refine V_iadd 37 B (v := (nI (16 + n57))) dX12_isVisible_37 (nI_addE (a := 16) (b := n57) (by omega)) ?_
            refine V_iald 38 B (v := f0 (16 + n57)) 1 rfl (vp_in_nI (n := 16 + n57) (by omega) (by decide)) dX12_isVisible_38 (by rw [nI_clamp (show 16 + n57 < 2 ^ 31 by omega)]; exact rfl) ?_
            refine V_nmi (fun j60 e61 => ?_)
            have h62 : (-1) ≤ j60.toInt ∧ j60.toInt ≤ (((n57 : Nat) : Int) - 1) := by rw [e61]; exact ⟨INV_lo HI (by omega) (rl3 n57 (by omega)), INV_hi HI (by omega) (rl3 n57 (by omega))⟩
            refine V_istore_n 39 B (lv2 := [(3, .int j60), (0, .ref h0), (1, .int s0), (2, .int (nI s1))]) dX12_isVisible_39 (by decide) rfl ?_
            refine V_goto 40 B 2 dX12_isVisible_40 (by decide) ?_
            refine V_lv [(3, .int j60), (0, .ref h0), (1, .int s0), (2, .int (nI s1))] [0, 1, 2, 3] rfl ?_
            exact IH1 (mkW [] [j60] [] [] [] []) (by omega) (by show ((j60 : Int32).toInt + 1).toNat < (j4.toInt + 1).toNat; omega))
