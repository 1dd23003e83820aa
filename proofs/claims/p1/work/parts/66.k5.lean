set_option maxRecDepth 100000 in
set_option maxHeartbeats 4000000 in
theorem mX12_cheapest_6 (l : Launch) (D : va_G) (Y : Nat → ClassId) (h0 : Nat) (h1 : Nat) (g0 : Nat) (g1 : Nat) (g2 : Nat) (g3 : Nat) (g4 : Nat) (p0 : Int32) (sz : Nat) : Met l yX12_cheapest (WSm yX12_cheapest cX12_cheapest 10 (some .int)) (mkR 3 0 0 70) (PreC D Y [.ref h0, .int 0, .int p0, .int 1] [(h0, oC 13 [.ref h1, .ref g0, .int 0, .ref g1, .ref g2, .int 0, .int 0, .int 0, .int (-1), .int 0, .int 0, .int 0, .long 0, .ref g3, .ref g4, .int 0, .int 0]), (h1, aI Y 3640 (clB 0 (fun _ => 0)))] sz) (QI D (fun (r : Int32) (u : Nat) => (u = 0 ∧ p0 = 1 ∧ 1 = r) ∨ (u = 1 ∧ p0 = 2 ∧ 2 = r) ∨ (u = 2 ∧ p0 < 1 ∧ 0 = r) ∨ (u = 3 ∧ 2 < p0 ∧ 0 = r)) (fun (u : Nat) => match u with | 0 => [(h0, oC 13 [.ref h1, .ref g0, .int 0, .ref g1, .ref g2, .int 0, .int 0, .int 0, .int (-1), .int 0, .int 0, .int 0, .long 0, .ref g3, .ref g4, .int 0, .int 0]), (h1, aI Y 3640 (upd (upd (upd (upd (upd (upd (clB 0 (fun _ => 0)) 3629 1) 3630 281) 3631 0) 3624 1) 3625 0) 3626 0))] | 1 => [(h0, oC 13 [.ref h1, .ref g0, .int 0, .ref g1, .ref g2, .int 0, .int 0, .int 0, .int (-1), .int 0, .int 0, .int 0, .long 0, .ref g3, .ref g4, .int 0, .int 0]), (h1, aI Y 3640 (upd (upd (upd (upd (upd (upd (clB 0 (fun _ => 0)) 3629 2) 3630 281) 3631 281) 3624 2) 3625 0) 3626 0))] | 2 => [(h0, oC 13 [.ref h1, .ref g0, .int 2, .ref g1, .ref g2, .int 0, .int 0, .int 0, .int (-1), .int 0, .int 0, .int 0, .long 0, .ref g3, .ref g4, .int 0, .int 0]), (h1, aI Y 3640 (clB 0 (fun _ => 0)))] | _ => [(h0, oC 13 [.ref h1, .ref g0, .int 2, .ref g1, .ref g2, .int 0, .int 0, .int 0, .int (-1), .int 0, .int 0, .int 0, .long 0, .ref g3, .ref g4, .int 0, .int 0]), (h1, aI Y 3640 (clB 0 (fun _ => 0)))]) (va_A [(h0, oC 13 [.ref h1, .ref g0, .int 0, .ref g1, .ref g2, .int 0, .int 0, .int 0, .int (-1), .int 0, .int 0, .int 0, .long 0, .ref g3, .ref g4, .int 0, .int 0]), (h1, aI Y 3640 (clB 0 (fun _ => 0)))] sz)) 0 0 (va_A [(h0, oC 13 [.ref h1, .ref g0, .int 0, .ref g1, .ref g2, .int 0, .int 0, .int 0, .int (-1), .int 0, .int 0, .int 0, .long 0, .ref g3, .ref g4, .int 0, .int 0]), (h1, aI Y 3640 (clB 0 (fun _ => 0)))] sz) :=
  met_of (by decide +kernel) (Nat.le_of_ble_eq_true rfl) (fun p e s m args below meth c B hin hsz => by
    have B : VB p s m args meth c D Y (va_A [(h0, oC 13 [.ref h1, .ref g0, .int 0, .ref g1, .ref g2, .int 0, .int 0, .int 0, .int (-1), .int 0, .int 0, .int 0, .long 0, .ref g3, .ref g4, .int 0, .int 0]), (h1, aI Y 3640 (clB 0 (fun _ => 0)))] sz) cX12_cheapest 10 RX12 (some .int) := B
    refine V_aload_n 0 B dX12_cheapest_0 0 rfl ?_
    refine V_iconst 1 B (v := 0) dX12_cheapest_1 (by decide +kernel) ?_
    refine V_put 2 B gp_RX12_38 0 rfl (Nat.le_of_ble_eq_true rfl) rfl rfl dX12_cheapest_2 [(h0, oC 13 [.ref h1, .ref g0, .int 0, .ref g1, .ref g2, .int 0, .int 0, .int 0, .int (-1), .int 0, .int 0, .int 0, .long 0, .ref g3, .ref g4, .int 0, .int 0]), (h1, aI Y 3640 (clB 0 (fun _ => 0)))] rfl ?_
    refine V_aload_n 5 B dX12_cheapest_5 0 rfl ?_
    refine V_aload_n 6 B dX12_cheapest_6 0 rfl ?_
    refine V_iload_n 7 B dX12_cheapest_7 1 rfl ?_
    refine V_cvi 8 B (st := [.ref h0]) (As := [.int 0]) (fun sz => mX12_isMode_2 l D Y (h0) (h1) (g0) (g1) (g2) (g3) (g4) sz) glV_RX12_91 ⟨rfl, rfl⟩ ⟨(Nat.le_of_ble_eq_true rfl), (Nat.le_of_ble_eq_true rfl)⟩ ⟨(Nat.le_of_ble_eq_true rfl), (Nat.le_of_ble_eq_true rfl)⟩ [0, 0] rfl 13 0 rfl rfl rfl rfl (Nat.le_of_ble_eq_true rfl) rfl (fun _ _ _ => rfl) dX12_cheapest_8 (fun r0 u0 w0 => ?_)
    obtain rfl := w0
    refine V_ws [(h0, oC 13 [.ref h1, .ref g0, .int 0, .ref g1, .ref g2, .int 0, .int 0, .int 0, .int (-1), .int 0, .int 0, .int 0, .long 0, .ref g3, .ref g4, .int 0, .int 0]), (h1, aI Y 3640 (clB 0 (fun _ => 0)))] rfl ?_
    refine V_if_ne_t 11 B 18 dX12_cheapest_11 (by decide) (by decide +kernel) ?_
    refine V_iconst 18 B (v := 0) dX12_cheapest_18 (by decide +kernel) ?_
    refine V_iconst 19 B (v := 1) dX12_cheapest_19 (by decide +kernel) ?_
    refine V_cvi 20 B (st := []) (As := [.int 0, .int 1]) (fun sz => mX12_throwsIf_2 l D Y (h0) (h1) (g0) (g1) (g2) (g3) (g4) sz) glV_RX12_69 ⟨rfl, rfl⟩ ⟨(Nat.le_of_ble_eq_true rfl), (Nat.le_of_ble_eq_true rfl)⟩ ⟨(Nat.le_of_ble_eq_true rfl), (Nat.le_of_ble_eq_true rfl)⟩ [0] rfl 13 0 rfl rfl rfl rfl (Nat.le_of_ble_eq_true rfl) rfl (fun _ _ _ => rfl) dX12_cheapest_20 (fun r1 u1 w1 => ?_)
    obtain rfl := w1
    refine V_ws [(h0, oC 13 [.ref h1, .ref g0, .int 0, .ref g1, .ref g2, .int 0, .int 0, .int 0, .int (-1), .int 0, .int 0, .int 0, .long 0, .ref g3, .ref g4, .int 0, .int 0]), (h1, aI Y 3640 (clB 0 (fun _ => 0)))] rfl ?_
    refine V_if_ne_f 23 B 51 dX12_cheapest_23 (by decide) (by decide +kernel) ?_
    refine V_aload_n 26 B dX12_cheapest_26 0 rfl ?_
    refine V_iload_n 27 B dX12_cheapest_27 2 rfl ?_
    refine V_i2l 28 B dX12_cheapest_28 rfl ?_
    refine V_lconst 29 B (v := 1) dX12_cheapest_29 (by decide +kernel) ?_
    refine V_ldc2 30 B (v := 2) dX12_cheapest_30 (mT8 45 rfl rfl) ?_
    refine V_csi 33 B (st := [.ref h0]) (As := [.long p0.toInt64, .long 1, .long 2]) (fun sz => mX12_inRange_m l D Y (p0) (1) (2) (1) (2) (by decide +kernel) (by decide +kernel) sz) glS_RX12_41 ⟨rfl, rfl⟩ ⟨(Nat.le_of_ble_eq_true rfl), (Nat.le_of_ble_eq_true rfl)⟩ ⟨(Nat.le_of_ble_eq_true rfl), (Nat.le_of_ble_eq_true rfl)⟩ [] rfl rfl (Nat.le_of_ble_eq_true rfl) rfl (fun _ _ _ => rfl) dX12_cheapest_33 (fun r2 u2 w2 => ?_)
    rcases w2 with ⟨k3, k4, rfl⟩ | ⟨k5, rfl⟩ | ⟨k6, rfl⟩
    ·
      refine V_ws [(h0, oC 13 [.ref h1, .ref g0, .int 0, .ref g1, .ref g2, .int 0, .int 0, .int 0, .int (-1), .int 0, .int 0, .int 0, .long 0, .ref g3, .ref g4, .int 0, .int 0]), (h1, aI Y 3640 (clB 0 (fun _ => 0)))] rfl ?_
      refine V_if_ne_t 36 B 43 dX12_cheapest_36 (by decide) (by decide +kernel) ?_
      refine V_iconst 43 B (v := 0) dX12_cheapest_43 (by decide +kernel) ?_
      refine V_iconst 44 B (v := 2) dX12_cheapest_44 (by decide +kernel) ?_
      refine V_cvi 45 B (st := []) (As := [.int 0, .int 2]) (fun sz => mX12_throwsIf_3 l D Y (h0) (h1) (g0) (g1) (g2) (g3) (g4) sz) glV_RX12_69 ⟨rfl, rfl⟩ ⟨(Nat.le_of_ble_eq_true rfl), (Nat.le_of_ble_eq_true rfl)⟩ ⟨(Nat.le_of_ble_eq_true rfl), (Nat.le_of_ble_eq_true rfl)⟩ [0] rfl 13 0 rfl rfl rfl rfl (Nat.le_of_ble_eq_true rfl) rfl (fun _ _ _ => rfl) dX12_cheapest_45 (fun r7 u7 w7 => ?_)
      obtain rfl := w7
      refine V_ws [(h0, oC 13 [.ref h1, .ref g0, .int 0, .ref g1, .ref g2, .int 0, .int 0, .int 0, .int (-1), .int 0, .int 0, .int 0, .long 0, .ref g3, .ref g4, .int 0, .int 0]), (h1, aI Y 3640 (clB 0 (fun _ => 0)))] rfl ?_
      refine V_if_eq_t 48 B 53 dX12_cheapest_48 (by decide) (by decide +kernel) ?_
      refine V_iconst 53 B (v := 0) dX12_cheapest_53 (by decide +kernel) ?_
      refine V_istore 54 B (lv2 := [(4, .int 0), (0, .ref h0), (1, .int 0), (2, .int p0), (3, .int 1)]) dX12_cheapest_54 (by decide) rfl ?_
      refine V_iload 56 B dX12_cheapest_56 0 rfl ?_
      refine V_aload_n 58 B dX12_cheapest_58 1 rfl ?_
      refine V_get 59 B gf_RX12_9 0 rfl rfl dX12_cheapest_59 ?_
      refine V_iconst 62 B (v := 3) dX12_cheapest_62 (by decide +kernel) ?_
      refine V_iald 63 B (v := 0) 1 rfl (vpin _ _ (by decide +kernel)) dX12_cheapest_63 rfl ?_
      refine V_icmp_ge_t 64 B 116 dX12_cheapest_64 (by decide) (by decide +kernel) ?_
      by_cases k8 : p0 = 1
      ·
        obtain rfl : p0 = 1 := k8
        refine V_ldc 116 B (v := 1000000) dX12_cheapest_116 (mT9 29 rfl rfl) ?_
        refine V_istore 118 B (lv2 := [(4, .int 1000000), (0, .ref h0), (1, .int 0), (2, .int 1), (3, .int 1)]) dX12_cheapest_118 (by decide) rfl ?_
        refine V_iconst 120 B (v := 0) dX12_cheapest_120 (by decide +kernel) ?_
        refine V_istore 121 B (lv2 := [(5, .int 0), (4, .int 1000000), (0, .ref h0), (1, .int 0), (2, .int 1), (3, .int 1)]) dX12_cheapest_121 (by decide) rfl ?_
        refine V_iconst 123 B (v := 0) dX12_cheapest_123 (by decide +kernel) ?_
        refine V_istore 124 B (lv2 := [(6, .int 0), (5, .int 0), (4, .int 1000000), (0, .ref h0), (1, .int 0), (2, .int 1), (3, .int 1)]) dX12_cheapest_124 (by decide) rfl ?_
        refine V_aload_n 126 B dX12_cheapest_126 3 rfl ?_
        refine V_get 127 B gf_RX12_9 0 rfl rfl dX12_cheapest_127 ?_
        refine V_sipush 130 B (v := 3629) dX12_cheapest_130 (by decide +kernel) ?_
        refine V_iload_n 133 B dX12_cheapest_133 5 rfl ?_
        refine V_iast 134 B 1 rfl (vpin _ _ (by decide +kernel)) dX12_cheapest_134 [(h0, oC 13 [.ref h1, .ref g0, .int 0, .ref g1, .ref g2, .int 0, .int 0, .int 0, .int (-1), .int 0, .int 0, .int 0, .long 0, .ref g3, .ref g4, .int 0, .int 0]), (h1, aI Y 3640 (upd (clB 0 (fun _ => 0)) 3629 1))] rfl ?_
        refine V_iconst 135 B (v := 0) dX12_cheapest_135 (by decide +kernel) ?_
        refine V_istore 136 B (lv2 := [(7, .int 0), (6, .int 0), (5, .int 0), (4, .int 1000000), (0, .ref h0), (1, .int 0), (2, .int 1), (3, .int 1)]) dX12_cheapest_136 (by decide) rfl ?_
        refine V_loop (α := Unit) 130 (fun _ _ => True) (fun iA _ => [(7, .int (nI iA)), (6, .int 0), (5, .int 0), (4, .int (pick 1000000 1 iA)), (0, .ref h0), (1, .int 0), (2, .int 1), (3, .int 1)]) (fun iA _ => [(h0, oC 13 [.ref h1, .ref g0, .int 0, .ref g1, .ref g2, .int 0, .int 0, .int 0, .int (-1), .int 0, .int 0, .int 0, .long 0, .ref g3, .ref g4, .int 0, .int 0]), (h1, aI Y 3640 (upd (upd (upd (clB 0 (fun _ => 0)) 3629 1) 3630 (pickf 0 (fun j => simF (nI j)) iA)) 3631 0))]) () trivial rfl (by rw [show upd (upd (upd (clB 0 (fun _ => 0)) 3629 1) 3630 (pickf 0 (fun j => simF (nI j)) 0)) 3631 0 = (upd (clB 0 (fun _ => 0)) 3629 1) from (congrArg (fun g => upd g 3631 0) (upd_same (f := (upd (clB 0 (fun _ => 0)) 3629 1)) (k := 3630) (x := (pickf 0 (fun j => simF (nI j)) 0)) (by decide +kernel))).trans (upd_same (by decide +kernel))]) (fun iA _ hiA _ IHA => ?_) (fun _ _ => ?_)
        ·
          refine V_lv [(7, .int (nI iA)), (6, .int 0), (5, .int 0), (4, .int (pick 1000000 1 iA)), (0, .ref h0), (1, .int 0), (2, .int 1), (3, .int 1)] [0, 1, 2, 3, 4, 5, 6, 7] rfl ?_
          refine V_ws [(h0, oC 13 [.ref h1, .ref g0, .int 0, .ref g1, .ref g2, .int 0, .int 0, .int 0, .int (-1), .int 0, .int 0, .int 0, .long 0, .ref g3, .ref g4, .int 0, .int 0]), (h1, aI Y 3640 (upd (upd (upd (clB 0 (fun _ => 0)) 3629 1) 3630 (pickf 0 (fun j => simF (nI j)) iA)) 3631 0))] rfl ?_
          refine V_iload 138 B dX12_cheapest_138 0 rfl ?_
          refine V_sipush 140 B (v := 130) dX12_cheapest_140 (by decide +kernel) ?_
          refine V_icmp_ge_f 143 B 250 dX12_cheapest_143 (by decide) (q_nge (nI_hi hiA (by decide) (k := 129) (by decide +kernel)) (by decide +kernel)) ?_
          by_cases k9 : iA = 0
          ·
            obtain rfl : iA = 0 := by omega
            refine V_lv [(7, .int 0), (6, .int 0), (5, .int 0), (4, .int 1000000), (0, .ref h0), (1, .int 0), (2, .int 1), (3, .int 1)] [0, 1, 2, 3, 4, 5, 6, 7] rfl ?_
            refine V_ws [(h0, oC 13 [.ref h1, .ref g0, .int 0, .ref g1, .ref g2, .int 0, .int 0, .int 0, .int (-1), .int 0, .int 0, .int 0, .long 0, .ref g3, .ref g4, .int 0, .int 0]), (h1, aI Y 3640 (upd (upd (upd (clB 0 (fun _ => 0)) 3629 1) 3630 0) 3631 0))] rfl ?_
            refine V_iconst 146 B (v := 0) dX12_cheapest_146 (by decide +kernel) ?_
            refine V_istore 147 B (lv2 := [(8, .int 0), (7, .int 0), (6, .int 0), (5, .int 0), (4, .int 1000000), (0, .ref h0), (1, .int 0), (2, .int 1), (3, .int 1)]) dX12_cheapest_147 (by decide) rfl ?_
            refine V_iload 149 B dX12_cheapest_149 0 rfl ?_
            refine V_iload_n 151 B dX12_cheapest_151 7 rfl ?_
            refine V_iconst 152 B (v := 1) dX12_cheapest_152 (by decide +kernel) ?_
            refine V_icmp_ne_f 153 B 160 dX12_cheapest_153 (by decide) (by decide +kernel) ?_
            refine V_iconst 156 B (v := 1) dX12_cheapest_156 (by decide +kernel) ?_
            refine V_goto 157 B 163 dX12_cheapest_157 (by decide) ?_
            refine V_icmp_ge_f 163 B 244 dX12_cheapest_163 (by decide) (by decide +kernel) ?_
            refine V_aload_n 166 B dX12_cheapest_166 5 rfl ?_
            refine V_get 167 B gf_RX12_9 0 rfl rfl dX12_cheapest_167 ?_
            refine V_sipush 170 B (v := 3630) dX12_cheapest_170 (by decide +kernel) ?_
            refine V_iload 173 B dX12_cheapest_173 1 rfl ?_
            refine V_csi 175 B (st := [.int 3630, .ref h1]) (As := [.int 0]) (fun sz => mX12_simpleStroke_2 l D Y  sz) glS_RX12_181 ⟨rfl, rfl⟩ ⟨(Nat.le_of_ble_eq_true rfl), (Nat.le_of_ble_eq_true rfl)⟩ ⟨(Nat.le_of_ble_eq_true rfl), (Nat.le_of_ble_eq_true rfl)⟩ [] rfl rfl (Nat.le_of_ble_eq_true rfl) rfl (fun _ _ _ => rfl) dX12_cheapest_175 (fun r10 u10 w10 => ?_)
            obtain rfl := w10
            refine V_ws [(h0, oC 13 [.ref h1, .ref g0, .int 0, .ref g1, .ref g2, .int 0, .int 0, .int 0, .int (-1), .int 0, .int 0, .int 0, .long 0, .ref g3, .ref g4, .int 0, .int 0]), (h1, aI Y 3640 (upd (upd (upd (clB 0 (fun _ => 0)) 3629 1) 3630 0) 3631 0))] rfl ?_
            refine V_iast 178 B 1 rfl (vpin _ _ (by decide +kernel)) dX12_cheapest_178 [(h0, oC 13 [.ref h1, .ref g0, .int 0, .ref g1, .ref g2, .int 0, .int 0, .int 0, .int (-1), .int 0, .int 0, .int 0, .long 0, .ref g3, .ref g4, .int 0, .int 0]), (h1, aI Y 3640 (upd (upd (upd (upd (clB 0 (fun _ => 0)) 3629 1) 3630 0) 3631 0) 3630 0))] rfl ?_
            refine V_aload_n 179 B dX12_cheapest_179 5 rfl ?_
            refine V_get 180 B gf_RX12_9 0 rfl rfl dX12_cheapest_180 ?_
            refine V_sipush 183 B (v := 3631) dX12_cheapest_183 (by decide +kernel) ?_
            refine V_iload 186 B dX12_cheapest_186 0 rfl ?_
            refine V_csi 188 B (st := [.int 3631, .ref h1]) (As := [.int 0]) (fun sz => mX12_simpleStroke_2 l D Y  sz) glS_RX12_181 ⟨rfl, rfl⟩ ⟨(Nat.le_of_ble_eq_true rfl), (Nat.le_of_ble_eq_true rfl)⟩ ⟨(Nat.le_of_ble_eq_true rfl), (Nat.le_of_ble_eq_true rfl)⟩ [] rfl rfl (Nat.le_of_ble_eq_true rfl) rfl (fun _ _ _ => rfl) dX12_cheapest_188 (fun r11 u11 w11 => ?_)
            obtain rfl := w11
            refine V_ws [(h0, oC 13 [.ref h1, .ref g0, .int 0, .ref g1, .ref g2, .int 0, .int 0, .int 0, .int (-1), .int 0, .int 0, .int 0, .long 0, .ref g3, .ref g4, .int 0, .int 0]), (h1, aI Y 3640 (upd (upd (upd (upd (clB 0 (fun _ => 0)) 3629 1) 3630 0) 3631 0) 3630 0))] rfl ?_
            refine V_iast 191 B 1 rfl (vpin _ _ (by decide +kernel)) dX12_cheapest_191 [(h0, oC 13 [.ref h1, .ref g0, .int 0, .ref g1, .ref g2, .int 0, .int 0, .int 0, .int (-1), .int 0, .int 0, .int 0, .long 0, .ref g3, .ref g4, .int 0, .int 0]), (h1, aI Y 3640 (upd (upd (upd (upd (upd (clB 0 (fun _ => 0)) 3629 1) 3630 0) 3631 0) 3630 0) 3631 0))] rfl ?_
            refine V_aload_n 192 B dX12_cheapest_192 5 rfl ?_
            refine V_sipush 193 B (v := 3629) dX12_cheapest_193 (by decide +kernel) ?_
            refine V_cvi 196 B (st := []) (As := [.int 3629]) (fun sz => mX12_costOf_2 l D Y (h0) (h1) (g0) (g1) (g2) (g3) (g4) sz) glV_RX12_76 ⟨rfl, rfl⟩ ⟨(Nat.le_of_ble_eq_true rfl), (Nat.le_of_ble_eq_true rfl)⟩ ⟨(Nat.le_of_ble_eq_true rfl), (Nat.le_of_ble_eq_true rfl)⟩ [0, 0] rfl 13 0 rfl rfl rfl rfl (Nat.le_of_ble_eq_true rfl) rfl (fun _ _ _ => rfl) dX12_cheapest_196 (fun r12 u12 w12 => ?_)
            obtain rfl := w12
            refine V_ws [(h0, oC 13 [.ref h1, .ref g0, .int 0, .ref g1, .ref g2, .int 0, .int 0, .int 0, .int (-1), .int 0, .int 0, .int 0, .long 0, .ref g3, .ref g4, .int 0, .int 0]), (h1, aI Y 3640 (upd (upd (upd (upd (upd (clB 0 (fun _ => 0)) 3629 1) 3630 0) 3631 0) 3630 0) 3631 0))] rfl ?_
            refine V_istore 199 B (lv2 := [(9, .int 1), (8, .int 0), (7, .int 0), (6, .int 0), (5, .int 0), (4, .int 1000000), (0, .ref h0), (1, .int 0), (2, .int 1), (3, .int 1)]) dX12_cheapest_199 (by decide) rfl ?_
            refine V_iload 201 B dX12_cheapest_201 0 rfl ?_
            refine V_iload 203 B dX12_cheapest_203 5 rfl ?_
            refine V_icmp_ge_f 205 B 238 dX12_cheapest_205 (by decide) (by decide +kernel) ?_
            refine V_aload_n 208 B dX12_cheapest_208 6 rfl ?_
            refine V_iload_n 209 B dX12_cheapest_209 7 rfl ?_
            refine V_iload_n 210 B dX12_cheapest_210 9 rfl ?_
            refine V_cvi 211 B (st := []) (As := [.int 0, .int 1]) (fun sz => mX12_isFreeHere_5 l D Y (h0) (h1) (g0) (g1) (g2) (g3) (g4) sz) glV_RX12_185 ⟨rfl, rfl⟩ ⟨(Nat.le_of_ble_eq_true rfl), (Nat.le_of_ble_eq_true rfl)⟩ ⟨(Nat.le_of_ble_eq_true rfl), (Nat.le_of_ble_eq_true rfl)⟩ [0, 0] rfl 13 0 rfl rfl rfl rfl (Nat.le_of_ble_eq_true rfl) rfl (fun _ _ _ => rfl) dX12_cheapest_211 (fun r13 u13 w13 => ?_)
            obtain rfl := w13
            refine V_ws [(h0, oC 13 [.ref h1, .ref g0, .int 0, .ref g1, .ref g2, .int 0, .int 0, .int 0, .int (-1), .int 0, .int 0, .int 0, .long 0, .ref g3, .ref g4, .int 0, .int 0]), (h1, aI Y 3640 (upd (upd (upd (upd (upd (clB 0 (fun _ => 0)) 3629 1) 3630 0) 3631 0) 3630 0) 3631 0))] rfl ?_
            refine V_if_ne_t 214 B 220 dX12_cheapest_214 (by decide) (by decide +kernel) ?_
            refine V_iload 220 B dX12_cheapest_220 0 rfl ?_
            refine V_istore 222 B (lv2 := [(4, .int 1), (9, .int 1), (8, .int 0), (7, .int 0), (6, .int 0), (5, .int 0), (0, .ref h0), (1, .int 0), (2, .int 1), (3, .int 1)]) dX12_cheapest_222 (by decide) rfl ?_
            refine V_iload 224 B dX12_cheapest_224 3 rfl ?_
            refine V_csi 226 B (st := []) (As := [.int 0]) (fun sz => mX12_simpleStroke_2 l D Y  sz) glS_RX12_181 ⟨rfl, rfl⟩ ⟨(Nat.le_of_ble_eq_true rfl), (Nat.le_of_ble_eq_true rfl)⟩ ⟨(Nat.le_of_ble_eq_true rfl), (Nat.le_of_ble_eq_true rfl)⟩ [] rfl rfl (Nat.le_of_ble_eq_true rfl) rfl (fun _ _ _ => rfl) dX12_cheapest_226 (fun r14 u14 w14 => ?_)
            obtain rfl := w14
            refine V_ws [(h0, oC 13 [.ref h1, .ref g0, .int 0, .ref g1, .ref g2, .int 0, .int 0, .int 0, .int (-1), .int 0, .int 0, .int 0, .long 0, .ref g3, .ref g4, .int 0, .int 0]), (h1, aI Y 3640 (upd (upd (upd (upd (upd (clB 0 (fun _ => 0)) 3629 1) 3630 0) 3631 0) 3630 0) 3631 0))] rfl ?_
            refine V_istore 229 B (lv2 := [(5, .int 0), (4, .int 1), (9, .int 1), (8, .int 0), (7, .int 0), (6, .int 0), (0, .ref h0), (1, .int 0), (2, .int 1), (3, .int 1)]) dX12_cheapest_229 (by decide) rfl ?_
            refine V_iload 231 B dX12_cheapest_231 3 rfl ?_
            refine V_csi 233 B (st := []) (As := [.int 0]) (fun sz => mX12_simpleStroke_2 l D Y  sz) glS_RX12_181 ⟨rfl, rfl⟩ ⟨(Nat.le_of_ble_eq_true rfl), (Nat.le_of_ble_eq_true rfl)⟩ ⟨(Nat.le_of_ble_eq_true rfl), (Nat.le_of_ble_eq_true rfl)⟩ [] rfl rfl (Nat.le_of_ble_eq_true rfl) rfl (fun _ _ _ => rfl) dX12_cheapest_233 (fun r15 u15 w15 => ?_)
            obtain rfl := w15
            refine V_ws [(h0, oC 13 [.ref h1, .ref g0, .int 0, .ref g1, .ref g2, .int 0, .int 0, .int 0, .int (-1), .int 0, .int 0, .int 0, .long 0, .ref g3, .ref g4, .int 0, .int 0]), (h1, aI Y 3640 (upd (upd (upd (upd (upd (clB 0 (fun _ => 0)) 3629 1) 3630 0) 3631 0) 3630 0) 3631 0))] rfl ?_
            refine V_istore 236 B (lv2 := [(6, .int 0), (5, .int 0), (4, .int 1), (9, .int 1), (8, .int 0), (7, .int 0), (0, .ref h0), (1, .int 0), (2, .int 1), (3, .int 1)]) dX12_cheapest_236 (by decide) rfl ?_
            refine V_iinc 238 B (v := 1) (lv2 := [(8, .int 1), (6, .int 0), (5, .int 0), (4, .int 1), (9, .int 1), (7, .int 0), (0, .ref h0), (1, .int 0), (2, .int 1), (3, .int 1)]) dX12_cheapest_238 4 rfl (by decide +kernel) (by decide) rfl ?_
            refine V_goto 241 B 149 dX12_cheapest_241 (by decide) ?_
            refine V_iload 149 B dX12_cheapest_149 0 rfl ?_
            refine V_iload_n 151 B dX12_cheapest_151 8 rfl ?_
            refine V_iconst 152 B (v := 1) dX12_cheapest_152 (by decide +kernel) ?_
            refine V_icmp_ne_f 153 B 160 dX12_cheapest_153 (by decide) (by decide +kernel) ?_
            refine V_iconst 156 B (v := 1) dX12_cheapest_156 (by decide +kernel) ?_
            refine V_goto 157 B 163 dX12_cheapest_157 (by decide) ?_
            refine V_icmp_ge_t 163 B 244 dX12_cheapest_163 (by decide) (by decide +kernel) ?_
            refine V_iinc 244 B (v := 1) (lv2 := [(7, .int 1), (8, .int 1), (6, .int 0), (5, .int 0), (4, .int 1), (9, .int 1), (0, .ref h0), (1, .int 0), (2, .int 1), (3, .int 1)]) dX12_cheapest_244 5 rfl (by decide +kernel) (by decide) rfl ?_
            refine V_goto 247 B 138 dX12_cheapest_247 (by decide) ?_
            refine V_ws [(h0, oC 13 [.ref h1, .ref g0, .int 0, .ref g1, .ref g2, .int 0, .int 0, .int 0, .int (-1), .int 0, .int 0, .int 0, .long 0, .ref g3, .ref g4, .int 0, .int 0]), (h1, aI Y 3640 (upd (upd (upd (clB 0 (fun _ => 0)) 3629 1) 3630 (pickf 0 (fun j => simF (nI j)) (0 + 1))) 3631 0))] (by rw [upd4 (by decide), show (pickf 0 (fun j => simF (nI j)) (0 + 1)) = 0 from sim0]) ?_
            refine V_lv [(7, .int (nI (0 + 1))), (6, .int 0), (5, .int 0), (4, .int (pick 1000000 1 (0 + 1))), (0, .ref h0), (1, .int 0), (2, .int 1), (3, .int 1)] [0, 2, 3, 4, 6, 7, 8, 9] rfl ?_
            exact IHA () trivial
          ·
            refine V_lv [(7, .int (nI iA)), (6, .int 0), (5, .int 0), (4, .int 1), (0, .ref h0), (1, .int 0), (2, .int 1), (3, .int 1)] [0, 1, 2, 3, 4, 5, 6, 7] (by rw [show (pick 1000000 1 iA) = 1 from pick_pos k9]; rfl) ?_
            refine V_iconst 146 B (v := 0) dX12_cheapest_146 (by decide +kernel) ?_
            refine V_istore 147 B (lv2 := [(8, .int 0), (7, .int (nI iA)), (6, .int 0), (5, .int 0), (4, .int 1), (0, .ref h0), (1, .int 0), (2, .int 1), (3, .int 1)]) dX12_cheapest_147 (by decide) rfl ?_
            refine V_iload 149 B dX12_cheapest_149 0 rfl ?_
            refine V_iload_n 151 B dX12_cheapest_151 7 rfl ?_
            refine V_iconst 152 B (v := 1) dX12_cheapest_152 (by decide +kernel) ?_
            refine V_icmp_ne_f 153 B 160 dX12_cheapest_153 (by decide) (by decide +kernel) ?_
            refine V_iconst 156 B (v := 1) dX12_cheapest_156 (by decide +kernel) ?_
            refine V_goto 157 B 163 dX12_cheapest_157 (by decide) ?_
            refine V_icmp_ge_f 163 B 244 dX12_cheapest_163 (by decide) (by decide +kernel) ?_
            refine V_aload_n 166 B dX12_cheapest_166 5 rfl ?_
            refine V_get 167 B gf_RX12_9 0 rfl rfl dX12_cheapest_167 ?_
            refine V_sipush 170 B (v := 3630) dX12_cheapest_170 (by decide +kernel) ?_
            refine V_iload 173 B dX12_cheapest_173 1 rfl ?_
            refine V_csi 175 B (st := [.int 3630, .ref h1]) (As := [.int (nI iA)]) (fun sz => mX12_simpleStroke_simF l D Y ((nI iA)) sz) glS_RX12_181 ⟨rfl, rfl⟩ ⟨(Nat.le_of_ble_eq_true rfl), (Nat.le_of_ble_eq_true rfl)⟩ ⟨(Nat.le_of_ble_eq_true rfl), (Nat.le_of_ble_eq_true rfl)⟩ [] rfl rfl (Nat.le_of_ble_eq_true rfl) rfl (fun _ _ _ => rfl) dX12_cheapest_175 (fun r16 u16 w16 => ?_)
            obtain rfl := w16
            refine V_ws [(h0, oC 13 [.ref h1, .ref g0, .int 0, .ref g1, .ref g2, .int 0, .int 0, .int 0, .int (-1), .int 0, .int 0, .int 0, .long 0, .ref g3, .ref g4, .int 0, .int 0]), (h1, aI Y 3640 (upd (upd (upd (clB 0 (fun _ => 0)) 3629 1) 3630 (pickf 0 (fun j => simF (nI j)) iA)) 3631 0))] rfl ?_
            refine V_iast 178 B 1 rfl (vpin _ _ (by decide +kernel)) dX12_cheapest_178 [(h0, oC 13 [.ref h1, .ref g0, .int 0, .ref g1, .ref g2, .int 0, .int 0, .int 0, .int (-1), .int 0, .int 0, .int 0, .long 0, .ref g3, .ref g4, .int 0, .int 0]), (h1, aI Y 3640 (upd (upd (upd (upd (clB 0 (fun _ => 0)) 3629 1) 3630 (pickf 0 (fun j => simF (nI j)) iA)) 3631 0) 3630 (simF (nI iA))))] rfl ?_
            refine V_aload_n 179 B dX12_cheapest_179 5 rfl ?_
            refine V_get 180 B gf_RX12_9 0 rfl rfl dX12_cheapest_180 ?_
            refine V_sipush 183 B (v := 3631) dX12_cheapest_183 (by decide +kernel) ?_
            refine V_iload 186 B dX12_cheapest_186 0 rfl ?_
            refine V_csi 188 B (st := [.int 3631, .ref h1]) (As := [.int 0]) (fun sz => mX12_simpleStroke_2 l D Y  sz) glS_RX12_181 ⟨rfl, rfl⟩ ⟨(Nat.le_of_ble_eq_true rfl), (Nat.le_of_ble_eq_true rfl)⟩ ⟨(Nat.le_of_ble_eq_true rfl), (Nat.le_of_ble_eq_true rfl)⟩ [] rfl rfl (Nat.le_of_ble_eq_true rfl) rfl (fun _ _ _ => rfl) dX12_cheapest_188 (fun r17 u17 w17 => ?_)
            obtain rfl := w17
            refine V_ws [(h0, oC 13 [.ref h1, .ref g0, .int 0, .ref g1, .ref g2, .int 0, .int 0, .int 0, .int (-1), .int 0, .int 0, .int 0, .long 0, .ref g3, .ref g4, .int 0, .int 0]), (h1, aI Y 3640 (upd (upd (upd (upd (clB 0 (fun _ => 0)) 3629 1) 3630 (pickf 0 (fun j => simF (nI j)) iA)) 3631 0) 3630 (simF (nI iA))))] rfl ?_
            refine V_iast 191 B 1 rfl (vpin _ _ (by decide +kernel)) dX12_cheapest_191 [(h0, oC 13 [.ref h1, .ref g0, .int 0, .ref g1, .ref g2, .int 0, .int 0, .int 0, .int (-1), .int 0, .int 0, .int 0, .long 0, .ref g3, .ref g4, .int 0, .int 0]), (h1, aI Y 3640 (upd (upd (upd (upd (upd (clB 0 (fun _ => 0)) 3629 1) 3630 (pickf 0 (fun j => simF (nI j)) iA)) 3631 0) 3630 (simF (nI iA))) 3631 0))] rfl ?_
            refine V_aload_n 192 B dX12_cheapest_192 5 rfl ?_
            refine V_sipush 193 B (v := 3629) dX12_cheapest_193 (by decide +kernel) ?_
            refine V_cvi 196 B (st := []) (As := [.int 3629]) (fun sz => mX12_costOf_s18 l D Y (h0) (h1) (g0) (g1) (g2) (g3) (g4) ((pickf 0 (fun j => simF (nI j)) iA)) ((simF (nI iA))) ((h5_sim hiA)) sz) glV_RX12_76 ⟨rfl, rfl⟩ ⟨(Nat.le_of_ble_eq_true rfl), (Nat.le_of_ble_eq_true rfl)⟩ ⟨(Nat.le_of_ble_eq_true rfl), (Nat.le_of_ble_eq_true rfl)⟩ [0, 0] rfl 13 0 rfl rfl rfl rfl (Nat.le_of_ble_eq_true rfl) rfl (fun _ _ _ => rfl) dX12_cheapest_196 (fun r18 u18 w18 => ?_)
            obtain rfl := w18
            refine V_ws [(h0, oC 13 [.ref h1, .ref g0, .int 0, .ref g1, .ref g2, .int 0, .int 0, .int 0, .int (-1), .int 0, .int 0, .int 0, .long 0, .ref g3, .ref g4, .int 0, .int 0]), (h1, aI Y 3640 (upd (upd (upd (upd (upd (clB 0 (fun _ => 0)) 3629 1) 3630 (pickf 0 (fun j => simF (nI j)) iA)) 3631 0) 3630 (simF (nI iA))) 3631 0))] rfl ?_
            refine V_istore 199 B (lv2 := [(9, .int (scoF (simF (nI iA)))), (8, .int 0), (7, .int (nI iA)), (6, .int 0), (5, .int 0), (4, .int 1), (0, .ref h0), (1, .int 0), (2, .int 1), (3, .int 1)]) dX12_cheapest_199 (by decide) rfl ?_
            refine V_iload 201 B dX12_cheapest_201 0 rfl ?_
            refine V_iload 203 B dX12_cheapest_203 5 rfl ?_
            refine V_icmp_ge_t 205 B 238 dX12_cheapest_205 (by decide) (q_ge (sco1 hiA) (by decide +kernel)) ?_
            refine V_iinc 238 B (v := 1) (lv2 := [(8, .int 1), (9, .int (scoF (simF (nI iA)))), (7, .int (nI iA)), (6, .int 0), (5, .int 0), (4, .int 1), (0, .ref h0), (1, .int 0), (2, .int 1), (3, .int 1)]) dX12_cheapest_238 1 rfl (by decide +kernel) (by decide) rfl ?_
            refine V_goto 241 B 149 dX12_cheapest_241 (by decide) ?_
            refine V_iload 149 B dX12_cheapest_149 0 rfl ?_
            refine V_iload_n 151 B dX12_cheapest_151 8 rfl ?_
            refine V_iconst 152 B (v := 1) dX12_cheapest_152 (by decide +kernel) ?_
            refine V_icmp_ne_f 153 B 160 dX12_cheapest_153 (by decide) (by decide +kernel) ?_
            refine V_iconst 156 B (v := 1) dX12_cheapest_156 (by decide +kernel) ?_
            refine V_goto 157 B 163 dX12_cheapest_157 (by decide) ?_
            refine V_icmp_ge_t 163 B 244 dX12_cheapest_163 (by decide) (by decide +kernel) ?_
            refine V_iinc 244 B (v := (nI (iA + 1))) (lv2 := [(7, .int (nI (iA + 1))), (8, .int 1), (9, .int (scoF (simF (nI iA)))), (6, .int 0), (5, .int 0), (4, .int 1), (0, .ref h0), (1, .int 0), (2, .int 1), (3, .int 1)]) dX12_cheapest_244 2 rfl (nI_1 _) (by decide) rfl ?_
            refine V_goto 247 B 138 dX12_cheapest_247 (by decide) ?_
            refine V_ws [(h0, oC 13 [.ref h1, .ref g0, .int 0, .ref g1, .ref g2, .int 0, .int 0, .int 0, .int (-1), .int 0, .int 0, .int 0, .long 0, .ref g3, .ref g4, .int 0, .int 0]), (h1, aI Y 3640 (upd (upd (upd (clB 0 (fun _ => 0)) 3629 1) 3630 (pickf 0 (fun j => simF (nI j)) (iA + 1))) 3631 0))] (by rw [upd4 (by decide), show (pickf 0 (fun j => simF (nI j)) (iA + 1)) = simF (nI iA) from rfl]) ?_
            refine V_lv [(7, .int (nI (iA + 1))), (6, .int 0), (5, .int 0), (4, .int (pick 1000000 1 (iA + 1))), (0, .ref h0), (1, .int 0), (2, .int 1), (3, .int 1)] [0, 3, 4, 5, 6, 7, 8, 9] rfl ?_
            exact IHA () trivial
        ·
          refine V_lv [(7, .int 130), (6, .int 0), (5, .int 0), (4, .int 1), (0, .ref h0), (1, .int 0), (2, .int 1), (3, .int 1)] [0, 1, 2, 3, 4, 5, 6, 7] rfl ?_
          refine V_ws [(h0, oC 13 [.ref h1, .ref g0, .int 0, .ref g1, .ref g2, .int 0, .int 0, .int 0, .int (-1), .int 0, .int 0, .int 0, .long 0, .ref g3, .ref g4, .int 0, .int 0]), (h1, aI Y 3640 (upd (upd (upd (clB 0 (fun _ => 0)) 3629 1) 3630 281) 3631 0))] (by rw [show (pickf 0 (fun j => simF (nI j)) 130) = 281 from sim129]) ?_
          refine V_iload 138 B dX12_cheapest_138 0 rfl ?_
          refine V_sipush 140 B (v := 130) dX12_cheapest_140 (by decide +kernel) ?_
          refine V_icmp_ge_t 143 B 250 dX12_cheapest_143 (by decide) (by decide +kernel) ?_
          refine V_iload 250 B dX12_cheapest_250 3 rfl ?_
          refine V_ldc 252 B (v := 1000000) dX12_cheapest_252 (mT9 29 rfl rfl) ?_
          refine V_icmp_ne_t 254 B 259 dX12_cheapest_254 (by decide) (by decide +kernel) ?_
          refine V_aload_n 259 B dX12_cheapest_259 4 rfl ?_
          refine V_get 260 B gf_RX12_9 0 rfl rfl dX12_cheapest_260 ?_
          refine V_sipush 263 B (v := 3624) dX12_cheapest_263 (by decide +kernel) ?_
          refine V_iload_n 266 B dX12_cheapest_266 6 rfl ?_
          refine V_iast 267 B 1 rfl (vpin _ _ (by decide +kernel)) dX12_cheapest_267 [(h0, oC 13 [.ref h1, .ref g0, .int 0, .ref g1, .ref g2, .int 0, .int 0, .int 0, .int (-1), .int 0, .int 0, .int 0, .long 0, .ref g3, .ref g4, .int 0, .int 0]), (h1, aI Y 3640 (upd (upd (upd (upd (clB 0 (fun _ => 0)) 3629 1) 3630 281) 3631 0) 3624 1))] rfl ?_
          refine V_aload_n 268 B dX12_cheapest_268 4 rfl ?_
          refine V_get 269 B gf_RX12_9 0 rfl rfl dX12_cheapest_269 ?_
          refine V_sipush 272 B (v := 3625) dX12_cheapest_272 (by decide +kernel) ?_
          refine V_iload 275 B dX12_cheapest_275 2 rfl ?_
          refine V_iast 277 B 1 rfl (vpin _ _ (by decide +kernel)) dX12_cheapest_277 [(h0, oC 13 [.ref h1, .ref g0, .int 0, .ref g1, .ref g2, .int 0, .int 0, .int 0, .int (-1), .int 0, .int 0, .int 0, .long 0, .ref g3, .ref g4, .int 0, .int 0]), (h1, aI Y 3640 (upd (upd (upd (upd (upd (clB 0 (fun _ => 0)) 3629 1) 3630 281) 3631 0) 3624 1) 3625 0))] rfl ?_
          refine V_aload_n 278 B dX12_cheapest_278 4 rfl ?_
          refine V_get 279 B gf_RX12_9 0 rfl rfl dX12_cheapest_279 ?_
          refine V_sipush 282 B (v := 3626) dX12_cheapest_282 (by decide +kernel) ?_
          refine V_iload 285 B dX12_cheapest_285 1 rfl ?_
          refine V_iast 287 B 1 rfl (vpin _ _ (by decide +kernel)) dX12_cheapest_287 [(h0, oC 13 [.ref h1, .ref g0, .int 0, .ref g1, .ref g2, .int 0, .int 0, .int 0, .int (-1), .int 0, .int 0, .int 0, .long 0, .ref g3, .ref g4, .int 0, .int 0]), (h1, aI Y 3640 (upd (upd (upd (upd (upd (upd (clB 0 (fun _ => 0)) 3629 1) 3630 281) 3631 0) 3624 1) 3625 0) 3626 0))] rfl ?_
          refine V_iload 288 B dX12_cheapest_288 3 rfl ?_
          exact V_iret 290 B dX12_cheapest_290 0 (Or.inl ⟨rfl, rfl, rfl⟩) rfl
      ·
        obtain rfl : p0 = 2 := q_eq (q_bump (b_nlt k3 (n := 1) (by decide +kernel)) k8 (by decide +kernel) (k := 2) (by decide +kernel)) (b_ngt k4 (n := 2) (by decide +kernel)) (by decide +kernel)
        refine V_ldc 116 B (v := 1000000) dX12_cheapest_116 (mT9 29 rfl rfl) ?_
        refine V_istore 118 B (lv2 := [(4, .int 1000000), (0, .ref h0), (1, .int 0), (2, .int 2), (3, .int 1)]) dX12_cheapest_118 (by decide) rfl ?_
        refine V_iconst 120 B (v := 0) dX12_cheapest_120 (by decide +kernel) ?_
        refine V_istore 121 B (lv2 := [(5, .int 0), (4, .int 1000000), (0, .ref h0), (1, .int 0), (2, .int 2), (3, .int 1)]) dX12_cheapest_121 (by decide) rfl ?_
        refine V_iconst 123 B (v := 0) dX12_cheapest_123 (by decide +kernel) ?_
        refine V_istore 124 B (lv2 := [(6, .int 0), (5, .int 0), (4, .int 1000000), (0, .ref h0), (1, .int 0), (2, .int 2), (3, .int 1)]) dX12_cheapest_124 (by decide) rfl ?_
        refine V_aload_n 126 B dX12_cheapest_126 3 rfl ?_
        refine V_get 127 B gf_RX12_9 0 rfl rfl dX12_cheapest_127 ?_
        refine V_sipush 130 B (v := 3629) dX12_cheapest_130 (by decide +kernel) ?_
        refine V_iload_n 133 B dX12_cheapest_133 5 rfl ?_
        refine V_iast 134 B 1 rfl (vpin _ _ (by decide +kernel)) dX12_cheapest_134 [(h0, oC 13 [.ref h1, .ref g0, .int 0, .ref g1, .ref g2, .int 0, .int 0, .int 0, .int (-1), .int 0, .int 0, .int 0, .long 0, .ref g3, .ref g4, .int 0, .int 0]), (h1, aI Y 3640 (upd (clB 0 (fun _ => 0)) 3629 2))] rfl ?_
        refine V_iconst 135 B (v := 0) dX12_cheapest_135 (by decide +kernel) ?_
        refine V_istore 136 B (lv2 := [(7, .int 0), (6, .int 0), (5, .int 0), (4, .int 1000000), (0, .ref h0), (1, .int 0), (2, .int 2), (3, .int 1)]) dX12_cheapest_136 (by decide) rfl ?_
        refine V_loop (α := Unit) 130 (fun _ _ => True) (fun iA _ => [(7, .int (nI iA)), (6, .int 0), (5, .int 0), (4, .int (pick 1000000 2 (130 * iA))), (0, .ref h0), (1, .int 0), (2, .int 2), (3, .int 1)]) (fun iA _ => [(h0, oC 13 [.ref h1, .ref g0, .int 0, .ref g1, .ref g2, .int 0, .int 0, .int 0, .int (-1), .int 0, .int 0, .int 0, .long 0, .ref g3, .ref g4, .int 0, .int 0]), (h1, aI Y 3640 (upd (upd (upd (clB 0 (fun _ => 0)) 3629 2) 3630 (pickf 0 (fun j => simF (nI j)) iA)) 3631 (pick 0 281 iA)))]) () trivial rfl (by rw [show upd (upd (upd (clB 0 (fun _ => 0)) 3629 2) 3630 (pickf 0 (fun j => simF (nI j)) 0)) 3631 (pick 0 281 0) = (upd (clB 0 (fun _ => 0)) 3629 2) from (congrArg (fun g => upd g 3631 (pick 0 281 0)) (upd_same (f := (upd (clB 0 (fun _ => 0)) 3629 2)) (k := 3630) (x := (pickf 0 (fun j => simF (nI j)) 0)) (by decide +kernel))).trans (upd_same (by decide +kernel))]) (fun iA _ hiA _ IHA => ?_) (fun _ _ => ?_)
        ·
          refine V_lv [(7, .int (nI iA)), (6, .int 0), (5, .int 0), (4, .int (pick 1000000 2 (130 * iA))), (0, .ref h0), (1, .int 0), (2, .int 2), (3, .int 1)] [0, 1, 2, 3, 4, 5, 6, 7] rfl ?_
          refine V_ws [(h0, oC 13 [.ref h1, .ref g0, .int 0, .ref g1, .ref g2, .int 0, .int 0, .int 0, .int (-1), .int 0, .int 0, .int 0, .long 0, .ref g3, .ref g4, .int 0, .int 0]), (h1, aI Y 3640 (upd (upd (upd (clB 0 (fun _ => 0)) 3629 2) 3630 (pickf 0 (fun j => simF (nI j)) iA)) 3631 (pick 0 281 iA)))] rfl ?_
          refine V_iload 138 B dX12_cheapest_138 0 rfl ?_
          refine V_sipush 140 B (v := 130) dX12_cheapest_140 (by decide +kernel) ?_
          refine V_icmp_ge_f 143 B 250 dX12_cheapest_143 (by decide) (q_nge (nI_hi hiA (by decide) (k := 129) (by decide +kernel)) (by decide +kernel)) ?_
          refine V_iconst 146 B (v := 0) dX12_cheapest_146 (by decide +kernel) ?_
          refine V_istore 147 B (lv2 := [(8, .int 0), (7, .int (nI iA)), (6, .int 0), (5, .int 0), (4, .int (pick 1000000 2 (130 * iA))), (0, .ref h0), (1, .int 0), (2, .int 2), (3, .int 1)]) dX12_cheapest_147 (by decide) rfl ?_
          refine V_loop (α := Unit) 130 (fun _ _ => True) (fun iB _ => [(8, .int (nI iB)), (7, .int (nI iA)), (6, .int 0), (5, .int 0), (4, .int (pick 1000000 2 (130 * iA + iB))), (0, .ref h0), (1, .int 0), (2, .int 2), (3, .int 1)]) (fun iB _ => [(h0, oC 13 [.ref h1, .ref g0, .int 0, .ref g1, .ref g2, .int 0, .int 0, .int 0, .int (-1), .int 0, .int 0, .int 0, .long 0, .ref g3, .ref g4, .int 0, .int 0]), (h1, aI Y 3640 (upd (upd (upd (clB 0 (fun _ => 0)) 3629 2) 3630 (pick (pickf 0 (fun j => simF (nI j)) iA) (simF (nI iA)) iB)) 3631 (pickf (pick 0 281 iA) (fun j => simF (nI j)) iB)))]) () trivial rfl rfl (fun iB _ hiB _ IHB => ?_) (fun _ _ => ?_)
          ·
            refine V_lv [(8, .int (nI iB)), (7, .int (nI iA)), (6, .int 0), (5, .int 0), (4, .int (pick 1000000 2 (130 * iA + iB))), (0, .ref h0), (1, .int 0), (2, .int 2), (3, .int 1)] [0, 1, 2, 3, 4, 5, 6, 7, 8] rfl ?_
            refine V_ws [(h0, oC 13 [.ref h1, .ref g0, .int 0, .ref g1, .ref g2, .int 0, .int 0, .int 0, .int (-1), .int 0, .int 0, .int 0, .long 0, .ref g3, .ref g4, .int 0, .int 0]), (h1, aI Y 3640 (upd (upd (upd (clB 0 (fun _ => 0)) 3629 2) 3630 (pick (pickf 0 (fun j => simF (nI j)) iA) (simF (nI iA)) iB)) 3631 (pickf (pick 0 281 iA) (fun j => simF (nI j)) iB)))] rfl ?_
            refine V_iload 149 B dX12_cheapest_149 0 rfl ?_
            refine V_iload_n 151 B dX12_cheapest_151 7 rfl ?_
            refine V_iconst 152 B (v := 1) dX12_cheapest_152 (by decide +kernel) ?_
            refine V_icmp_ne_t 153 B 160 dX12_cheapest_153 (by decide) (by decide +kernel) ?_
            refine V_sipush 160 B (v := 130) dX12_cheapest_160 (by decide +kernel) ?_
            refine V_icmp_ge_f 163 B 244 dX12_cheapest_163 (by decide) (q_nge (nI_hi hiB (by decide) (k := 129) (by decide +kernel)) (by decide +kernel)) ?_
            by_cases k19 : 130 * iA + iB = 0
            ·
              obtain rfl : iA = 0 := by omega
              obtain rfl : iB = 0 := by omega
              refine V_lv [(8, .int 0), (7, .int 0), (6, .int 0), (5, .int 0), (4, .int 1000000), (0, .ref h0), (1, .int 0), (2, .int 2), (3, .int 1)] [0, 1, 2, 3, 4, 5, 6, 7, 8] rfl ?_
              refine V_ws [(h0, oC 13 [.ref h1, .ref g0, .int 0, .ref g1, .ref g2, .int 0, .int 0, .int 0, .int (-1), .int 0, .int 0, .int 0, .long 0, .ref g3, .ref g4, .int 0, .int 0]), (h1, aI Y 3640 (upd (upd (upd (clB 0 (fun _ => 0)) 3629 2) 3630 0) 3631 0))] rfl ?_
              refine V_aload_n 166 B dX12_cheapest_166 5 rfl ?_
              refine V_get 167 B gf_RX12_9 0 rfl rfl dX12_cheapest_167 ?_
              refine V_sipush 170 B (v := 3630) dX12_cheapest_170 (by decide +kernel) ?_
              refine V_iload 173 B dX12_cheapest_173 1 rfl ?_
              refine V_csi 175 B (st := [.int 3630, .ref h1]) (As := [.int 0]) (fun sz => mX12_simpleStroke_2 l D Y  sz) glS_RX12_181 ⟨rfl, rfl⟩ ⟨(Nat.le_of_ble_eq_true rfl), (Nat.le_of_ble_eq_true rfl)⟩ ⟨(Nat.le_of_ble_eq_true rfl), (Nat.le_of_ble_eq_true rfl)⟩ [] rfl rfl (Nat.le_of_ble_eq_true rfl) rfl (fun _ _ _ => rfl) dX12_cheapest_175 (fun r20 u20 w20 => ?_)
              obtain rfl := w20
              refine V_ws [(h0, oC 13 [.ref h1, .ref g0, .int 0, .ref g1, .ref g2, .int 0, .int 0, .int 0, .int (-1), .int 0, .int 0, .int 0, .long 0, .ref g3, .ref g4, .int 0, .int 0]), (h1, aI Y 3640 (upd (upd (upd (clB 0 (fun _ => 0)) 3629 2) 3630 0) 3631 0))] rfl ?_
              refine V_iast 178 B 1 rfl (vpin _ _ (by decide +kernel)) dX12_cheapest_178 [(h0, oC 13 [.ref h1, .ref g0, .int 0, .ref g1, .ref g2, .int 0, .int 0, .int 0, .int (-1), .int 0, .int 0, .int 0, .long 0, .ref g3, .ref g4, .int 0, .int 0]), (h1, aI Y 3640 (upd (upd (upd (upd (clB 0 (fun _ => 0)) 3629 2) 3630 0) 3631 0) 3630 0))] rfl ?_
              refine V_aload_n 179 B dX12_cheapest_179 5 rfl ?_
              refine V_get 180 B gf_RX12_9 0 rfl rfl dX12_cheapest_180 ?_
              refine V_sipush 183 B (v := 3631) dX12_cheapest_183 (by decide +kernel) ?_
              refine V_iload 186 B dX12_cheapest_186 0 rfl ?_
              refine V_csi 188 B (st := [.int 3631, .ref h1]) (As := [.int 0]) (fun sz => mX12_simpleStroke_2 l D Y  sz) glS_RX12_181 ⟨rfl, rfl⟩ ⟨(Nat.le_of_ble_eq_true rfl), (Nat.le_of_ble_eq_true rfl)⟩ ⟨(Nat.le_of_ble_eq_true rfl), (Nat.le_of_ble_eq_true rfl)⟩ [] rfl rfl (Nat.le_of_ble_eq_true rfl) rfl (fun _ _ _ => rfl) dX12_cheapest_188 (fun r21 u21 w21 => ?_)
              obtain rfl := w21
              refine V_ws [(h0, oC 13 [.ref h1, .ref g0, .int 0, .ref g1, .ref g2, .int 0, .int 0, .int 0, .int (-1), .int 0, .int 0, .int 0, .long 0, .ref g3, .ref g4, .int 0, .int 0]), (h1, aI Y 3640 (upd (upd (upd (upd (clB 0 (fun _ => 0)) 3629 2) 3630 0) 3631 0) 3630 0))] rfl ?_
              refine V_iast 191 B 1 rfl (vpin _ _ (by decide +kernel)) dX12_cheapest_191 [(h0, oC 13 [.ref h1, .ref g0, .int 0, .ref g1, .ref g2, .int 0, .int 0, .int 0, .int (-1), .int 0, .int 0, .int 0, .long 0, .ref g3, .ref g4, .int 0, .int 0]), (h1, aI Y 3640 (upd (upd (upd (upd (upd (clB 0 (fun _ => 0)) 3629 2) 3630 0) 3631 0) 3630 0) 3631 0))] rfl ?_
              refine V_aload_n 192 B dX12_cheapest_192 5 rfl ?_
              refine V_sipush 193 B (v := 3629) dX12_cheapest_193 (by decide +kernel) ?_
              refine V_cvi 196 B (st := []) (As := [.int 3629]) (fun sz => mX12_costOf_3 l D Y (h0) (h1) (g0) (g1) (g2) (g3) (g4) sz) glV_RX12_76 ⟨rfl, rfl⟩ ⟨(Nat.le_of_ble_eq_true rfl), (Nat.le_of_ble_eq_true rfl)⟩ ⟨(Nat.le_of_ble_eq_true rfl), (Nat.le_of_ble_eq_true rfl)⟩ [0, 0] rfl 13 0 rfl rfl rfl rfl (Nat.le_of_ble_eq_true rfl) rfl (fun _ _ _ => rfl) dX12_cheapest_196 (fun r22 u22 w22 => ?_)
              obtain rfl := w22
              refine V_ws [(h0, oC 13 [.ref h1, .ref g0, .int 0, .ref g1, .ref g2, .int 0, .int 0, .int 0, .int (-1), .int 0, .int 0, .int 0, .long 0, .ref g3, .ref g4, .int 0, .int 0]), (h1, aI Y 3640 (upd (upd (upd (upd (upd (clB 0 (fun _ => 0)) 3629 2) 3630 0) 3631 0) 3630 0) 3631 0))] rfl ?_
              refine V_istore 199 B (lv2 := [(9, .int 2), (8, .int 0), (7, .int 0), (6, .int 0), (5, .int 0), (4, .int 1000000), (0, .ref h0), (1, .int 0), (2, .int 2), (3, .int 1)]) dX12_cheapest_199 (by decide) rfl ?_
              refine V_iload 201 B dX12_cheapest_201 0 rfl ?_
              refine V_iload 203 B dX12_cheapest_203 5 rfl ?_
              refine V_icmp_ge_f 205 B 238 dX12_cheapest_205 (by decide) (by decide +kernel) ?_
              refine V_aload_n 208 B dX12_cheapest_208 6 rfl ?_
              refine V_iload_n 209 B dX12_cheapest_209 7 rfl ?_
              refine V_iload_n 210 B dX12_cheapest_210 9 rfl ?_
              refine V_cvi 211 B (st := []) (As := [.int 0, .int 1]) (fun sz => mX12_isFreeHere_6 l D Y (h0) (h1) (g0) (g1) (g2) (g3) (g4) sz) glV_RX12_185 ⟨rfl, rfl⟩ ⟨(Nat.le_of_ble_eq_true rfl), (Nat.le_of_ble_eq_true rfl)⟩ ⟨(Nat.le_of_ble_eq_true rfl), (Nat.le_of_ble_eq_true rfl)⟩ [0, 0] rfl 13 0 rfl rfl rfl rfl (Nat.le_of_ble_eq_true rfl) rfl (fun _ _ _ => rfl) dX12_cheapest_211 (fun r23 u23 w23 => ?_)
              obtain rfl := w23
              refine V_ws [(h0, oC 13 [.ref h1, .ref g0, .int 0, .ref g1, .ref g2, .int 0, .int 0, .int 0, .int (-1), .int 0, .int 0, .int 0, .long 0, .ref g3, .ref g4, .int 0, .int 0]), (h1, aI Y 3640 (upd (upd (upd (upd (upd (clB 0 (fun _ => 0)) 3629 2) 3630 0) 3631 0) 3630 0) 3631 0))] rfl ?_
              refine V_if_ne_t 214 B 220 dX12_cheapest_214 (by decide) (by decide +kernel) ?_
              refine V_iload 220 B dX12_cheapest_220 0 rfl ?_
              refine V_istore 222 B (lv2 := [(4, .int 2), (9, .int 2), (8, .int 0), (7, .int 0), (6, .int 0), (5, .int 0), (0, .ref h0), (1, .int 0), (2, .int 2), (3, .int 1)]) dX12_cheapest_222 (by decide) rfl ?_
              refine V_iload 224 B dX12_cheapest_224 3 rfl ?_
              refine V_csi 226 B (st := []) (As := [.int 0]) (fun sz => mX12_simpleStroke_2 l D Y  sz) glS_RX12_181 ⟨rfl, rfl⟩ ⟨(Nat.le_of_ble_eq_true rfl), (Nat.le_of_ble_eq_true rfl)⟩ ⟨(Nat.le_of_ble_eq_true rfl), (Nat.le_of_ble_eq_true rfl)⟩ [] rfl rfl (Nat.le_of_ble_eq_true rfl) rfl (fun _ _ _ => rfl) dX12_cheapest_226 (fun r24 u24 w24 => ?_)
              obtain rfl := w24
              refine V_ws [(h0, oC 13 [.ref h1, .ref g0, .int 0, .ref g1, .ref g2, .int 0, .int 0, .int 0, .int (-1), .int 0, .int 0, .int 0, .long 0, .ref g3, .ref g4, .int 0, .int 0]), (h1, aI Y 3640 (upd (upd (upd (upd (upd (clB 0 (fun _ => 0)) 3629 2) 3630 0) 3631 0) 3630 0) 3631 0))] rfl ?_
              refine V_istore 229 B (lv2 := [(5, .int 0), (4, .int 2), (9, .int 2), (8, .int 0), (7, .int 0), (6, .int 0), (0, .ref h0), (1, .int 0), (2, .int 2), (3, .int 1)]) dX12_cheapest_229 (by decide) rfl ?_
              refine V_iload 231 B dX12_cheapest_231 3 rfl ?_
              refine V_csi 233 B (st := []) (As := [.int 0]) (fun sz => mX12_simpleStroke_2 l D Y  sz) glS_RX12_181 ⟨rfl, rfl⟩ ⟨(Nat.le_of_ble_eq_true rfl), (Nat.le_of_ble_eq_true rfl)⟩ ⟨(Nat.le_of_ble_eq_true rfl), (Nat.le_of_ble_eq_true rfl)⟩ [] rfl rfl (Nat.le_of_ble_eq_true rfl) rfl (fun _ _ _ => rfl) dX12_cheapest_233 (fun r25 u25 w25 => ?_)
              obtain rfl := w25
              refine V_ws [(h0, oC 13 [.ref h1, .ref g0, .int 0, .ref g1, .ref g2, .int 0, .int 0, .int 0, .int (-1), .int 0, .int 0, .int 0, .long 0, .ref g3, .ref g4, .int 0, .int 0]), (h1, aI Y 3640 (upd (upd (upd (upd (upd (clB 0 (fun _ => 0)) 3629 2) 3630 0) 3631 0) 3630 0) 3631 0))] rfl ?_
              refine V_istore 236 B (lv2 := [(6, .int 0), (5, .int 0), (4, .int 2), (9, .int 2), (8, .int 0), (7, .int 0), (0, .ref h0), (1, .int 0), (2, .int 2), (3, .int 1)]) dX12_cheapest_236 (by decide) rfl ?_
              refine V_iinc 238 B (v := 1) (lv2 := [(8, .int 1), (6, .int 0), (5, .int 0), (4, .int 2), (9, .int 2), (7, .int 0), (0, .ref h0), (1, .int 0), (2, .int 2), (3, .int 1)]) dX12_cheapest_238 4 rfl (by decide +kernel) (by decide) rfl ?_
              refine V_goto 241 B 149 dX12_cheapest_241 (by decide) ?_
              refine V_ws [(h0, oC 13 [.ref h1, .ref g0, .int 0, .ref g1, .ref g2, .int 0, .int 0, .int 0, .int (-1), .int 0, .int 0, .int 0, .long 0, .ref g3, .ref g4, .int 0, .int 0]), (h1, aI Y 3640 (upd (upd (upd (clB 0 (fun _ => 0)) 3629 2) 3630 (pick (pickf 0 (fun j => simF (nI j)) 0) (simF (nI 0)) (0 + 1))) 3631 (pickf (pick 0 281 0) (fun j => simF (nI j)) (0 + 1))))] (by rw [upd4 (by decide), show (pick (pickf 0 (fun j => simF (nI j)) 0) (simF (nI 0)) (0 + 1)) = 0 from sim0, show (pickf (pick 0 281 0) (fun j => simF (nI j)) (0 + 1)) = 0 from sim0]) ?_
              refine V_lv [(8, .int (nI (0 + 1))), (7, .int (nI 0)), (6, .int 0), (5, .int 0), (4, .int (pick 1000000 2 (130 * 0 + (0 + 1)))), (0, .ref h0), (1, .int 0), (2, .int 2), (3, .int 1)] [0, 5, 1, 2, 3, 6, 7, 8, 9] rfl ?_
              exact IHB () trivial
            ·
              refine V_lv [(8, .int (nI iB)), (7, .int (nI iA)), (6, .int 0), (5, .int 0), (4, .int 2), (0, .ref h0), (1, .int 0), (2, .int 2), (3, .int 1)] [0, 1, 2, 3, 4, 5, 6, 7, 8] (by rw [show (pick 1000000 2 (130 * iA + iB)) = 2 from pick_pos k19]; rfl) ?_
              refine V_aload_n 166 B dX12_cheapest_166 5 rfl ?_
              refine V_get 167 B gf_RX12_9 0 rfl rfl dX12_cheapest_167 ?_
              refine V_sipush 170 B (v := 3630) dX12_cheapest_170 (by decide +kernel) ?_
              refine V_iload 173 B dX12_cheapest_173 1 rfl ?_
              refine V_csi 175 B (st := [.int 3630, .ref h1]) (As := [.int (nI iA)]) (fun sz => mX12_simpleStroke_simF l D Y ((nI iA)) sz) glS_RX12_181 ⟨rfl, rfl⟩ ⟨(Nat.le_of_ble_eq_true rfl), (Nat.le_of_ble_eq_true rfl)⟩ ⟨(Nat.le_of_ble_eq_true rfl), (Nat.le_of_ble_eq_true rfl)⟩ [] rfl rfl (Nat.le_of_ble_eq_true rfl) rfl (fun _ _ _ => rfl) dX12_cheapest_175 (fun r26 u26 w26 => ?_)
              obtain rfl := w26
              refine V_ws [(h0, oC 13 [.ref h1, .ref g0, .int 0, .ref g1, .ref g2, .int 0, .int 0, .int 0, .int (-1), .int 0, .int 0, .int 0, .long 0, .ref g3, .ref g4, .int 0, .int 0]), (h1, aI Y 3640 (upd (upd (upd (clB 0 (fun _ => 0)) 3629 2) 3630 (pick (pickf 0 (fun j => simF (nI j)) iA) (simF (nI iA)) iB)) 3631 (pickf (pick 0 281 iA) (fun j => simF (nI j)) iB)))] rfl ?_
              refine V_iast 178 B 1 rfl (vpin _ _ (by decide +kernel)) dX12_cheapest_178 [(h0, oC 13 [.ref h1, .ref g0, .int 0, .ref g1, .ref g2, .int 0, .int 0, .int 0, .int (-1), .int 0, .int 0, .int 0, .long 0, .ref g3, .ref g4, .int 0, .int 0]), (h1, aI Y 3640 (upd (upd (upd (upd (clB 0 (fun _ => 0)) 3629 2) 3630 (pick (pickf 0 (fun j => simF (nI j)) iA) (simF (nI iA)) iB)) 3631 (pickf (pick 0 281 iA) (fun j => simF (nI j)) iB)) 3630 (simF (nI iA))))] rfl ?_
              refine V_aload_n 179 B dX12_cheapest_179 5 rfl ?_
              refine V_get 180 B gf_RX12_9 0 rfl rfl dX12_cheapest_180 ?_
              refine V_sipush 183 B (v := 3631) dX12_cheapest_183 (by decide +kernel) ?_
              refine V_iload 186 B dX12_cheapest_186 0 rfl ?_
              refine V_csi 188 B (st := [.int 3631, .ref h1]) (As := [.int (nI iB)]) (fun sz => mX12_simpleStroke_simF l D Y ((nI iB)) sz) glS_RX12_181 ⟨rfl, rfl⟩ ⟨(Nat.le_of_ble_eq_true rfl), (Nat.le_of_ble_eq_true rfl)⟩ ⟨(Nat.le_of_ble_eq_true rfl), (Nat.le_of_ble_eq_true rfl)⟩ [] rfl rfl (Nat.le_of_ble_eq_true rfl) rfl (fun _ _ _ => rfl) dX12_cheapest_188 (fun r27 u27 w27 => ?_)
              obtain rfl := w27
              refine V_ws [(h0, oC 13 [.ref h1, .ref g0, .int 0, .ref g1, .ref g2, .int 0, .int 0, .int 0, .int (-1), .int 0, .int 0, .int 0, .long 0, .ref g3, .ref g4, .int 0, .int 0]), (h1, aI Y 3640 (upd (upd (upd (upd (clB 0 (fun _ => 0)) 3629 2) 3630 (pick (pickf 0 (fun j => simF (nI j)) iA) (simF (nI iA)) iB)) 3631 (pickf (pick 0 281 iA) (fun j => simF (nI j)) iB)) 3630 (simF (nI iA))))] rfl ?_
              refine V_iast 191 B 1 rfl (vpin _ _ (by decide +kernel)) dX12_cheapest_191 [(h0, oC 13 [.ref h1, .ref g0, .int 0, .ref g1, .ref g2, .int 0, .int 0, .int 0, .int (-1), .int 0, .int 0, .int 0, .long 0, .ref g3, .ref g4, .int 0, .int 0]), (h1, aI Y 3640 (upd (upd (upd (upd (upd (clB 0 (fun _ => 0)) 3629 2) 3630 (pick (pickf 0 (fun j => simF (nI j)) iA) (simF (nI iA)) iB)) 3631 (pickf (pick 0 281 iA) (fun j => simF (nI j)) iB)) 3630 (simF (nI iA))) 3631 (simF (nI iB))))] rfl ?_
              refine V_aload_n 192 B dX12_cheapest_192 5 rfl ?_
              refine V_sipush 193 B (v := 3629) dX12_cheapest_193 (by decide +kernel) ?_
              refine V_cvi 196 B (st := []) (As := [.int 3629]) (fun sz => mX12_costOf_s19 l D Y (h0) (h1) (g0) (g1) (g2) (g3) (g4) ((pick (pickf 0 (fun j => simF (nI j)) iA) (simF (nI iA)) iB)) ((pickf (pick 0 281 iA) (fun j => simF (nI j)) iB)) ((simF (nI iA))) ((simF (nI iB))) ((h5_sim hiA)) ((h5_sim hiB)) sz) glV_RX12_76 ⟨rfl, rfl⟩ ⟨(Nat.le_of_ble_eq_true rfl), (Nat.le_of_ble_eq_true rfl)⟩ ⟨(Nat.le_of_ble_eq_true rfl), (Nat.le_of_ble_eq_true rfl)⟩ [0, 0] rfl 13 0 rfl rfl rfl rfl (Nat.le_of_ble_eq_true rfl) rfl (fun _ _ _ => rfl) dX12_cheapest_196 (fun r28 u28 w28 => ?_)
              obtain rfl := w28
              refine V_ws [(h0, oC 13 [.ref h1, .ref g0, .int 0, .ref g1, .ref g2, .int 0, .int 0, .int 0, .int (-1), .int 0, .int 0, .int 0, .long 0, .ref g3, .ref g4, .int 0, .int 0]), (h1, aI Y 3640 (upd (upd (upd (upd (upd (clB 0 (fun _ => 0)) 3629 2) 3630 (pick (pickf 0 (fun j => simF (nI j)) iA) (simF (nI iA)) iB)) 3631 (pickf (pick 0 281 iA) (fun j => simF (nI j)) iB)) 3630 (simF (nI iA))) 3631 (simF (nI iB))))] rfl ?_
              refine V_istore 199 B (lv2 := [(9, .int ((scoF (simF (nI iA))) + (scoF (simF (nI iB))))), (8, .int (nI iB)), (7, .int (nI iA)), (6, .int 0), (5, .int 0), (4, .int 2), (0, .ref h0), (1, .int 0), (2, .int 2), (3, .int 1)]) dX12_cheapest_199 (by decide) rfl ?_
              refine V_iload 201 B dX12_cheapest_201 0 rfl ?_
              refine V_iload 203 B dX12_cheapest_203 5 rfl ?_
              refine V_icmp_ge_t 205 B 238 dX12_cheapest_205 (by decide) (q_ge (sco2 hiA hiB) (by decide +kernel)) ?_
              refine V_iinc 238 B (v := (nI (iB + 1))) (lv2 := [(8, .int (nI (iB + 1))), (9, .int ((scoF (simF (nI iA))) + (scoF (simF (nI iB))))), (7, .int (nI iA)), (6, .int 0), (5, .int 0), (4, .int 2), (0, .ref h0), (1, .int 0), (2, .int 2), (3, .int 1)]) dX12_cheapest_238 1 rfl (nI_1 _) (by decide) rfl ?_
              refine V_goto 241 B 149 dX12_cheapest_241 (by decide) ?_
              refine V_ws [(h0, oC 13 [.ref h1, .ref g0, .int 0, .ref g1, .ref g2, .int 0, .int 0, .int 0, .int (-1), .int 0, .int 0, .int 0, .long 0, .ref g3, .ref g4, .int 0, .int 0]), (h1, aI Y 3640 (upd (upd (upd (clB 0 (fun _ => 0)) 3629 2) 3630 (pick (pickf 0 (fun j => simF (nI j)) iA) (simF (nI iA)) (iB + 1))) 3631 (pickf (pick 0 281 iA) (fun j => simF (nI j)) (iB + 1))))] (by rw [upd4 (by decide), show (pick (pickf 0 (fun j => simF (nI j)) iA) (simF (nI iA)) (iB + 1)) = simF (nI iA) from rfl, show (pickf (pick 0 281 iA) (fun j => simF (nI j)) (iB + 1)) = simF (nI iB) from rfl]) ?_
              refine V_lv [(8, .int (nI (iB + 1))), (7, .int (nI iA)), (6, .int 0), (5, .int 0), (4, .int (pick 1000000 2 (130 * iA + (iB + 1)))), (0, .ref h0), (1, .int 0), (2, .int 2), (3, .int 1)] [0, 2, 3, 4, 5, 6, 7, 8, 9] rfl ?_
              exact IHB () trivial
          ·
            refine V_lv [(8, .int 130), (7, .int (nI iA)), (6, .int 0), (5, .int 0), (4, .int (pick 1000000 2 (130 * iA + 130))), (0, .ref h0), (1, .int 0), (2, .int 2), (3, .int 1)] [0, 1, 2, 3, 4, 5, 6, 7, 8] rfl ?_
            refine V_ws [(h0, oC 13 [.ref h1, .ref g0, .int 0, .ref g1, .ref g2, .int 0, .int 0, .int 0, .int (-1), .int 0, .int 0, .int 0, .long 0, .ref g3, .ref g4, .int 0, .int 0]), (h1, aI Y 3640 (upd (upd (upd (clB 0 (fun _ => 0)) 3629 2) 3630 (simF (nI iA))) 3631 281))] (by rw [show (pickf (pick 0 281 iA) (fun j => simF (nI j)) 130) = 281 from sim129]; rfl) ?_
            refine V_iload 149 B dX12_cheapest_149 0 rfl ?_
            refine V_iload_n 151 B dX12_cheapest_151 7 rfl ?_
            refine V_iconst 152 B (v := 1) dX12_cheapest_152 (by decide +kernel) ?_
            refine V_icmp_ne_t 153 B 160 dX12_cheapest_153 (by decide) (by decide +kernel) ?_
            refine V_sipush 160 B (v := 130) dX12_cheapest_160 (by decide +kernel) ?_
            refine V_icmp_ge_t 163 B 244 dX12_cheapest_163 (by decide) (by decide +kernel) ?_
            refine V_iinc 244 B (v := (nI (iA + 1))) (lv2 := [(7, .int (nI (iA + 1))), (8, .int 130), (6, .int 0), (5, .int 0), (4, .int (pick 1000000 2 (130 * iA + 130))), (0, .ref h0), (1, .int 0), (2, .int 2), (3, .int 1)]) dX12_cheapest_244 1 rfl (nI_1 _) (by decide) rfl ?_
            refine V_goto 247 B 138 dX12_cheapest_247 (by decide) ?_
            refine V_ws [(h0, oC 13 [.ref h1, .ref g0, .int 0, .ref g1, .ref g2, .int 0, .int 0, .int 0, .int (-1), .int 0, .int 0, .int 0, .long 0, .ref g3, .ref g4, .int 0, .int 0]), (h1, aI Y 3640 (upd (upd (upd (clB 0 (fun _ => 0)) 3629 2) 3630 (pickf 0 (fun j => simF (nI j)) (iA + 1))) 3631 (pick 0 281 (iA + 1))))] rfl ?_
            refine V_lv [(7, .int (nI (iA + 1))), (6, .int 0), (5, .int 0), (4, .int (pick 1000000 2 (130 * (iA + 1)))), (0, .ref h0), (1, .int 0), (2, .int 2), (3, .int 1)] [0, 2, 3, 4, 5, 6, 7, 8] rfl ?_
            exact IHA () trivial
        ·
          refine V_lv [(7, .int 130), (6, .int 0), (5, .int 0), (4, .int 2), (0, .ref h0), (1, .int 0), (2, .int 2), (3, .int 1)] [0, 1, 2, 3, 4, 5, 6, 7] rfl ?_
          refine V_ws [(h0, oC 13 [.ref h1, .ref g0, .int 0, .ref g1, .ref g2, .int 0, .int 0, .int 0, .int (-1), .int 0, .int 0, .int 0, .long 0, .ref g3, .ref g4, .int 0, .int 0]), (h1, aI Y 3640 (upd (upd (upd (clB 0 (fun _ => 0)) 3629 2) 3630 281) 3631 281))] (by rw [show (pickf 0 (fun j => simF (nI j)) 130) = 281 from sim129, show (pick 0 281 130) = 281 from rfl]) ?_
          refine V_iload 138 B dX12_cheapest_138 0 rfl ?_
          refine V_sipush 140 B (v := 130) dX12_cheapest_140 (by decide +kernel) ?_
          refine V_icmp_ge_t 143 B 250 dX12_cheapest_143 (by decide) (by decide +kernel) ?_
          refine V_iload 250 B dX12_cheapest_250 3 rfl ?_
          refine V_ldc 252 B (v := 1000000) dX12_cheapest_252 (mT9 29 rfl rfl) ?_
          refine V_icmp_ne_t 254 B 259 dX12_cheapest_254 (by decide) (by decide +kernel) ?_
          refine V_aload_n 259 B dX12_cheapest_259 4 rfl ?_
          refine V_get 260 B gf_RX12_9 0 rfl rfl dX12_cheapest_260 ?_
          refine V_sipush 263 B (v := 3624) dX12_cheapest_263 (by decide +kernel) ?_
          refine V_iload_n 266 B dX12_cheapest_266 6 rfl ?_
          refine V_iast 267 B 1 rfl (vpin _ _ (by decide +kernel)) dX12_cheapest_267 [(h0, oC 13 [.ref h1, .ref g0, .int 0, .ref g1, .ref g2, .int 0, .int 0, .int 0, .int (-1), .int 0, .int 0, .int 0, .long 0, .ref g3, .ref g4, .int 0, .int 0]), (h1, aI Y 3640 (upd (upd (upd (upd (clB 0 (fun _ => 0)) 3629 2) 3630 281) 3631 281) 3624 2))] rfl ?_
          refine V_aload_n 268 B dX12_cheapest_268 4 rfl ?_
          refine V_get 269 B gf_RX12_9 0 rfl rfl dX12_cheapest_269 ?_
          refine V_sipush 272 B (v := 3625) dX12_cheapest_272 (by decide +kernel) ?_
          refine V_iload 275 B dX12_cheapest_275 2 rfl ?_
          refine V_iast 277 B 1 rfl (vpin _ _ (by decide +kernel)) dX12_cheapest_277 [(h0, oC 13 [.ref h1, .ref g0, .int 0, .ref g1, .ref g2, .int 0, .int 0, .int 0, .int (-1), .int 0, .int 0, .int 0, .long 0, .ref g3, .ref g4, .int 0, .int 0]), (h1, aI Y 3640 (upd (upd (upd (upd (upd (clB 0 (fun _ => 0)) 3629 2) 3630 281) 3631 281) 3624 2) 3625 0))] rfl ?_
          refine V_aload_n 278 B dX12_cheapest_278 4 rfl ?_
          refine V_get 279 B gf_RX12_9 0 rfl rfl dX12_cheapest_279 ?_
          refine V_sipush 282 B (v := 3626) dX12_cheapest_282 (by decide +kernel) ?_
          refine V_iload 285 B dX12_cheapest_285 1 rfl ?_
          refine V_iast 287 B 1 rfl (vpin _ _ (by decide +kernel)) dX12_cheapest_287 [(h0, oC 13 [.ref h1, .ref g0, .int 0, .ref g1, .ref g2, .int 0, .int 0, .int 0, .int (-1), .int 0, .int 0, .int 0, .long 0, .ref g3, .ref g4, .int 0, .int 0]), (h1, aI Y 3640 (upd (upd (upd (upd (upd (upd (clB 0 (fun _ => 0)) 3629 2) 3630 281) 3631 281) 3624 2) 3625 0) 3626 0))] rfl ?_
          refine V_iload 288 B dX12_cheapest_288 3 rfl ?_
          exact V_iret 290 B dX12_cheapest_290 1 (Or.inr (Or.inl ⟨rfl, rfl, rfl⟩)) rfl
    ·
      refine V_ws [(h0, oC 13 [.ref h1, .ref g0, .int 0, .ref g1, .ref g2, .int 0, .int 0, .int 0, .int (-1), .int 0, .int 0, .int 0, .long 0, .ref g3, .ref g4, .int 0, .int 0]), (h1, aI Y 3640 (clB 0 (fun _ => 0)))] rfl ?_
      refine V_if_ne_f 36 B 43 dX12_cheapest_36 (by decide) (by decide +kernel) ?_
      refine V_iconst 39 B (v := 1) dX12_cheapest_39 (by decide +kernel) ?_
      refine V_goto 40 B 44 dX12_cheapest_40 (by decide) ?_
      refine V_iconst 44 B (v := 2) dX12_cheapest_44 (by decide +kernel) ?_
      refine V_cvi 45 B (st := []) (As := [.int 1, .int 2]) (fun sz => mX12_throwsIf_4 l D Y (h0) (h1) (g0) (g1) (g2) (g3) (g4) sz) glV_RX12_69 ⟨rfl, rfl⟩ ⟨(Nat.le_of_ble_eq_true rfl), (Nat.le_of_ble_eq_true rfl)⟩ ⟨(Nat.le_of_ble_eq_true rfl), (Nat.le_of_ble_eq_true rfl)⟩ [0] rfl 13 0 rfl rfl rfl rfl (Nat.le_of_ble_eq_true rfl) rfl (fun _ _ _ => rfl) dX12_cheapest_45 (fun r29 u29 w29 => ?_)
      obtain rfl := w29
      refine V_ws [(h0, oC 13 [.ref h1, .ref g0, .int 2, .ref g1, .ref g2, .int 0, .int 0, .int 0, .int (-1), .int 0, .int 0, .int 0, .long 0, .ref g3, .ref g4, .int 0, .int 0]), (h1, aI Y 3640 (clB 0 (fun _ => 0)))] rfl ?_
      refine V_if_eq_f 48 B 53 dX12_cheapest_48 (by decide) (by decide +kernel) ?_
      refine V_iconst 51 B (v := 0) dX12_cheapest_51 (by decide +kernel) ?_
      exact V_iret 52 B dX12_cheapest_52 2 (Or.inr (Or.inr (Or.inl ⟨rfl, k5, rfl⟩))) rfl
    ·
      refine V_ws [(h0, oC 13 [.ref h1, .ref g0, .int 0, .ref g1, .ref g2, .int 0, .int 0, .int 0, .int (-1), .int 0, .int 0, .int 0, .long 0, .ref g3, .ref g4, .int 0, .int 0]), (h1, aI Y 3640 (clB 0 (fun _ => 0)))] rfl ?_
      refine V_if_ne_f 36 B 43 dX12_cheapest_36 (by decide) (by decide +kernel) ?_
      refine V_iconst 39 B (v := 1) dX12_cheapest_39 (by decide +kernel) ?_
      refine V_goto 40 B 44 dX12_cheapest_40 (by decide) ?_
      refine V_iconst 44 B (v := 2) dX12_cheapest_44 (by decide +kernel) ?_
      refine V_cvi 45 B (st := []) (As := [.int 1, .int 2]) (fun sz => mX12_throwsIf_4 l D Y (h0) (h1) (g0) (g1) (g2) (g3) (g4) sz) glV_RX12_69 ⟨rfl, rfl⟩ ⟨(Nat.le_of_ble_eq_true rfl), (Nat.le_of_ble_eq_true rfl)⟩ ⟨(Nat.le_of_ble_eq_true rfl), (Nat.le_of_ble_eq_true rfl)⟩ [0] rfl 13 0 rfl rfl rfl rfl (Nat.le_of_ble_eq_true rfl) rfl (fun _ _ _ => rfl) dX12_cheapest_45 (fun r30 u30 w30 => ?_)
      obtain rfl := w30
      refine V_ws [(h0, oC 13 [.ref h1, .ref g0, .int 2, .ref g1, .ref g2, .int 0, .int 0, .int 0, .int (-1), .int 0, .int 0, .int 0, .long 0, .ref g3, .ref g4, .int 0, .int 0]), (h1, aI Y 3640 (clB 0 (fun _ => 0)))] rfl ?_
      refine V_if_eq_f 48 B 53 dX12_cheapest_48 (by decide) (by decide +kernel) ?_
      refine V_iconst 51 B (v := 0) dX12_cheapest_51 (by decide +kernel) ?_
      exact V_iret 52 B dX12_cheapest_52 3 (Or.inr (Or.inr (Or.inr ⟨rfl, k6, rfl⟩))) rfl)
set_option maxRecDepth 100000 in
set_option maxHeartbeats 4000000 in
theorem mX12_cheapest_7 (l : Launch) (D : va_G) (Y : Nat → ClassId) (h0 : Nat) (h1 : Nat) (g0 : Nat) (g1 : Nat) (g2 : Nat) (g3 : Nat) (g4 : Nat) (sz : Nat) : Met l yX12_cheapest (WSm yX12_cheapest cX12_cheapest 10 (some .int)) (mkR 3 0 0 70) (PreC D Y [.ref h0, .int 0, .int 1, .int 1] [(h0, oC 13 [.ref h1, .ref g0, .int 0, .ref g1, .ref g2, .int 0, .int 0, .int 0, .int (-1), .int 0, .int 0, .int 0, .long 0, .ref g3, .ref g4, .int 0, .int 0]), (h1, aI Y 3640 (clB 0 (fun _ => 0)))] sz) (QI D (fun (r : Int32) (u : Unit) => 1 = r) (fun (_ : Unit) => [(h0, oC 13 [.ref h1, .ref g0, .int 0, .ref g1, .ref g2, .int 0, .int 0, .int 0, .int (-1), .int 0, .int 0, .int 0, .long 0, .ref g3, .ref g4, .int 0, .int 0]), (h1, aI Y 3640 (upd (upd (upd (upd (upd (upd (clB 0 (fun _ => 0)) 3629 1) 3630 281) 3631 0) 3624 1) 3625 0) 3626 0))]) (va_A [(h0, oC 13 [.ref h1, .ref g0, .int 0, .ref g1, .ref g2, .int 0, .int 0, .int 0, .int (-1), .int 0, .int 0, .int 0, .long 0, .ref g3, .ref g4, .int 0, .int 0]), (h1, aI Y 3640 (clB 0 (fun _ => 0)))] sz)) 0 0 (va_A [(h0, oC 13 [.ref h1, .ref g0, .int 0, .ref g1, .ref g2, .int 0, .int 0, .int 0, .int (-1), .int 0, .int 0, .int 0, .long 0, .ref g3, .ref g4, .int 0, .int 0]), (h1, aI Y 3640 (clB 0 (fun _ => 0)))] sz) :=
  met_of (by decide +kernel) (Nat.le_of_ble_eq_true rfl) (fun p e s m args below meth c B hin hsz => by
    have B : VB p s m args meth c D Y (va_A [(h0, oC 13 [.ref h1, .ref g0, .int 0, .ref g1, .ref g2, .int 0, .int 0, .int 0, .int (-1), .int 0, .int 0, .int 0, .long 0, .ref g3, .ref g4, .int 0, .int 0]), (h1, aI Y 3640 (clB 0 (fun _ => 0)))] sz) cX12_cheapest 10 RX12 (some .int) := B
    refine V_aload_n 0 B dX12_cheapest_0 0 rfl ?_
    refine V_iconst 1 B (v := 0) dX12_cheapest_1 (by decide +kernel) ?_
    refine V_put 2 B gp_RX12_38 0 rfl (Nat.le_of_ble_eq_true rfl) rfl rfl dX12_cheapest_2 [(h0, oC 13 [.ref h1, .ref g0, .int 0, .ref g1, .ref g2, .int 0, .int 0, .int 0, .int (-1), .int 0, .int 0, .int 0, .long 0, .ref g3, .ref g4, .int 0, .int 0]), (h1, aI Y 3640 (clB 0 (fun _ => 0)))] rfl ?_
    refine V_aload_n 5 B dX12_cheapest_5 0 rfl ?_
    refine V_aload_n 6 B dX12_cheapest_6 0 rfl ?_
    refine V_iload_n 7 B dX12_cheapest_7 1 rfl ?_
    refine V_cvi 8 B (st := [.ref h0]) (As := [.int 0]) (fun sz => mX12_isMode_2 l D Y (h0) (h1) (g0) (g1) (g2) (g3) (g4) sz) glV_RX12_91 ⟨rfl, rfl⟩ ⟨(Nat.le_of_ble_eq_true rfl), (Nat.le_of_ble_eq_true rfl)⟩ ⟨(Nat.le_of_ble_eq_true rfl), (Nat.le_of_ble_eq_true rfl)⟩ [0, 0] rfl 13 0 rfl rfl rfl rfl (Nat.le_of_ble_eq_true rfl) rfl (fun _ _ _ => rfl) dX12_cheapest_8 (fun r0 u0 w0 => ?_)
    obtain rfl := w0
    refine V_ws [(h0, oC 13 [.ref h1, .ref g0, .int 0, .ref g1, .ref g2, .int 0, .int 0, .int 0, .int (-1), .int 0, .int 0, .int 0, .long 0, .ref g3, .ref g4, .int 0, .int 0]), (h1, aI Y 3640 (clB 0 (fun _ => 0)))] rfl ?_
    refine V_if_ne_t 11 B 18 dX12_cheapest_11 (by decide) (by decide +kernel) ?_
    refine V_iconst 18 B (v := 0) dX12_cheapest_18 (by decide +kernel) ?_
    refine V_iconst 19 B (v := 1) dX12_cheapest_19 (by decide +kernel) ?_
    refine V_cvi 20 B (st := []) (As := [.int 0, .int 1]) (fun sz => mX12_throwsIf_2 l D Y (h0) (h1) (g0) (g1) (g2) (g3) (g4) sz) glV_RX12_69 ⟨rfl, rfl⟩ ⟨(Nat.le_of_ble_eq_true rfl), (Nat.le_of_ble_eq_true rfl)⟩ ⟨(Nat.le_of_ble_eq_true rfl), (Nat.le_of_ble_eq_true rfl)⟩ [0] rfl 13 0 rfl rfl rfl rfl (Nat.le_of_ble_eq_true rfl) rfl (fun _ _ _ => rfl) dX12_cheapest_20 (fun r1 u1 w1 => ?_)
    obtain rfl := w1
    refine V_ws [(h0, oC 13 [.ref h1, .ref g0, .int 0, .ref g1, .ref g2, .int 0, .int 0, .int 0, .int (-1), .int 0, .int 0, .int 0, .long 0, .ref g3, .ref g4, .int 0, .int 0]), (h1, aI Y 3640 (clB 0 (fun _ => 0)))] rfl ?_
    refine V_if_ne_f 23 B 51 dX12_cheapest_23 (by decide) (by decide +kernel) ?_
    refine V_aload_n 26 B dX12_cheapest_26 0 rfl ?_
    refine V_iload_n 27 B dX12_cheapest_27 2 rfl ?_
    refine V_i2l 28 B (v := 1) dX12_cheapest_28 (by decide +kernel) ?_
    refine V_lconst 29 B (v := 1) dX12_cheapest_29 (by decide +kernel) ?_
    refine V_ldc2 30 B (v := 2) dX12_cheapest_30 (mT8 45 rfl rfl) ?_
    refine V_csi 33 B (st := [.ref h0]) (As := [.long 1, .long 1, .long 2]) (fun sz => mX12_inRange_5 l D Y  sz) glS_RX12_41 ⟨rfl, rfl⟩ ⟨(Nat.le_of_ble_eq_true rfl), (Nat.le_of_ble_eq_true rfl)⟩ ⟨(Nat.le_of_ble_eq_true rfl), (Nat.le_of_ble_eq_true rfl)⟩ [] rfl rfl (Nat.le_of_ble_eq_true rfl) rfl (fun _ _ _ => rfl) dX12_cheapest_33 (fun r2 u2 w2 => ?_)
    obtain rfl := w2
    refine V_ws [(h0, oC 13 [.ref h1, .ref g0, .int 0, .ref g1, .ref g2, .int 0, .int 0, .int 0, .int (-1), .int 0, .int 0, .int 0, .long 0, .ref g3, .ref g4, .int 0, .int 0]), (h1, aI Y 3640 (clB 0 (fun _ => 0)))] rfl ?_
    refine V_if_ne_t 36 B 43 dX12_cheapest_36 (by decide) (by decide +kernel) ?_
    refine V_iconst 43 B (v := 0) dX12_cheapest_43 (by decide +kernel) ?_
    refine V_iconst 44 B (v := 2) dX12_cheapest_44 (by decide +kernel) ?_
    refine V_cvi 45 B (st := []) (As := [.int 0, .int 2]) (fun sz => mX12_throwsIf_3 l D Y (h0) (h1) (g0) (g1) (g2) (g3) (g4) sz) glV_RX12_69 ⟨rfl, rfl⟩ ⟨(Nat.le_of_ble_eq_true rfl), (Nat.le_of_ble_eq_true rfl)⟩ ⟨(Nat.le_of_ble_eq_true rfl), (Nat.le_of_ble_eq_true rfl)⟩ [0] rfl 13 0 rfl rfl rfl rfl (Nat.le_of_ble_eq_true rfl) rfl (fun _ _ _ => rfl) dX12_cheapest_45 (fun r3 u3 w3 => ?_)
    obtain rfl := w3
    refine V_ws [(h0, oC 13 [.ref h1, .ref g0, .int 0, .ref g1, .ref g2, .int 0, .int 0, .int 0, .int (-1), .int 0, .int 0, .int 0, .long 0, .ref g3, .ref g4, .int 0, .int 0]), (h1, aI Y 3640 (clB 0 (fun _ => 0)))] rfl ?_
    refine V_if_eq_t 48 B 53 dX12_cheapest_48 (by decide) (by decide +kernel) ?_
    refine V_iconst 53 B (v := 0) dX12_cheapest_53 (by decide +kernel) ?_
    refine V_istore 54 B (lv2 := [(4, .int 0), (0, .ref h0), (1, .int 0), (2, .int 1), (3, .int 1)]) dX12_cheapest_54 (by decide) rfl ?_
    refine V_iload 56 B dX12_cheapest_56 0 rfl ?_
    refine V_aload_n 58 B dX12_cheapest_58 1 rfl ?_
    refine V_get 59 B gf_RX12_9 0 rfl rfl dX12_cheapest_59 ?_
    refine V_iconst 62 B (v := 3) dX12_cheapest_62 (by decide +kernel) ?_
    refine V_iald 63 B (v := 0) 1 rfl (vpin _ _ (by decide +kernel)) dX12_cheapest_63 rfl ?_
    refine V_icmp_ge_t 64 B 116 dX12_cheapest_64 (by decide) (by decide +kernel) ?_
    refine V_ldc 116 B (v := 1000000) dX12_cheapest_116 (mT9 29 rfl rfl) ?_
    refine V_istore 118 B (lv2 := [(4, .int 1000000), (0, .ref h0), (1, .int 0), (2, .int 1), (3, .int 1)]) dX12_cheapest_118 (by decide) rfl ?_
    refine V_iconst 120 B (v := 0) dX12_cheapest_120 (by decide +kernel) ?_
    refine V_istore 121 B (lv2 := [(5, .int 0), (4, .int 1000000), (0, .ref h0), (1, .int 0), (2, .int 1), (3, .int 1)]) dX12_cheapest_121 (by decide) rfl ?_
    refine V_iconst 123 B (v := 0) dX12_cheapest_123 (by decide +kernel) ?_
    refine V_istore 124 B (lv2 := [(6, .int 0), (5, .int 0), (4, .int 1000000), (0, .ref h0), (1, .int 0), (2, .int 1), (3, .int 1)]) dX12_cheapest_124 (by decide) rfl ?_
    refine V_aload_n 126 B dX12_cheapest_126 3 rfl ?_
    refine V_get 127 B gf_RX12_9 0 rfl rfl dX12_cheapest_127 ?_
    refine V_sipush 130 B (v := 3629) dX12_cheapest_130 (by decide +kernel) ?_
    refine V_iload_n 133 B dX12_cheapest_133 5 rfl ?_
    refine V_iast 134 B 1 rfl (vpin _ _ (by decide +kernel)) dX12_cheapest_134 [(h0, oC 13 [.ref h1, .ref g0, .int 0, .ref g1, .ref g2, .int 0, .int 0, .int 0, .int (-1), .int 0, .int 0, .int 0, .long 0, .ref g3, .ref g4, .int 0, .int 0]), (h1, aI Y 3640 (upd (clB 0 (fun _ => 0)) 3629 1))] rfl ?_
    refine V_iconst 135 B (v := 0) dX12_cheapest_135 (by decide +kernel) ?_
    refine V_istore 136 B (lv2 := [(7, .int 0), (6, .int 0), (5, .int 0), (4, .int 1000000), (0, .ref h0), (1, .int 0), (2, .int 1), (3, .int 1)]) dX12_cheapest_136 (by decide) rfl ?_
    refine V_loop (α := Unit) 130 (fun _ _ => True) (fun iA _ => [(7, .int (nI iA)), (6, .int 0), (5, .int 0), (4, .int (pick 1000000 1 iA)), (0, .ref h0), (1, .int 0), (2, .int 1), (3, .int 1)]) (fun iA _ => [(h0, oC 13 [.ref h1, .ref g0, .int 0, .ref g1, .ref g2, .int 0, .int 0, .int 0, .int (-1), .int 0, .int 0, .int 0, .long 0, .ref g3, .ref g4, .int 0, .int 0]), (h1, aI Y 3640 (upd (upd (upd (clB 0 (fun _ => 0)) 3629 1) 3630 (pickf 0 (fun j => simF (nI j)) iA)) 3631 0))]) () trivial rfl (by rw [show upd (upd (upd (clB 0 (fun _ => 0)) 3629 1) 3630 (pickf 0 (fun j => simF (nI j)) 0)) 3631 0 = (upd (clB 0 (fun _ => 0)) 3629 1) from (congrArg (fun g => upd g 3631 0) (upd_same (f := (upd (clB 0 (fun _ => 0)) 3629 1)) (k := 3630) (x := (pickf 0 (fun j => simF (nI j)) 0)) (by decide +kernel))).trans (upd_same (by decide +kernel))]) (fun iA _ hiA _ IHA => ?_) (fun _ _ => ?_)
    ·
      refine V_lv [(7, .int (nI iA)), (6, .int 0), (5, .int 0), (4, .int (pick 1000000 1 iA)), (0, .ref h0), (1, .int 0), (2, .int 1), (3, .int 1)] [0, 1, 2, 3, 4, 5, 6, 7] rfl ?_
      refine V_ws [(h0, oC 13 [.ref h1, .ref g0, .int 0, .ref g1, .ref g2, .int 0, .int 0, .int 0, .int (-1), .int 0, .int 0, .int 0, .long 0, .ref g3, .ref g4, .int 0, .int 0]), (h1, aI Y 3640 (upd (upd (upd (clB 0 (fun _ => 0)) 3629 1) 3630 (pickf 0 (fun j => simF (nI j)) iA)) 3631 0))] rfl ?_
      refine V_iload 138 B dX12_cheapest_138 0 rfl ?_
      refine V_sipush 140 B (v := 130) dX12_cheapest_140 (by decide +kernel) ?_
      refine V_icmp_ge_f 143 B 250 dX12_cheapest_143 (by decide) (q_nge (nI_hi hiA (by decide) (k := 129) (by decide +kernel)) (by decide +kernel)) ?_
      by_cases k4 : iA = 0
      ·
        obtain rfl : iA = 0 := by omega
        refine V_lv [(7, .int 0), (6, .int 0), (5, .int 0), (4, .int 1000000), (0, .ref h0), (1, .int 0), (2, .int 1), (3, .int 1)] [0, 1, 2, 3, 4, 5, 6, 7] rfl ?_
        refine V_ws [(h0, oC 13 [.ref h1, .ref g0, .int 0, .ref g1, .ref g2, .int 0, .int 0, .int 0, .int (-1), .int 0, .int 0, .int 0, .long 0, .ref g3, .ref g4, .int 0, .int 0]), (h1, aI Y 3640 (upd (upd (upd (clB 0 (fun _ => 0)) 3629 1) 3630 0) 3631 0))] rfl ?_
        refine V_iconst 146 B (v := 0) dX12_cheapest_146 (by decide +kernel) ?_
        refine V_istore 147 B (lv2 := [(8, .int 0), (7, .int 0), (6, .int 0), (5, .int 0), (4, .int 1000000), (0, .ref h0), (1, .int 0), (2, .int 1), (3, .int 1)]) dX12_cheapest_147 (by decide) rfl ?_
        refine V_iload 149 B dX12_cheapest_149 0 rfl ?_
        refine V_iload_n 151 B dX12_cheapest_151 7 rfl ?_
        refine V_iconst 152 B (v := 1) dX12_cheapest_152 (by decide +kernel) ?_
        refine V_icmp_ne_f 153 B 160 dX12_cheapest_153 (by decide) (by decide +kernel) ?_
        refine V_iconst 156 B (v := 1) dX12_cheapest_156 (by decide +kernel) ?_
        refine V_goto 157 B 163 dX12_cheapest_157 (by decide) ?_
        refine V_icmp_ge_f 163 B 244 dX12_cheapest_163 (by decide) (by decide +kernel) ?_
        refine V_aload_n 166 B dX12_cheapest_166 5 rfl ?_
        refine V_get 167 B gf_RX12_9 0 rfl rfl dX12_cheapest_167 ?_
        refine V_sipush 170 B (v := 3630) dX12_cheapest_170 (by decide +kernel) ?_
        refine V_iload 173 B dX12_cheapest_173 1 rfl ?_
        refine V_csi 175 B (st := [.int 3630, .ref h1]) (As := [.int 0]) (fun sz => mX12_simpleStroke_2 l D Y  sz) glS_RX12_181 ⟨rfl, rfl⟩ ⟨(Nat.le_of_ble_eq_true rfl), (Nat.le_of_ble_eq_true rfl)⟩ ⟨(Nat.le_of_ble_eq_true rfl), (Nat.le_of_ble_eq_true rfl)⟩ [] rfl rfl (Nat.le_of_ble_eq_true rfl) rfl (fun _ _ _ => rfl) dX12_cheapest_175 (fun r5 u5 w5 => ?_)
        obtain rfl := w5
        refine V_ws [(h0, oC 13 [.ref h1, .ref g0, .int 0, .ref g1, .ref g2, .int 0, .int 0, .int 0, .int (-1), .int 0, .int 0, .int 0, .long 0, .ref g3, .ref g4, .int 0, .int 0]), (h1, aI Y 3640 (upd (upd (upd (clB 0 (fun _ => 0)) 3629 1) 3630 0) 3631 0))] rfl ?_
        refine V_iast 178 B 1 rfl (vpin _ _ (by decide +kernel)) dX12_cheapest_178 [(h0, oC 13 [.ref h1, .ref g0, .int 0, .ref g1, .ref g2, .int 0, .int 0, .int 0, .int (-1), .int 0, .int 0, .int 0, .long 0, .ref g3, .ref g4, .int 0, .int 0]), (h1, aI Y 3640 (upd (upd (upd (upd (clB 0 (fun _ => 0)) 3629 1) 3630 0) 3631 0) 3630 0))] rfl ?_
        refine V_aload_n 179 B dX12_cheapest_179 5 rfl ?_
        refine V_get 180 B gf_RX12_9 0 rfl rfl dX12_cheapest_180 ?_
        refine V_sipush 183 B (v := 3631) dX12_cheapest_183 (by decide +kernel) ?_
        refine V_iload 186 B dX12_cheapest_186 0 rfl ?_
        refine V_csi 188 B (st := [.int 3631, .ref h1]) (As := [.int 0]) (fun sz => mX12_simpleStroke_2 l D Y  sz) glS_RX12_181 ⟨rfl, rfl⟩ ⟨(Nat.le_of_ble_eq_true rfl), (Nat.le_of_ble_eq_true rfl)⟩ ⟨(Nat.le_of_ble_eq_true rfl), (Nat.le_of_ble_eq_true rfl)⟩ [] rfl rfl (Nat.le_of_ble_eq_true rfl) rfl (fun _ _ _ => rfl) dX12_cheapest_188 (fun r6 u6 w6 => ?_)
        obtain rfl := w6
        refine V_ws [(h0, oC 13 [.ref h1, .ref g0, .int 0, .ref g1, .ref g2, .int 0, .int 0, .int 0, .int (-1), .int 0, .int 0, .int 0, .long 0, .ref g3, .ref g4, .int 0, .int 0]), (h1, aI Y 3640 (upd (upd (upd (upd (clB 0 (fun _ => 0)) 3629 1) 3630 0) 3631 0) 3630 0))] rfl ?_
        refine V_iast 191 B 1 rfl (vpin _ _ (by decide +kernel)) dX12_cheapest_191 [(h0, oC 13 [.ref h1, .ref g0, .int 0, .ref g1, .ref g2, .int 0, .int 0, .int 0, .int (-1), .int 0, .int 0, .int 0, .long 0, .ref g3, .ref g4, .int 0, .int 0]), (h1, aI Y 3640 (upd (upd (upd (upd (upd (clB 0 (fun _ => 0)) 3629 1) 3630 0) 3631 0) 3630 0) 3631 0))] rfl ?_
        refine V_aload_n 192 B dX12_cheapest_192 5 rfl ?_
        refine V_sipush 193 B (v := 3629) dX12_cheapest_193 (by decide +kernel) ?_
        refine V_cvi 196 B (st := []) (As := [.int 3629]) (fun sz => mX12_costOf_2 l D Y (h0) (h1) (g0) (g1) (g2) (g3) (g4) sz) glV_RX12_76 ⟨rfl, rfl⟩ ⟨(Nat.le_of_ble_eq_true rfl), (Nat.le_of_ble_eq_true rfl)⟩ ⟨(Nat.le_of_ble_eq_true rfl), (Nat.le_of_ble_eq_true rfl)⟩ [0, 0] rfl 13 0 rfl rfl rfl rfl (Nat.le_of_ble_eq_true rfl) rfl (fun _ _ _ => rfl) dX12_cheapest_196 (fun r7 u7 w7 => ?_)
        obtain rfl := w7
        refine V_ws [(h0, oC 13 [.ref h1, .ref g0, .int 0, .ref g1, .ref g2, .int 0, .int 0, .int 0, .int (-1), .int 0, .int 0, .int 0, .long 0, .ref g3, .ref g4, .int 0, .int 0]), (h1, aI Y 3640 (upd (upd (upd (upd (upd (clB 0 (fun _ => 0)) 3629 1) 3630 0) 3631 0) 3630 0) 3631 0))] rfl ?_
        refine V_istore 199 B (lv2 := [(9, .int 1), (8, .int 0), (7, .int 0), (6, .int 0), (5, .int 0), (4, .int 1000000), (0, .ref h0), (1, .int 0), (2, .int 1), (3, .int 1)]) dX12_cheapest_199 (by decide) rfl ?_
        refine V_iload 201 B dX12_cheapest_201 0 rfl ?_
        refine V_iload 203 B dX12_cheapest_203 5 rfl ?_
        refine V_icmp_ge_f 205 B 238 dX12_cheapest_205 (by decide) (by decide +kernel) ?_
        refine V_aload_n 208 B dX12_cheapest_208 6 rfl ?_
        refine V_iload_n 209 B dX12_cheapest_209 7 rfl ?_
        refine V_iload_n 210 B dX12_cheapest_210 9 rfl ?_
        refine V_cvi 211 B (st := []) (As := [.int 0, .int 1]) (fun sz => mX12_isFreeHere_5 l D Y (h0) (h1) (g0) (g1) (g2) (g3) (g4) sz) glV_RX12_185 ⟨rfl, rfl⟩ ⟨(Nat.le_of_ble_eq_true rfl), (Nat.le_of_ble_eq_true rfl)⟩ ⟨(Nat.le_of_ble_eq_true rfl), (Nat.le_of_ble_eq_true rfl)⟩ [0, 0] rfl 13 0 rfl rfl rfl rfl (Nat.le_of_ble_eq_true rfl) rfl (fun _ _ _ => rfl) dX12_cheapest_211 (fun r8 u8 w8 => ?_)
        obtain rfl := w8
        refine V_ws [(h0, oC 13 [.ref h1, .ref g0, .int 0, .ref g1, .ref g2, .int 0, .int 0, .int 0, .int (-1), .int 0, .int 0, .int 0, .long 0, .ref g3, .ref g4, .int 0, .int 0]), (h1, aI Y 3640 (upd (upd (upd (upd (upd (clB 0 (fun _ => 0)) 3629 1) 3630 0) 3631 0) 3630 0) 3631 0))] rfl ?_
        refine V_if_ne_t 214 B 220 dX12_cheapest_214 (by decide) (by decide +kernel) ?_
        refine V_iload 220 B dX12_cheapest_220 0 rfl ?_
        refine V_istore 222 B (lv2 := [(4, .int 1), (9, .int 1), (8, .int 0), (7, .int 0), (6, .int 0), (5, .int 0), (0, .ref h0), (1, .int 0), (2, .int 1), (3, .int 1)]) dX12_cheapest_222 (by decide) rfl ?_
        refine V_iload 224 B dX12_cheapest_224 3 rfl ?_
        refine V_csi 226 B (st := []) (As := [.int 0]) (fun sz => mX12_simpleStroke_2 l D Y  sz) glS_RX12_181 ⟨rfl, rfl⟩ ⟨(Nat.le_of_ble_eq_true rfl), (Nat.le_of_ble_eq_true rfl)⟩ ⟨(Nat.le_of_ble_eq_true rfl), (Nat.le_of_ble_eq_true rfl)⟩ [] rfl rfl (Nat.le_of_ble_eq_true rfl) rfl (fun _ _ _ => rfl) dX12_cheapest_226 (fun r9 u9 w9 => ?_)
        obtain rfl := w9
        refine V_ws [(h0, oC 13 [.ref h1, .ref g0, .int 0, .ref g1, .ref g2, .int 0, .int 0, .int 0, .int (-1), .int 0, .int 0, .int 0, .long 0, .ref g3, .ref g4, .int 0, .int 0]), (h1, aI Y 3640 (upd (upd (upd (upd (upd (clB 0 (fun _ => 0)) 3629 1) 3630 0) 3631 0) 3630 0) 3631 0))] rfl ?_
        refine V_istore 229 B (lv2 := [(5, .int 0), (4, .int 1), (9, .int 1), (8, .int 0), (7, .int 0), (6, .int 0), (0, .ref h0), (1, .int 0), (2, .int 1), (3, .int 1)]) dX12_cheapest_229 (by decide) rfl ?_
        refine V_iload 231 B dX12_cheapest_231 3 rfl ?_
        refine V_csi 233 B (st := []) (As := [.int 0]) (fun sz => mX12_simpleStroke_2 l D Y  sz) glS_RX12_181 ⟨rfl, rfl⟩ ⟨(Nat.le_of_ble_eq_true rfl), (Nat.le_of_ble_eq_true rfl)⟩ ⟨(Nat.le_of_ble_eq_true rfl), (Nat.le_of_ble_eq_true rfl)⟩ [] rfl rfl (Nat.le_of_ble_eq_true rfl) rfl (fun _ _ _ => rfl) dX12_cheapest_233 (fun r10 u10 w10 => ?_)
        obtain rfl := w10
        refine V_ws [(h0, oC 13 [.ref h1, .ref g0, .int 0, .ref g1, .ref g2, .int 0, .int 0, .int 0, .int (-1), .int 0, .int 0, .int 0, .long 0, .ref g3, .ref g4, .int 0, .int 0]), (h1, aI Y 3640 (upd (upd (upd (upd (upd (clB 0 (fun _ => 0)) 3629 1) 3630 0) 3631 0) 3630 0) 3631 0))] rfl ?_
        refine V_istore 236 B (lv2 := [(6, .int 0), (5, .int 0), (4, .int 1), (9, .int 1), (8, .int 0), (7, .int 0), (0, .ref h0), (1, .int 0), (2, .int 1), (3, .int 1)]) dX12_cheapest_236 (by decide) rfl ?_
        refine V_iinc 238 B (v := 1) (lv2 := [(8, .int 1), (6, .int 0), (5, .int 0), (4, .int 1), (9, .int 1), (7, .int 0), (0, .ref h0), (1, .int 0), (2, .int 1), (3, .int 1)]) dX12_cheapest_238 4 rfl (by decide +kernel) (by decide) rfl ?_
        refine V_goto 241 B 149 dX12_cheapest_241 (by decide) ?_
        refine V_iload 149 B dX12_cheapest_149 0 rfl ?_
        refine V_iload_n 151 B dX12_cheapest_151 8 rfl ?_
        refine V_iconst 152 B (v := 1) dX12_cheapest_152 (by decide +kernel) ?_
        refine V_icmp_ne_f 153 B 160 dX12_cheapest_153 (by decide) (by decide +kernel) ?_
        refine V_iconst 156 B (v := 1) dX12_cheapest_156 (by decide +kernel) ?_
        refine V_goto 157 B 163 dX12_cheapest_157 (by decide) ?_
        refine V_icmp_ge_t 163 B 244 dX12_cheapest_163 (by decide) (by decide +kernel) ?_
        refine V_iinc 244 B (v := 1) (lv2 := [(7, .int 1), (8, .int 1), (6, .int 0), (5, .int 0), (4, .int 1), (9, .int 1), (0, .ref h0), (1, .int 0), (2, .int 1), (3, .int 1)]) dX12_cheapest_244 5 rfl (by decide +kernel) (by decide) rfl ?_
        refine V_goto 247 B 138 dX12_cheapest_247 (by decide) ?_
        refine V_ws [(h0, oC 13 [.ref h1, .ref g0, .int 0, .ref g1, .ref g2, .int 0, .int 0, .int 0, .int (-1), .int 0, .int 0, .int 0, .long 0, .ref g3, .ref g4, .int 0, .int 0]), (h1, aI Y 3640 (upd (upd (upd (clB 0 (fun _ => 0)) 3629 1) 3630 (pickf 0 (fun j => simF (nI j)) (0 + 1))) 3631 0))] (by rw [upd4 (by decide), show (pickf 0 (fun j => simF (nI j)) (0 + 1)) = 0 from sim0]) ?_
        refine V_lv [(7, .int (nI (0 + 1))), (6, .int 0), (5, .int 0), (4, .int (pick 1000000 1 (0 + 1))), (0, .ref h0), (1, .int 0), (2, .int 1), (3, .int 1)] [0, 2, 3, 4, 6, 7, 8, 9] rfl ?_
        exact IHA () trivial
      ·
        refine V_lv [(7, .int (nI iA)), (6, .int 0), (5, .int 0), (4, .int 1), (0, .ref h0), (1, .int 0), (2, .int 1), (3, .int 1)] [0, 1, 2, 3, 4, 5, 6, 7] (by rw [show (pick 1000000 1 iA) = 1 from pick_pos k4]; rfl) ?_
        refine V_iconst 146 B (v := 0) dX12_cheapest_146 (by decide +kernel) ?_
        refine V_istore 147 B (lv2 := [(8, .int 0), (7, .int (nI iA)), (6, .int 0), (5, .int 0), (4, .int 1), (0, .ref h0), (1, .int 0), (2, .int 1), (3, .int 1)]) dX12_cheapest_147 (by decide) rfl ?_
        refine V_iload 149 B dX12_cheapest_149 0 rfl ?_
        refine V_iload_n 151 B dX12_cheapest_151 7 rfl ?_
        refine V_iconst 152 B (v := 1) dX12_cheapest_152 (by decide +kernel) ?_
        refine V_icmp_ne_f 153 B 160 dX12_cheapest_153 (by decide) (by decide +kernel) ?_
        refine V_iconst 156 B (v := 1) dX12_cheapest_156 (by decide +kernel) ?_
        refine V_goto 157 B 163 dX12_cheapest_157 (by decide) ?_
        refine V_icmp_ge_f 163 B 244 dX12_cheapest_163 (by decide) (by decide +kernel) ?_
        refine V_aload_n 166 B dX12_cheapest_166 5 rfl ?_
        refine V_get 167 B gf_RX12_9 0 rfl rfl dX12_cheapest_167 ?_
        refine V_sipush 170 B (v := 3630) dX12_cheapest_170 (by decide +kernel) ?_
        refine V_iload 173 B dX12_cheapest_173 1 rfl ?_
        refine V_csi 175 B (st := [.int 3630, .ref h1]) (As := [.int (nI iA)]) (fun sz => mX12_simpleStroke_simF l D Y ((nI iA)) sz) glS_RX12_181 ⟨rfl, rfl⟩ ⟨(Nat.le_of_ble_eq_true rfl), (Nat.le_of_ble_eq_true rfl)⟩ ⟨(Nat.le_of_ble_eq_true rfl), (Nat.le_of_ble_eq_true rfl)⟩ [] rfl rfl (Nat.le_of_ble_eq_true rfl) rfl (fun _ _ _ => rfl) dX12_cheapest_175 (fun r11 u11 w11 => ?_)
        obtain rfl := w11
        refine V_ws [(h0, oC 13 [.ref h1, .ref g0, .int 0, .ref g1, .ref g2, .int 0, .int 0, .int 0, .int (-1), .int 0, .int 0, .int 0, .long 0, .ref g3, .ref g4, .int 0, .int 0]), (h1, aI Y 3640 (upd (upd (upd (clB 0 (fun _ => 0)) 3629 1) 3630 (pickf 0 (fun j => simF (nI j)) iA)) 3631 0))] rfl ?_
        refine V_iast 178 B 1 rfl (vpin _ _ (by decide +kernel)) dX12_cheapest_178 [(h0, oC 13 [.ref h1, .ref g0, .int 0, .ref g1, .ref g2, .int 0, .int 0, .int 0, .int (-1), .int 0, .int 0, .int 0, .long 0, .ref g3, .ref g4, .int 0, .int 0]), (h1, aI Y 3640 (upd (upd (upd (upd (clB 0 (fun _ => 0)) 3629 1) 3630 (pickf 0 (fun j => simF (nI j)) iA)) 3631 0) 3630 (simF (nI iA))))] rfl ?_
        refine V_aload_n 179 B dX12_cheapest_179 5 rfl ?_
        refine V_get 180 B gf_RX12_9 0 rfl rfl dX12_cheapest_180 ?_
        refine V_sipush 183 B (v := 3631) dX12_cheapest_183 (by decide +kernel) ?_
        refine V_iload 186 B dX12_cheapest_186 0 rfl ?_
        refine V_csi 188 B (st := [.int 3631, .ref h1]) (As := [.int 0]) (fun sz => mX12_simpleStroke_2 l D Y  sz) glS_RX12_181 ⟨rfl, rfl⟩ ⟨(Nat.le_of_ble_eq_true rfl), (Nat.le_of_ble_eq_true rfl)⟩ ⟨(Nat.le_of_ble_eq_true rfl), (Nat.le_of_ble_eq_true rfl)⟩ [] rfl rfl (Nat.le_of_ble_eq_true rfl) rfl (fun _ _ _ => rfl) dX12_cheapest_188 (fun r12 u12 w12 => ?_)
        obtain rfl := w12
        refine V_ws [(h0, oC 13 [.ref h1, .ref g0, .int 0, .ref g1, .ref g2, .int 0, .int 0, .int 0, .int (-1), .int 0, .int 0, .int 0, .long 0, .ref g3, .ref g4, .int 0, .int 0]), (h1, aI Y 3640 (upd (upd (upd (upd (clB 0 (fun _ => 0)) 3629 1) 3630 (pickf 0 (fun j => simF (nI j)) iA)) 3631 0) 3630 (simF (nI iA))))] rfl ?_
        refine V_iast 191 B 1 rfl (vpin _ _ (by decide +kernel)) dX12_cheapest_191 [(h0, oC 13 [.ref h1, .ref g0, .int 0, .ref g1, .ref g2, .int 0, .int 0, .int 0, .int (-1), .int 0, .int 0, .int 0, .long 0, .ref g3, .ref g4, .int 0, .int 0]), (h1, aI Y 3640 (upd (upd (upd (upd (upd (clB 0 (fun _ => 0)) 3629 1) 3630 (pickf 0 (fun j => simF (nI j)) iA)) 3631 0) 3630 (simF (nI iA))) 3631 0))] rfl ?_
        refine V_aload_n 192 B dX12_cheapest_192 5 rfl ?_
        refine V_sipush 193 B (v := 3629) dX12_cheapest_193 (by decide +kernel) ?_
        refine V_cvi 196 B (st := []) (As := [.int 3629]) (fun sz => mX12_costOf_s18 l D Y (h0) (h1) (g0) (g1) (g2) (g3) (g4) ((pickf 0 (fun j => simF (nI j)) iA)) ((simF (nI iA))) ((h5_sim hiA)) sz) glV_RX12_76 ⟨rfl, rfl⟩ ⟨(Nat.le_of_ble_eq_true rfl), (Nat.le_of_ble_eq_true rfl)⟩ ⟨(Nat.le_of_ble_eq_true rfl), (Nat.le_of_ble_eq_true rfl)⟩ [0, 0] rfl 13 0 rfl rfl rfl rfl (Nat.le_of_ble_eq_true rfl) rfl (fun _ _ _ => rfl) dX12_cheapest_196 (fun r13 u13 w13 => ?_)
        obtain rfl := w13
        refine V_ws [(h0, oC 13 [.ref h1, .ref g0, .int 0, .ref g1, .ref g2, .int 0, .int 0, .int 0, .int (-1), .int 0, .int 0, .int 0, .long 0, .ref g3, .ref g4, .int 0, .int 0]), (h1, aI Y 3640 (upd (upd (upd (upd (upd (clB 0 (fun _ => 0)) 3629 1) 3630 (pickf 0 (fun j => simF (nI j)) iA)) 3631 0) 3630 (simF (nI iA))) 3631 0))] rfl ?_
        refine V_istore 199 B (lv2 := [(9, .int (scoF (simF (nI iA)))), (8, .int 0), (7, .int (nI iA)), (6, .int 0), (5, .int 0), (4, .int 1), (0, .ref h0), (1, .int 0), (2, .int 1), (3, .int 1)]) dX12_cheapest_199 (by decide) rfl ?_
        refine V_iload 201 B dX12_cheapest_201 0 rfl ?_
        refine V_iload 203 B dX12_cheapest_203 5 rfl ?_
        refine V_icmp_ge_t 205 B 238 dX12_cheapest_205 (by decide) (q_ge (sco1 hiA) (by decide +kernel)) ?_
        refine V_iinc 238 B (v := 1) (lv2 := [(8, .int 1), (9, .int (scoF (simF (nI iA)))), (7, .int (nI iA)), (6, .int 0), (5, .int 0), (4, .int 1), (0, .ref h0), (1, .int 0), (2, .int 1), (3, .int 1)]) dX12_cheapest_238 1 rfl (by decide +kernel) (by decide) rfl ?_
        refine V_goto 241 B 149 dX12_cheapest_241 (by decide) ?_
        refine V_iload 149 B dX12_cheapest_149 0 rfl ?_
        refine V_iload_n 151 B dX12_cheapest_151 8 rfl ?_
        refine V_iconst 152 B (v := 1) dX12_cheapest_152 (by decide +kernel) ?_
        refine V_icmp_ne_f 153 B 160 dX12_cheapest_153 (by decide) (by decide +kernel) ?_
        refine V_iconst 156 B (v := 1) dX12_cheapest_156 (by decide +kernel) ?_
        refine V_goto 157 B 163 dX12_cheapest_157 (by decide) ?_
        refine V_icmp_ge_t 163 B 244 dX12_cheapest_163 (by decide) (by decide +kernel) ?_
        refine V_iinc 244 B (v := (nI (iA + 1))) (lv2 := [(7, .int (nI (iA + 1))), (8, .int 1), (9, .int (scoF (simF (nI iA)))), (6, .int 0), (5, .int 0), (4, .int 1), (0, .ref h0), (1, .int 0), (2, .int 1), (3, .int 1)]) dX12_cheapest_244 2 rfl (nI_1 _) (by decide) rfl ?_
        refine V_goto 247 B 138 dX12_cheapest_247 (by decide) ?_
        refine V_ws [(h0, oC 13 [.ref h1, .ref g0, .int 0, .ref g1, .ref g2, .int 0, .int 0, .int 0, .int (-1), .int 0, .int 0, .int 0, .long 0, .ref g3, .ref g4, .int 0, .int 0]), (h1, aI Y 3640 (upd (upd (upd (clB 0 (fun _ => 0)) 3629 1) 3630 (pickf 0 (fun j => simF (nI j)) (iA + 1))) 3631 0))] (by rw [upd4 (by decide), show (pickf 0 (fun j => simF (nI j)) (iA + 1)) = simF (nI iA) from rfl]) ?_
        refine V_lv [(7, .int (nI (iA + 1))), (6, .int 0), (5, .int 0), (4, .int (pick 1000000 1 (iA + 1))), (0, .ref h0), (1, .int 0), (2, .int 1), (3, .int 1)] [0, 3, 4, 5, 6, 7, 8, 9] rfl ?_
        exact IHA () trivial
    ·
      refine V_lv [(7, .int 130), (6, .int 0), (5, .int 0), (4, .int 1), (0, .ref h0), (1, .int 0), (2, .int 1), (3, .int 1)] [0, 1, 2, 3, 4, 5, 6, 7] rfl ?_
      refine V_ws [(h0, oC 13 [.ref h1, .ref g0, .int 0, .ref g1, .ref g2, .int 0, .int 0, .int 0, .int (-1), .int 0, .int 0, .int 0, .long 0, .ref g3, .ref g4, .int 0, .int 0]), (h1, aI Y 3640 (upd (upd (upd (clB 0 (fun _ => 0)) 3629 1) 3630 281) 3631 0))] (by rw [show (pickf 0 (fun j => simF (nI j)) 130) = 281 from sim129]) ?_
      refine V_iload 138 B dX12_cheapest_138 0 rfl ?_
      refine V_sipush 140 B (v := 130) dX12_cheapest_140 (by decide +kernel) ?_
      refine V_icmp_ge_t 143 B 250 dX12_cheapest_143 (by decide) (by decide +kernel) ?_
      refine V_iload 250 B dX12_cheapest_250 3 rfl ?_
      refine V_ldc 252 B (v := 1000000) dX12_cheapest_252 (mT9 29 rfl rfl) ?_
      refine V_icmp_ne_t 254 B 259 dX12_cheapest_254 (by decide) (by decide +kernel) ?_
      refine V_aload_n 259 B dX12_cheapest_259 4 rfl ?_
      refine V_get 260 B gf_RX12_9 0 rfl rfl dX12_cheapest_260 ?_
      refine V_sipush 263 B (v := 3624) dX12_cheapest_263 (by decide +kernel) ?_
      refine V_iload_n 266 B dX12_cheapest_266 6 rfl ?_
      refine V_iast 267 B 1 rfl (vpin _ _ (by decide +kernel)) dX12_cheapest_267 [(h0, oC 13 [.ref h1, .ref g0, .int 0, .ref g1, .ref g2, .int 0, .int 0, .int 0, .int (-1), .int 0, .int 0, .int 0, .long 0, .ref g3, .ref g4, .int 0, .int 0]), (h1, aI Y 3640 (upd (upd (upd (upd (clB 0 (fun _ => 0)) 3629 1) 3630 281) 3631 0) 3624 1))] rfl ?_
      refine V_aload_n 268 B dX12_cheapest_268 4 rfl ?_
      refine V_get 269 B gf_RX12_9 0 rfl rfl dX12_cheapest_269 ?_
      refine V_sipush 272 B (v := 3625) dX12_cheapest_272 (by decide +kernel) ?_
      refine V_iload 275 B dX12_cheapest_275 2 rfl ?_
      refine V_iast 277 B 1 rfl (vpin _ _ (by decide +kernel)) dX12_cheapest_277 [(h0, oC 13 [.ref h1, .ref g0, .int 0, .ref g1, .ref g2, .int 0, .int 0, .int 0, .int (-1), .int 0, .int 0, .int 0, .long 0, .ref g3, .ref g4, .int 0, .int 0]), (h1, aI Y 3640 (upd (upd (upd (upd (upd (clB 0 (fun _ => 0)) 3629 1) 3630 281) 3631 0) 3624 1) 3625 0))] rfl ?_
      refine V_aload_n 278 B dX12_cheapest_278 4 rfl ?_
      refine V_get 279 B gf_RX12_9 0 rfl rfl dX12_cheapest_279 ?_
      refine V_sipush 282 B (v := 3626) dX12_cheapest_282 (by decide +kernel) ?_
      refine V_iload 285 B dX12_cheapest_285 1 rfl ?_
      refine V_iast 287 B 1 rfl (vpin _ _ (by decide +kernel)) dX12_cheapest_287 [(h0, oC 13 [.ref h1, .ref g0, .int 0, .ref g1, .ref g2, .int 0, .int 0, .int 0, .int (-1), .int 0, .int 0, .int 0, .long 0, .ref g3, .ref g4, .int 0, .int 0]), (h1, aI Y 3640 (upd (upd (upd (upd (upd (upd (clB 0 (fun _ => 0)) 3629 1) 3630 281) 3631 0) 3624 1) 3625 0) 3626 0))] rfl ?_
      refine V_iload 288 B dX12_cheapest_288 3 rfl ?_
      exact V_iret 290 B dX12_cheapest_290 () rfl rfl)
theorem dL_law_2126 : decode cL_law 2126 = .ok (.aload_n 1, 1) := by decide +kernel
theorem dL_law_2127 : decode cL_law 2127 = .ok (.aload_n 0, 1) := by decide +kernel
theorem dL_law_2128 : decode cL_law 2128 = .ok (.iload 4, 2) := by decide +kernel
theorem dL_law_2130 : decode cL_law 2130 = .ok (.iconst 1, 1) := by decide +kernel
theorem dL_law_2131 : decode cL_law 2131 = .ok (.iadd, 1) := by decide +kernel
theorem dL_law_2132 : decode cL_law 2132 = .ok (.iaload, 1) := by decide +kernel
theorem dL_law_2133 : decode cL_law 2133 = .ok (.aload_n 0, 1) := by decide +kernel
theorem dL_law_2134 : decode cL_law 2134 = .ok (.iload 4, 2) := by decide +kernel
theorem dL_law_2136 : decode cL_law 2136 = .ok (.iconst 2, 1) := by decide +kernel
theorem dL_law_2137 : decode cL_law 2137 = .ok (.iadd, 1) := by decide +kernel
theorem dL_law_2138 : decode cL_law 2138 = .ok (.iaload, 1) := by decide +kernel
theorem dL_law_2139 : decode cL_law 2139 = .ok (.aload_n 0, 1) := by decide +kernel
theorem dL_law_2140 : decode cL_law 2140 = .ok (.iload 4, 2) := by decide +kernel
theorem dL_law_2142 : decode cL_law 2142 = .ok (.iconst 3, 1) := by decide +kernel
theorem dL_law_2143 : decode cL_law 2143 = .ok (.iadd, 1) := by decide +kernel
theorem dL_law_2144 : decode cL_law 2144 = .ok (.iaload, 1) := by decide +kernel
theorem dL_law_2145 : decode cL_law 2145 = .ok (.ifCond .eq 7, 3) := by decide +kernel
theorem dL_law_2152 : decode cL_law 2152 = .ok (.iconst 0, 1) := by decide +kernel
theorem dL_law_2153 : decode cL_law 2153 = .ok (.aload_n 3, 1) := by decide +kernel
theorem dL_law_2154 : decode cL_law 2154 = .ok (.invokestatic 277, 3) := by decide +kernel
theorem glH_RL_277 : GLH RL 277 yL_cheapest cL_cheapest 6 (some .int) [(0, 12, 15, 18), (0, 12, 19, 13)] 5 := ⟨⟨(mT6 169 rfl rfl), (mT6 170 rfl rfl), (mT1 0 rfl rfl), (mT6 171 rfl rfl)⟩, by decide +kernel⟩
theorem dL_law_2157 : decode cL_law 2157 = .ok (.istore 5, 2) := by decide +kernel
theorem dL_law_2159 : decode cL_law 2159 = .ok (.aload_n 2, 1) := by decide +kernel
theorem dL_law_2160 : decode cL_law 2160 = .ok (.aload_n 0, 1) := by decide +kernel
theorem dL_law_2161 : decode cL_law 2161 = .ok (.iload 4, 2) := by decide +kernel
theorem dL_law_2163 : decode cL_law 2163 = .ok (.iconst 1, 1) := by decide +kernel
theorem dL_law_2164 : decode cL_law 2164 = .ok (.iadd, 1) := by decide +kernel
theorem dL_law_2165 : decode cL_law 2165 = .ok (.iaload, 1) := by decide +kernel
theorem dL_law_2166 : decode cL_law 2166 = .ok (.aload_n 0, 1) := by decide +kernel
theorem dL_law_2167 : decode cL_law 2167 = .ok (.iload 4, 2) := by decide +kernel
theorem dL_law_2169 : decode cL_law 2169 = .ok (.iconst 2, 1) := by decide +kernel
theorem dL_law_2170 : decode cL_law 2170 = .ok (.iadd, 1) := by decide +kernel
theorem dL_law_2171 : decode cL_law 2171 = .ok (.iaload, 1) := by decide +kernel
theorem dL_law_2172 : decode cL_law 2172 = .ok (.aload_n 0, 1) := by decide +kernel
theorem dL_law_2173 : decode cL_law 2173 = .ok (.iload 4, 2) := by decide +kernel
theorem dL_law_2175 : decode cL_law 2175 = .ok (.iconst 3, 1) := by decide +kernel
theorem dL_law_2176 : decode cL_law 2176 = .ok (.iadd, 1) := by decide +kernel
theorem dL_law_2177 : decode cL_law 2177 = .ok (.iaload, 1) := by decide +kernel
theorem dL_law_2178 : decode cL_law 2178 = .ok (.ifCond .eq 7, 3) := by decide +kernel
theorem dL_law_2185 : decode cL_law 2185 = .ok (.iconst 0, 1) := by decide +kernel
theorem dL_law_2186 : decode cL_law 2186 = .ok (.invokevirtual 280, 3) := by decide +kernel
theorem glV_RL_280 : GLV RL 280 yX12_cheapest RX12 cX12_cheapest 10 (some .int) 3 := ⟨⟨(mT9 25 rfl rfl), (mT9 26 rfl rfl), (mT9 27 rfl rfl), (mT1 13 rfl rfl), (mT9 28 rfl rfl)⟩, by decide +kernel⟩
theorem dL_law_2189 : decode cL_law 2189 = .ok (.istore 6, 2) := by decide +kernel
theorem dL_law_2191 : decode cL_law 2191 = .ok (.aload_n 2, 1) := by decide +kernel
theorem dL_law_2192 : decode cL_law 2192 = .ok (.invokevirtual 182, 3) := by decide +kernel
theorem dL_law_2195 : decode cL_law 2195 = .ok (.iload 5, 2) := by decide +kernel
theorem dL_law_2197 : decode cL_law 2197 = .ok (.if_icmp .eq 5, 3) := by decide +kernel
theorem dL_law_2202 : decode cL_law 2202 = .ok (.iload 5, 2) := by decide +kernel
theorem dL_law_2204 : decode cL_law 2204 = .ok (.ifCond .ne 15, 3) := by decide +kernel
theorem dL_law_2219 : decode cL_law 2219 = .ok (.goto 1113, 3) := by decide +kernel
theorem dL_law_2207 : decode cL_law 2207 = .ok (.aload_n 3, 1) := by decide +kernel
theorem dL_law_2208 : decode cL_law 2208 = .ok (.iconst 0, 1) := by decide +kernel
theorem dL_law_2209 : decode cL_law 2209 = .ok (.laload, 1) := by decide +kernel
theorem dL_law_2210 : decode cL_law 2210 = .ok (.iload 6, 2) := by decide +kernel
theorem dL_law_2212 : decode cL_law 2212 = .ok (.i2l, 1) := by decide +kernel
theorem dL_law_2213 : decode cL_law 2213 = .ok (.lcmp, 1) := by decide +kernel
theorem dL_law_2214 : decode cL_law 2214 = .ok (.ifCond .eq 5, 3) := by decide +kernel
theorem dL_law_2148 : decode cL_law 2148 = .ok (.iconst 1, 1) := by decide +kernel
theorem dL_law_2149 : decode cL_law 2149 = .ok (.goto 4, 3) := by decide +kernel
theorem dL_law_2181 : decode cL_law 2181 = .ok (.iconst 1, 1) := by decide +kernel
theorem dL_law_2182 : decode cL_law 2182 = .ok (.goto 4, 3) := by decide +kernel
set_option maxRecDepth 100000 in
set_option maxHeartbeats 4000000 in
theorem law_c36 {p : Program} {l : Launch} {e : Env} {s : State} {m : MethodId} {below : List Frame} {meth : Method} {c : Code} {b : Nat} {xs : Nat → Int32} {D : va_G} {Y : Nat → ClassId} (B : VB p s m #[Value.ref b] meth c D Y (fun q => s.heap.size ≤ q) cL_law 8 RL ret) (EB : EX (fun q => s.heap.size ≤ q) s s.heap) (hl9 : l.stackTraces = false) (hX : va_X b 6 xs s s.heap) (hbl : b < s.heap.size) (hbA : ¬ (fun q => s.heap.size ≤ q) b) (x0 x1 x30 x59 x88 x117 x126 x127 x129 x132 x2 x4 x6 x8 x10 x12 x14 x16 x18 x20 x27 x3 x11 x13 x118 x120 x122 x124 x123 m0 m1 m2 m3 m4 m5 m6 o0 : Nat) (p1 p2 p3 : Int32) (e1 : xs 1 = p1) (e2 : xs 2 = p2) (e3 : xs 3 = p3) : V p l e room_1 s m #[Value.ref b] below meth c D (fun q => s.heap.size ≤ q) 8 149 10574 (lw_Z below #[Value.ref b] s) 2126 [(4, .int 0), (3, .ref o0), (2, .ref m0), (1, .ref x0), (0, .ref b)] [] [(x0, oC 12 [.ref x1, .ref x30, .ref x59, .ref x88, .ref x117, .ref x126, .ref x127, .ref x129, .ref x132, .long 0]), (x1, oC 2 [.ref x2, .ref x4, .ref x6, .ref x8, .ref x10, .ref x12, .ref x14, .ref x16, .ref x18, .ref x20, .ref x27, .int 0]), (x2, oC 3 [.ref x3, .int 1]), (x3, aI Y 6 (upd (fun _ => 0) 0 (-1))), (x10, oC 7 [.ref x11, .int 0]), (x11, aJ Y 6 (fun _ => 0)), (x12, oC 3 [.ref x13, .int 0]), (x117, oC 11 [.ref x1, .ref x118, .ref x120, .ref x122, .ref x124]), (x122, oC 7 [.ref x123, .int 0]), (x123, aJ Y 86 (fun _ => 0)), (m0, oC 13 [.ref m1, .ref m2, .int 0, .ref m3, .ref m4, .int 0, .int 0, .int 0, .int (-1), .int 0, .int 0, .int 0, .long 0, .ref m5, .ref m6, .int 0, .int 0]), (m1, aI Y 3640 (clB 0 (fun _ => 0))), (o0, aJ Y 1 (fun _ => 0))] := by
  refine V_aload_n 2126 B dL_law_2126 3 rfl ?_
  refine V_aload_n 2127 B dL_law_2127 4 rfl ?_
  refine V_iload 2128 B dL_law_2128 0 rfl ?_
  refine V_iconst 2130 B (v := 1) dL_law_2130 (by decide +kernel) ?_
  refine V_iadd 2131 B (v := 1) dL_law_2131 (by decide +kernel) ?_
  refine V_sld 2132 B hX hbl hbA (v := p1) (vpin _ _ (by decide +kernel)) dL_law_2132 e1 ?_
  refine V_aload_n 2133 B dL_law_2133 4 rfl ?_
  refine V_iload 2134 B dL_law_2134 0 rfl ?_
  refine V_iconst 2136 B (v := 2) dL_law_2136 (by decide +kernel) ?_
  refine V_iadd 2137 B (v := 2) dL_law_2137 (by decide +kernel) ?_
  refine V_sld 2138 B hX hbl hbA (v := p2) (vpin _ _ (by decide +kernel)) dL_law_2138 e2 ?_
  refine V_aload_n 2139 B dL_law_2139 4 rfl ?_
  refine V_iload 2140 B dL_law_2140 0 rfl ?_
  refine V_iconst 2142 B (v := 3) dL_law_2142 (by decide +kernel) ?_
  refine V_iadd 2143 B (v := 3) dL_law_2143 (by decide +kernel) ?_
  refine V_sld 2144 B hX hbl hbA (v := p3) (vpin _ _ (by decide +kernel)) dL_law_2144 e3 ?_
  refine V_if_eq 2145 B 2152 dL_law_2145 (by decide) (fun k0 => ?_) (fun k0 => ?_)
  ·
    obtain rfl : p3 = 0 := k0
    refine V_iconst 2152 B (v := 0) dL_law_2152 (by decide +kernel) ?_
    refine V_aload_n 2153 B dL_law_2153 1 rfl ?_
    refine V_hsi 2154 B EB (st := []) (As := [.ref x0, .int p1, .int p2, .int 0, .ref o0]) (fun sz => mL_cheapest_1 l hl9 D Y (x0) (o0) (x1) (x30) (x59) (x88) (x117) (x126) (x127) (x129) (x132) (x2) (x4) (x6) (x8) (x10) (x12) (x14) (x16) (x18) (x20) (x27) (x3) (x11) (x13) (x118) (x120) (x122) (x124) (x123) (p1) (p2) sz) glH_RL_277 ⟨rfl, rfl⟩ ⟨(Nat.le_of_ble_eq_true rfl), (Nat.le_of_ble_eq_true rfl)⟩ ⟨(Nat.le_of_ble_eq_true rfl), (Nat.le_of_ble_eq_true rfl)⟩ [0, 0, 0, 0, 0, 0, 0, 0, 0, 0, 2] rfl rfl (Nat.le_of_ble_eq_true rfl) rfl (fun _ u _ => by
        first | rfl | (split <;> rfl) | (dsimp only; split <;> rfl)) dL_law_2154 (fun r1 u1 w1 => ?_)
    rcases w1 with ⟨rfl, k2, rfl⟩ | ⟨rfl, k3, k4, rfl⟩ | ⟨rfl, k5, k6, rfl⟩ | ⟨rfl, k7, k8, k9, rfl⟩ | ⟨rfl, k10, k11, k12, k13, rfl⟩ | ⟨rfl, k14, k15, rfl⟩
    ·
      refine V_ws [(x0, oC 12 [.ref x1, .ref x30, .ref x59, .ref x88, .ref x117, .ref x126, .ref x127, .ref x129, .ref x132, .long 0]), (x1, oC 2 [.ref x2, .ref x4, .ref x6, .ref x8, .ref x10, .ref x12, .ref x14, .ref x16, .ref x18, .ref x20, .ref x27, .int 0]), (x2, oC 3 [.ref x3, .int 1]), (x3, aI Y 6 (upd (fun _ => 0) 0 (-1))), (x10, oC 7 [.ref x11, .int 0]), (x11, aJ Y 6 (fun _ => 0)), (x12, oC 3 [.ref x13, .int 0]), (x117, oC 11 [.ref x1, .ref x118, .ref x120, .ref x122, .ref x124]), (x122, oC 7 [.ref x123, .int 0]), (x123, aJ Y 86 (fun _ => 0)), (m0, oC 13 [.ref m1, .ref m2, .int 0, .ref m3, .ref m4, .int 0, .int 0, .int 0, .int (-1), .int 0, .int 0, .int 0, .long 0, .ref m5, .ref m6, .int 0, .int 0]), (m1, aI Y 3640 (clB 0 (fun _ => 0))), (o0, aJ Y 1 (fun _ => 0))] rfl ?_
      refine V_istore 2157 B (lv2 := [(5, .int 1), (4, .int 0), (3, .ref o0), (2, .ref m0), (1, .ref x0), (0, .ref b)]) dL_law_2157 (by decide) rfl ?_
      refine V_aload_n 2159 B dL_law_2159 3 rfl ?_
      refine V_aload_n 2160 B dL_law_2160 5 rfl ?_
      refine V_iload 2161 B dL_law_2161 1 rfl ?_
      refine V_iconst 2163 B (v := 1) dL_law_2163 (by decide +kernel) ?_
      refine V_iadd 2164 B (v := 1) dL_law_2164 (by decide +kernel) ?_
      refine V_sld 2165 B hX hbl hbA (v := p1) (vpin _ _ (by decide +kernel)) dL_law_2165 e1 ?_
      refine V_aload_n 2166 B dL_law_2166 5 rfl ?_
      refine V_iload 2167 B dL_law_2167 1 rfl ?_
      refine V_iconst 2169 B (v := 2) dL_law_2169 (by decide +kernel) ?_
      refine V_iadd 2170 B (v := 2) dL_law_2170 (by decide +kernel) ?_
      refine V_sld 2171 B hX hbl hbA (v := p2) (vpin _ _ (by decide +kernel)) dL_law_2171 e2 ?_
      refine V_aload_n 2172 B dL_law_2172 5 rfl ?_
      refine V_iload 2173 B dL_law_2173 1 rfl ?_
      refine V_iconst 2175 B (v := 3) dL_law_2175 (by decide +kernel) ?_
      refine V_iadd 2176 B (v := 3) dL_law_2176 (by decide +kernel) ?_
      refine V_sld 2177 B hX hbl hbA (v := 0) (vpin _ _ (by decide +kernel)) dL_law_2177 e3 ?_
      refine V_if_eq_t 2178 B 2185 dL_law_2178 (by decide) (by decide +kernel) ?_
      refine V_iconst 2185 B (v := 0) dL_law_2185 (by decide +kernel) ?_
      refine V_cvi 2186 B (st := []) (As := [.int p1, .int p2, .int 0]) (fun sz => mX12_cheapest_2 l D Y (m0) (m1) (m2) (m3) (m4) (m5) (m6) (p1) (p2) sz) glV_RL_280 ⟨rfl, rfl⟩ ⟨(Nat.le_of_ble_eq_true rfl), (Nat.le_of_ble_eq_true rfl)⟩ ⟨(Nat.le_of_ble_eq_true rfl), (Nat.le_of_ble_eq_true rfl)⟩ [10, 0] rfl 13 0 rfl rfl rfl rfl (Nat.le_of_ble_eq_true rfl) rfl (fun _ u _ => by
        first | rfl | (split <;> rfl) | (dsimp only; split <;> rfl)) dL_law_2186 (fun r16 u16 w16 => ?_)
      rcases w16 with ⟨rfl, k17, k18, rfl⟩ | ⟨rfl, k19, k20, rfl⟩ | ⟨rfl, k21, k22, rfl⟩ | ⟨rfl, k23, k24, rfl⟩ | ⟨rfl, k25, rfl⟩ | ⟨rfl, k26, rfl⟩
      ·
        refine V_ws [(x0, oC 12 [.ref x1, .ref x30, .ref x59, .ref x88, .ref x117, .ref x126, .ref x127, .ref x129, .ref x132, .long 0]), (x1, oC 2 [.ref x2, .ref x4, .ref x6, .ref x8, .ref x10, .ref x12, .ref x14, .ref x16, .ref x18, .ref x20, .ref x27, .int 0]), (x2, oC 3 [.ref x3, .int 1]), (x3, aI Y 6 (upd (fun _ => 0) 0 (-1))), (x10, oC 7 [.ref x11, .int 0]), (x11, aJ Y 6 (fun _ => 0)), (x12, oC 3 [.ref x13, .int 0]), (x117, oC 11 [.ref x1, .ref x118, .ref x120, .ref x122, .ref x124]), (x122, oC 7 [.ref x123, .int 0]), (x123, aJ Y 86 (fun _ => 0)), (m0, oC 13 [.ref m1, .ref m2, .int 0, .ref m3, .ref m4, .int 0, .int 0, .int 0, .int (-1), .int 0, .int 0, .int 0, .long 0, .ref m5, .ref m6, .int 0, .int 0]), (m1, aI Y 3640 (upd (upd (upd (upd (upd (upd (clB 0 (fun _ => 0)) 3629 1) 3630 281) 3631 0) 3624 1) 3625 0) 3626 0)), (o0, aJ Y 1 (fun _ => 0))] rfl ?_
        exact absurd k17 (q_neh (b_lt k2 (n := (-1)) (by decide +kernel)) (by decide +kernel))
      ·
        refine V_ws [(x0, oC 12 [.ref x1, .ref x30, .ref x59, .ref x88, .ref x117, .ref x126, .ref x127, .ref x129, .ref x132, .long 0]), (x1, oC 2 [.ref x2, .ref x4, .ref x6, .ref x8, .ref x10, .ref x12, .ref x14, .ref x16, .ref x18, .ref x20, .ref x27, .int 0]), (x2, oC 3 [.ref x3, .int 1]), (x3, aI Y 6 (upd (fun _ => 0) 0 (-1))), (x10, oC 7 [.ref x11, .int 0]), (x11, aJ Y 6 (fun _ => 0)), (x12, oC 3 [.ref x13, .int 0]), (x117, oC 11 [.ref x1, .ref x118, .ref x120, .ref x122, .ref x124]), (x122, oC 7 [.ref x123, .int 0]), (x123, aJ Y 86 (fun _ => 0)), (m0, oC 13 [.ref m1, .ref m2, .int 0, .ref m3, .ref m4, .int 0, .int 0, .int 0, .int (-1), .int 0, .int 0, .int 0, .long 0, .ref m5, .ref m6, .int 0, .int 0]), (m1, aI Y 3640 (upd (upd (upd (upd (upd (upd (clB 0 (fun _ => 0)) 3629 2) 3630 281) 3631 281) 3624 2) 3625 0) 3626 0)), (o0, aJ Y 1 (fun _ => 0))] rfl ?_
        exact absurd k19 (q_neh (b_lt k2 (n := (-1)) (by decide +kernel)) (by decide +kernel))
      ·
        refine V_ws [(x0, oC 12 [.ref x1, .ref x30, .ref x59, .ref x88, .ref x117, .ref x126, .ref x127, .ref x129, .ref x132, .long 0]), (x1, oC 2 [.ref x2, .ref x4, .ref x6, .ref x8, .ref x10, .ref x12, .ref x14, .ref x16, .ref x18, .ref x20, .ref x27, .int 0]), (x2, oC 3 [.ref x3, .int 1]), (x3, aI Y 6 (upd (fun _ => 0) 0 (-1))), (x10, oC 7 [.ref x11, .int 0]), (x11, aJ Y 6 (fun _ => 0)), (x12, oC 3 [.ref x13, .int 0]), (x117, oC 11 [.ref x1, .ref x118, .ref x120, .ref x122, .ref x124]), (x122, oC 7 [.ref x123, .int 0]), (x123, aJ Y 86 (fun _ => 0)), (m0, oC 13 [.ref m1, .ref m2, .int 2, .ref m3, .ref m4, .int 0, .int 0, .int 0, .int (-1), .int 0, .int 0, .int 0, .long 0, .ref m5, .ref m6, .int 0, .int 0]), (m1, aI Y 3640 (clB 0 (fun _ => 0))), (o0, aJ Y 1 (fun _ => 0))] rfl ?_
        exact absurd k21 (q_neh (b_lt k2 (n := (-1)) (by decide +kernel)) (by decide +kernel))
      ·
        refine V_ws [(x0, oC 12 [.ref x1, .ref x30, .ref x59, .ref x88, .ref x117, .ref x126, .ref x127, .ref x129, .ref x132, .long 0]), (x1, oC 2 [.ref x2, .ref x4, .ref x6, .ref x8, .ref x10, .ref x12, .ref x14, .ref x16, .ref x18, .ref x20, .ref x27, .int 0]), (x2, oC 3 [.ref x3, .int 1]), (x3, aI Y 6 (upd (fun _ => 0) 0 (-1))), (x10, oC 7 [.ref x11, .int 0]), (x11, aJ Y 6 (fun _ => 0)), (x12, oC 3 [.ref x13, .int 0]), (x117, oC 11 [.ref x1, .ref x118, .ref x120, .ref x122, .ref x124]), (x122, oC 7 [.ref x123, .int 0]), (x123, aJ Y 86 (fun _ => 0)), (m0, oC 13 [.ref m1, .ref m2, .int 2, .ref m3, .ref m4, .int 0, .int 0, .int 0, .int (-1), .int 0, .int 0, .int 0, .long 0, .ref m5, .ref m6, .int 0, .int 0]), (m1, aI Y 3640 (clB 0 (fun _ => 0))), (o0, aJ Y 1 (fun _ => 0))] rfl ?_
        exact absurd k23 (q_neh (b_lt k2 (n := (-1)) (by decide +kernel)) (by decide +kernel))
      ·
        refine V_ws [(x0, oC 12 [.ref x1, .ref x30, .ref x59, .ref x88, .ref x117, .ref x126, .ref x127, .ref x129, .ref x132, .long 0]), (x1, oC 2 [.ref x2, .ref x4, .ref x6, .ref x8, .ref x10, .ref x12, .ref x14, .ref x16, .ref x18, .ref x20, .ref x27, .int 0]), (x2, oC 3 [.ref x3, .int 1]), (x3, aI Y 6 (upd (fun _ => 0) 0 (-1))), (x10, oC 7 [.ref x11, .int 0]), (x11, aJ Y 6 (fun _ => 0)), (x12, oC 3 [.ref x13, .int 0]), (x117, oC 11 [.ref x1, .ref x118, .ref x120, .ref x122, .ref x124]), (x122, oC 7 [.ref x123, .int 0]), (x123, aJ Y 86 (fun _ => 0)), (m0, oC 13 [.ref m1, .ref m2, .int 1, .ref m3, .ref m4, .int 0, .int 0, .int 0, .int (-1), .int 0, .int 0, .int 0, .long 0, .ref m5, .ref m6, .int 0, .int 0]), (m1, aI Y 3640 (clB 0 (fun _ => 0))), (o0, aJ Y 1 (fun _ => 0))] rfl ?_
        refine V_istore 2189 B (lv2 := [(6, .int 0), (5, .int 1), (4, .int 0), (3, .ref o0), (2, .ref m0), (1, .ref x0), (0, .ref b)]) dL_law_2189 (by decide) rfl ?_
        refine V_aload_n 2191 B dL_law_2191 4 rfl ?_
        refine V_cvi 2192 B (st := []) (As := []) (fun sz => mX12_thrown_2 l D Y (m0) (m1) (m2) (m3) (m4) (m5) (m6) sz) glV_RL_182 ⟨rfl, rfl⟩ ⟨(Nat.le_of_ble_eq_true rfl), (Nat.le_of_ble_eq_true rfl)⟩ ⟨(Nat.le_of_ble_eq_true rfl), (Nat.le_of_ble_eq_true rfl)⟩ [10] rfl 13 0 rfl rfl rfl rfl (Nat.le_of_ble_eq_true rfl) rfl (fun _ _ _ => rfl) dL_law_2192 (fun r27 u27 w27 => ?_)
        obtain rfl := w27
        refine V_ws [(x0, oC 12 [.ref x1, .ref x30, .ref x59, .ref x88, .ref x117, .ref x126, .ref x127, .ref x129, .ref x132, .long 0]), (x1, oC 2 [.ref x2, .ref x4, .ref x6, .ref x8, .ref x10, .ref x12, .ref x14, .ref x16, .ref x18, .ref x20, .ref x27, .int 0]), (x2, oC 3 [.ref x3, .int 1]), (x3, aI Y 6 (upd (fun _ => 0) 0 (-1))), (x10, oC 7 [.ref x11, .int 0]), (x11, aJ Y 6 (fun _ => 0)), (x12, oC 3 [.ref x13, .int 0]), (x117, oC 11 [.ref x1, .ref x118, .ref x120, .ref x122, .ref x124]), (x122, oC 7 [.ref x123, .int 0]), (x123, aJ Y 86 (fun _ => 0)), (m0, oC 13 [.ref m1, .ref m2, .int 1, .ref m3, .ref m4, .int 0, .int 0, .int 0, .int (-1), .int 0, .int 0, .int 0, .long 0, .ref m5, .ref m6, .int 0, .int 0]), (m1, aI Y 3640 (clB 0 (fun _ => 0))), (o0, aJ Y 1 (fun _ => 0))] rfl ?_
        refine V_iload 2195 B dL_law_2195 1 rfl ?_
        refine V_icmp_eq_t 2197 B 2202 dL_law_2197 (by decide) (by decide +kernel) ?_
        refine V_iload 2202 B dL_law_2202 1 rfl ?_
        refine V_if_ne_t 2204 B 2219 dL_law_2204 (by decide) (by decide +kernel) ?_
        refine V_goto 2219 B 3332 dL_law_2219 (by decide) ?_
        refine V_iinc 3332 B (v := 6) (lv2 := [(4, .int 6), (6, .int 0), (5, .int 1), (3, .ref o0), (2, .ref m0), (1, .ref x0), (0, .ref b)]) dL_law_3332 2 rfl (by decide +kernel) (by decide) rfl ?_
        refine V_goto 3335 B 23 dL_law_3335 (by decide) ?_
        refine V_iload 23 B dL_law_23 0 rfl ?_
        refine V_aload_n 25 B dL_law_25 6 rfl ?_
        refine V_slen 26 B hX hbl hbA (v := 6) (by decide +kernel) dL_law_26 ?_
        refine V_bipush 27 B (v := 6) dL_law_27 (by decide +kernel) ?_
        refine V_isub 29 B (v := 0) dL_law_29 (by decide +kernel) ?_
        refine V_icmp_gt_t 30 B 3338 dL_law_30 (by decide) (by decide +kernel) ?_
        exact law_end B (Nat.le_of_ble_eq_true rfl) (Nat.le_of_ble_eq_true rfl) dL_law_3338 dL_law_3339
      ·
        refine V_ws [(x0, oC 12 [.ref x1, .ref x30, .ref x59, .ref x88, .ref x117, .ref x126, .ref x127, .ref x129, .ref x132, .long 0]), (x1, oC 2 [.ref x2, .ref x4, .ref x6, .ref x8, .ref x10, .ref x12, .ref x14, .ref x16, .ref x18, .ref x20, .ref x27, .int 0]), (x2, oC 3 [.ref x3, .int 1]), (x3, aI Y 6 (upd (fun _ => 0) 0 (-1))), (x10, oC 7 [.ref x11, .int 0]), (x11, aJ Y 6 (fun _ => 0)), (x12, oC 3 [.ref x13, .int 0]), (x117, oC 11 [.ref x1, .ref x118, .ref x120, .ref x122, .ref x124]), (x122, oC 7 [.ref x123, .int 0]), (x123, aJ Y 86 (fun _ => 0)), (m0, oC 13 [.ref m1, .ref m2, .int 1, .ref m3, .ref m4, .int 0, .int 0, .int 0, .int (-1), .int 0, .int 0, .int 0, .long 0, .ref m5, .ref m6, .int 0, .int 0]), (m1, aI Y 3640 (clB 0 (fun _ => 0))), (o0, aJ Y 1 (fun _ => 0))] rfl ?_
        exact (q_abs (b_gt k26 (n := 1) (by decide +kernel)) (b_lt k2 (n := (-1)) (by decide +kernel)) (by decide +kernel)).elim
    ·
      refine V_ws [(x0, oC 12 [.ref x1, .ref x30, .ref x59, .ref x88, .ref x117, .ref x126, .ref x127, .ref x129, .ref x132, .long 0]), (x1, oC 2 [.ref x2, .ref x4, .ref x6, .ref x8, .ref x10, .ref x12, .ref x14, .ref x16, .ref x18, .ref x20, .ref x27, .int 0]), (x2, oC 3 [.ref x3, .int 1]), (x3, aI Y 6 (upd (fun _ => 0) 0 (-1))), (x10, oC 7 [.ref x11, .int 0]), (x11, aJ Y 6 (fun _ => 0)), (x12, oC 3 [.ref x13, .int 0]), (x117, oC 11 [.ref x1, .ref x118, .ref x120, .ref x122, .ref x124]), (x122, oC 7 [.ref x123, .int 0]), (x123, aJ Y 86 (fun _ => 0)), (m0, oC 13 [.ref m1, .ref m2, .int 0, .ref m3, .ref m4, .int 0, .int 0, .int 0, .int (-1), .int 0, .int 0, .int 0, .long 0, .ref m5, .ref m6, .int 0, .int 0]), (m1, aI Y 3640 (clB 0 (fun _ => 0))), (o0, aJ Y 1 (fun _ => 0))] rfl ?_
      refine V_istore 2157 B (lv2 := [(5, .int 1), (4, .int 0), (3, .ref o0), (2, .ref m0), (1, .ref x0), (0, .ref b)]) dL_law_2157 (by decide) rfl ?_
      refine V_aload_n 2159 B dL_law_2159 3 rfl ?_
      refine V_aload_n 2160 B dL_law_2160 5 rfl ?_
      refine V_iload 2161 B dL_law_2161 1 rfl ?_
      refine V_iconst 2163 B (v := 1) dL_law_2163 (by decide +kernel) ?_
      refine V_iadd 2164 B (v := 1) dL_law_2164 (by decide +kernel) ?_
      refine V_sld 2165 B hX hbl hbA (v := p1) (vpin _ _ (by decide +kernel)) dL_law_2165 e1 ?_
      refine V_aload_n 2166 B dL_law_2166 5 rfl ?_
      refine V_iload 2167 B dL_law_2167 1 rfl ?_
      refine V_iconst 2169 B (v := 2) dL_law_2169 (by decide +kernel) ?_
      refine V_iadd 2170 B (v := 2) dL_law_2170 (by decide +kernel) ?_
      refine V_sld 2171 B hX hbl hbA (v := p2) (vpin _ _ (by decide +kernel)) dL_law_2171 e2 ?_
      refine V_aload_n 2172 B dL_law_2172 5 rfl ?_
      refine V_iload 2173 B dL_law_2173 1 rfl ?_
      refine V_iconst 2175 B (v := 3) dL_law_2175 (by decide +kernel) ?_
      refine V_iadd 2176 B (v := 3) dL_law_2176 (by decide +kernel) ?_
      refine V_sld 2177 B hX hbl hbA (v := 0) (vpin _ _ (by decide +kernel)) dL_law_2177 e3 ?_
      refine V_if_eq_t 2178 B 2185 dL_law_2178 (by decide) (by decide +kernel) ?_
      refine V_iconst 2185 B (v := 0) dL_law_2185 (by decide +kernel) ?_
      refine V_cvi 2186 B (st := []) (As := [.int p1, .int p2, .int 0]) (fun sz => mX12_cheapest_2 l D Y (m0) (m1) (m2) (m3) (m4) (m5) (m6) (p1) (p2) sz) glV_RL_280 ⟨rfl, rfl⟩ ⟨(Nat.le_of_ble_eq_true rfl), (Nat.le_of_ble_eq_true rfl)⟩ ⟨(Nat.le_of_ble_eq_true rfl), (Nat.le_of_ble_eq_true rfl)⟩ [10, 0] rfl 13 0 rfl rfl rfl rfl (Nat.le_of_ble_eq_true rfl) rfl (fun _ u _ => by
        first | rfl | (split <;> rfl) | (dsimp only; split <;> rfl)) dL_law_2186 (fun r28 u28 w28 => ?_)
      rcases w28 with ⟨rfl, k29, k30, rfl⟩ | ⟨rfl, k31, k32, rfl⟩ | ⟨rfl, k33, k34, rfl⟩ | ⟨rfl, k35, k36, rfl⟩ | ⟨rfl, k37, rfl⟩ | ⟨rfl, k38, rfl⟩
      ·
        refine V_ws [(x0, oC 12 [.ref x1, .ref x30, .ref x59, .ref x88, .ref x117, .ref x126, .ref x127, .ref x129, .ref x132, .long 0]), (x1, oC 2 [.ref x2, .ref x4, .ref x6, .ref x8, .ref x10, .ref x12, .ref x14, .ref x16, .ref x18, .ref x20, .ref x27, .int 0]), (x2, oC 3 [.ref x3, .int 1]), (x3, aI Y 6 (upd (fun _ => 0) 0 (-1))), (x10, oC 7 [.ref x11, .int 0]), (x11, aJ Y 6 (fun _ => 0)), (x12, oC 3 [.ref x13, .int 0]), (x117, oC 11 [.ref x1, .ref x118, .ref x120, .ref x122, .ref x124]), (x122, oC 7 [.ref x123, .int 0]), (x123, aJ Y 86 (fun _ => 0)), (m0, oC 13 [.ref m1, .ref m2, .int 0, .ref m3, .ref m4, .int 0, .int 0, .int 0, .int (-1), .int 0, .int 0, .int 0, .long 0, .ref m5, .ref m6, .int 0, .int 0]), (m1, aI Y 3640 (upd (upd (upd (upd (upd (upd (clB 0 (fun _ => 0)) 3629 1) 3630 281) 3631 0) 3624 1) 3625 0) 3626 0)), (o0, aJ Y 1 (fun _ => 0))] rfl ?_
        exact absurd k29 (q_nel (b_ge k4 (n := 1) (by decide +kernel)) (by decide +kernel))
      ·
        refine V_ws [(x0, oC 12 [.ref x1, .ref x30, .ref x59, .ref x88, .ref x117, .ref x126, .ref x127, .ref x129, .ref x132, .long 0]), (x1, oC 2 [.ref x2, .ref x4, .ref x6, .ref x8, .ref x10, .ref x12, .ref x14, .ref x16, .ref x18, .ref x20, .ref x27, .int 0]), (x2, oC 3 [.ref x3, .int 1]), (x3, aI Y 6 (upd (fun _ => 0) 0 (-1))), (x10, oC 7 [.ref x11, .int 0]), (x11, aJ Y 6 (fun _ => 0)), (x12, oC 3 [.ref x13, .int 0]), (x117, oC 11 [.ref x1, .ref x118, .ref x120, .ref x122, .ref x124]), (x122, oC 7 [.ref x123, .int 0]), (x123, aJ Y 86 (fun _ => 0)), (m0, oC 13 [.ref m1, .ref m2, .int 0, .ref m3, .ref m4, .int 0, .int 0, .int 0, .int (-1), .int 0, .int 0, .int 0, .long 0, .ref m5, .ref m6, .int 0, .int 0]), (m1, aI Y 3640 (upd (upd (upd (upd (upd (upd (clB 0 (fun _ => 0)) 3629 2) 3630 281) 3631 281) 3624 2) 3625 0) 3626 0)), (o0, aJ Y 1 (fun _ => 0))] rfl ?_
        exact absurd k31 (q_nel (b_ge k4 (n := 1) (by decide +kernel)) (by decide +kernel))
      ·
        refine V_ws [(x0, oC 12 [.ref x1, .ref x30, .ref x59, .ref x88, .ref x117, .ref x126, .ref x127, .ref x129, .ref x132, .long 0]), (x1, oC 2 [.ref x2, .ref x4, .ref x6, .ref x8, .ref x10, .ref x12, .ref x14, .ref x16, .ref x18, .ref x20, .ref x27, .int 0]), (x2, oC 3 [.ref x3, .int 1]), (x3, aI Y 6 (upd (fun _ => 0) 0 (-1))), (x10, oC 7 [.ref x11, .int 0]), (x11, aJ Y 6 (fun _ => 0)), (x12, oC 3 [.ref x13, .int 0]), (x117, oC 11 [.ref x1, .ref x118, .ref x120, .ref x122, .ref x124]), (x122, oC 7 [.ref x123, .int 0]), (x123, aJ Y 86 (fun _ => 0)), (m0, oC 13 [.ref m1, .ref m2, .int 2, .ref m3, .ref m4, .int 0, .int 0, .int 0, .int (-1), .int 0, .int 0, .int 0, .long 0, .ref m5, .ref m6, .int 0, .int 0]), (m1, aI Y 3640 (clB 0 (fun _ => 0))), (o0, aJ Y 1 (fun _ => 0))] rfl ?_
        exact absurd k33 (q_nel (b_ge k4 (n := 1) (by decide +kernel)) (by decide +kernel))
      ·
        refine V_ws [(x0, oC 12 [.ref x1, .ref x30, .ref x59, .ref x88, .ref x117, .ref x126, .ref x127, .ref x129, .ref x132, .long 0]), (x1, oC 2 [.ref x2, .ref x4, .ref x6, .ref x8, .ref x10, .ref x12, .ref x14, .ref x16, .ref x18, .ref x20, .ref x27, .int 0]), (x2, oC 3 [.ref x3, .int 1]), (x3, aI Y 6 (upd (fun _ => 0) 0 (-1))), (x10, oC 7 [.ref x11, .int 0]), (x11, aJ Y 6 (fun _ => 0)), (x12, oC 3 [.ref x13, .int 0]), (x117, oC 11 [.ref x1, .ref x118, .ref x120, .ref x122, .ref x124]), (x122, oC 7 [.ref x123, .int 0]), (x123, aJ Y 86 (fun _ => 0)), (m0, oC 13 [.ref m1, .ref m2, .int 2, .ref m3, .ref m4, .int 0, .int 0, .int 0, .int (-1), .int 0, .int 0, .int 0, .long 0, .ref m5, .ref m6, .int 0, .int 0]), (m1, aI Y 3640 (clB 0 (fun _ => 0))), (o0, aJ Y 1 (fun _ => 0))] rfl ?_
        exact absurd k35 (q_nel (b_ge k4 (n := 1) (by decide +kernel)) (by decide +kernel))
      ·
        refine V_ws [(x0, oC 12 [.ref x1, .ref x30, .ref x59, .ref x88, .ref x117, .ref x126, .ref x127, .ref x129, .ref x132, .long 0]), (x1, oC 2 [.ref x2, .ref x4, .ref x6, .ref x8, .ref x10, .ref x12, .ref x14, .ref x16, .ref x18, .ref x20, .ref x27, .int 0]), (x2, oC 3 [.ref x3, .int 1]), (x3, aI Y 6 (upd (fun _ => 0) 0 (-1))), (x10, oC 7 [.ref x11, .int 0]), (x11, aJ Y 6 (fun _ => 0)), (x12, oC 3 [.ref x13, .int 0]), (x117, oC 11 [.ref x1, .ref x118, .ref x120, .ref x122, .ref x124]), (x122, oC 7 [.ref x123, .int 0]), (x123, aJ Y 86 (fun _ => 0)), (m0, oC 13 [.ref m1, .ref m2, .int 1, .ref m3, .ref m4, .int 0, .int 0, .int 0, .int (-1), .int 0, .int 0, .int 0, .long 0, .ref m5, .ref m6, .int 0, .int 0]), (m1, aI Y 3640 (clB 0 (fun _ => 0))), (o0, aJ Y 1 (fun _ => 0))] rfl ?_
        exact (q_abs (b_ge k4 (n := 1) (by decide +kernel)) (b_lt k37 (n := (-1)) (by decide +kernel)) (by decide +kernel)).elim
      ·
        refine V_ws [(x0, oC 12 [.ref x1, .ref x30, .ref x59, .ref x88, .ref x117, .ref x126, .ref x127, .ref x129, .ref x132, .long 0]), (x1, oC 2 [.ref x2, .ref x4, .ref x6, .ref x8, .ref x10, .ref x12, .ref x14, .ref x16, .ref x18, .ref x20, .ref x27, .int 0]), (x2, oC 3 [.ref x3, .int 1]), (x3, aI Y 6 (upd (fun _ => 0) 0 (-1))), (x10, oC 7 [.ref x11, .int 0]), (x11, aJ Y 6 (fun _ => 0)), (x12, oC 3 [.ref x13, .int 0]), (x117, oC 11 [.ref x1, .ref x118, .ref x120, .ref x122, .ref x124]), (x122, oC 7 [.ref x123, .int 0]), (x123, aJ Y 86 (fun _ => 0)), (m0, oC 13 [.ref m1, .ref m2, .int 1, .ref m3, .ref m4, .int 0, .int 0, .int 0, .int (-1), .int 0, .int 0, .int 0, .long 0, .ref m5, .ref m6, .int 0, .int 0]), (m1, aI Y 3640 (clB 0 (fun _ => 0))), (o0, aJ Y 1 (fun _ => 0))] rfl ?_
        refine V_istore 2189 B (lv2 := [(6, .int 0), (5, .int 1), (4, .int 0), (3, .ref o0), (2, .ref m0), (1, .ref x0), (0, .ref b)]) dL_law_2189 (by decide) rfl ?_
        refine V_aload_n 2191 B dL_law_2191 4 rfl ?_
        refine V_cvi 2192 B (st := []) (As := []) (fun sz => mX12_thrown_2 l D Y (m0) (m1) (m2) (m3) (m4) (m5) (m6) sz) glV_RL_182 ⟨rfl, rfl⟩ ⟨(Nat.le_of_ble_eq_true rfl), (Nat.le_of_ble_eq_true rfl)⟩ ⟨(Nat.le_of_ble_eq_true rfl), (Nat.le_of_ble_eq_true rfl)⟩ [10] rfl 13 0 rfl rfl rfl rfl (Nat.le_of_ble_eq_true rfl) rfl (fun _ _ _ => rfl) dL_law_2192 (fun r39 u39 w39 => ?_)
        obtain rfl := w39
        refine V_ws [(x0, oC 12 [.ref x1, .ref x30, .ref x59, .ref x88, .ref x117, .ref x126, .ref x127, .ref x129, .ref x132, .long 0]), (x1, oC 2 [.ref x2, .ref x4, .ref x6, .ref x8, .ref x10, .ref x12, .ref x14, .ref x16, .ref x18, .ref x20, .ref x27, .int 0]), (x2, oC 3 [.ref x3, .int 1]), (x3, aI Y 6 (upd (fun _ => 0) 0 (-1))), (x10, oC 7 [.ref x11, .int 0]), (x11, aJ Y 6 (fun _ => 0)), (x12, oC 3 [.ref x13, .int 0]), (x117, oC 11 [.ref x1, .ref x118, .ref x120, .ref x122, .ref x124]), (x122, oC 7 [.ref x123, .int 0]), (x123, aJ Y 86 (fun _ => 0)), (m0, oC 13 [.ref m1, .ref m2, .int 1, .ref m3, .ref m4, .int 0, .int 0, .int 0, .int (-1), .int 0, .int 0, .int 0, .long 0, .ref m5, .ref m6, .int 0, .int 0]), (m1, aI Y 3640 (clB 0 (fun _ => 0))), (o0, aJ Y 1 (fun _ => 0))] rfl ?_
        refine V_iload 2195 B dL_law_2195 1 rfl ?_
        refine V_icmp_eq_t 2197 B 2202 dL_law_2197 (by decide) (by decide +kernel) ?_
        refine V_iload 2202 B dL_law_2202 1 rfl ?_
        refine V_if_ne_t 2204 B 2219 dL_law_2204 (by decide) (by decide +kernel) ?_
        refine V_goto 2219 B 3332 dL_law_2219 (by decide) ?_
        refine V_iinc 3332 B (v := 6) (lv2 := [(4, .int 6), (6, .int 0), (5, .int 1), (3, .ref o0), (2, .ref m0), (1, .ref x0), (0, .ref b)]) dL_law_3332 2 rfl (by decide +kernel) (by decide) rfl ?_
        refine V_goto 3335 B 23 dL_law_3335 (by decide) ?_
        refine V_iload 23 B dL_law_23 0 rfl ?_
        refine V_aload_n 25 B dL_law_25 6 rfl ?_
        refine V_slen 26 B hX hbl hbA (v := 6) (by decide +kernel) dL_law_26 ?_
        refine V_bipush 27 B (v := 6) dL_law_27 (by decide +kernel) ?_
        refine V_isub 29 B (v := 0) dL_law_29 (by decide +kernel) ?_
        refine V_icmp_gt_t 30 B 3338 dL_law_30 (by decide) (by decide +kernel) ?_
        exact law_end B (Nat.le_of_ble_eq_true rfl) (Nat.le_of_ble_eq_true rfl) dL_law_3338 dL_law_3339
    ·
      refine V_ws [(x0, oC 12 [.ref x1, .ref x30, .ref x59, .ref x88, .ref x117, .ref x126, .ref x127, .ref x129, .ref x132, .long 0]), (x1, oC 2 [.ref x2, .ref x4, .ref x6, .ref x8, .ref x10, .ref x12, .ref x14, .ref x16, .ref x18, .ref x20, .ref x27, .int 0]), (x2, oC 3 [.ref x3, .int 1]), (x3, aI Y 6 (upd (fun _ => 0) 0 (-1))), (x10, oC 7 [.ref x11, .int 0]), (x11, aJ Y 6 (fun _ => 0)), (x12, oC 3 [.ref x13, .int 0]), (x117, oC 11 [.ref x1, .ref x118, .ref x120, .ref x122, .ref x124]), (x122, oC 7 [.ref x123, .int 0]), (x123, aJ Y 86 (fun _ => 0)), (m0, oC 13 [.ref m1, .ref m2, .int 0, .ref m3, .ref m4, .int 0, .int 0, .int 0, .int (-1), .int 0, .int 0, .int 0, .long 0, .ref m5, .ref m6, .int 0, .int 0]), (m1, aI Y 3640 (clB 0 (fun _ => 0))), (o0, aJ Y 1 (fun _ => 0))] rfl ?_
      obtain rfl : p1 = 0 := k5
      refine V_istore 2157 B (lv2 := [(5, .int 2), (4, .int 0), (3, .ref o0), (2, .ref m0), (1, .ref x0), (0, .ref b)]) dL_law_2157 (by decide) rfl ?_
      refine V_aload_n 2159 B dL_law_2159 3 rfl ?_
      refine V_aload_n 2160 B dL_law_2160 5 rfl ?_
      refine V_iload 2161 B dL_law_2161 1 rfl ?_
      refine V_iconst 2163 B (v := 1) dL_law_2163 (by decide +kernel) ?_
      refine V_iadd 2164 B (v := 1) dL_law_2164 (by decide +kernel) ?_
      refine V_sld 2165 B hX hbl hbA (v := 0) (vpin _ _ (by decide +kernel)) dL_law_2165 e1 ?_
      refine V_aload_n 2166 B dL_law_2166 5 rfl ?_
      refine V_iload 2167 B dL_law_2167 1 rfl ?_
      refine V_iconst 2169 B (v := 2) dL_law_2169 (by decide +kernel) ?_
      refine V_iadd 2170 B (v := 2) dL_law_2170 (by decide +kernel) ?_
      refine V_sld 2171 B hX hbl hbA (v := p2) (vpin _ _ (by decide +kernel)) dL_law_2171 e2 ?_
      refine V_aload_n 2172 B dL_law_2172 5 rfl ?_
      refine V_iload 2173 B dL_law_2173 1 rfl ?_
      refine V_iconst 2175 B (v := 3) dL_law_2175 (by decide +kernel) ?_
      refine V_iadd 2176 B (v := 3) dL_law_2176 (by decide +kernel) ?_
      refine V_sld 2177 B hX hbl hbA (v := 0) (vpin _ _ (by decide +kernel)) dL_law_2177 e3 ?_
      refine V_if_eq_t 2178 B 2185 dL_law_2178 (by decide) (by decide +kernel) ?_
      refine V_iconst 2185 B (v := 0) dL_law_2185 (by decide +kernel) ?_
      refine V_cvi 2186 B (st := []) (As := [.int 0, .int p2, .int 0]) (fun sz => mX12_cheapest_3 l D Y (m0) (m1) (m2) (m3) (m4) (m5) (m6) (p2) sz) glV_RL_280 ⟨rfl, rfl⟩ ⟨(Nat.le_of_ble_eq_true rfl), (Nat.le_of_ble_eq_true rfl)⟩ ⟨(Nat.le_of_ble_eq_true rfl), (Nat.le_of_ble_eq_true rfl)⟩ [10, 0] rfl 13 0 rfl rfl rfl rfl (Nat.le_of_ble_eq_true rfl) rfl (fun _ u _ => by
        first | rfl | (split <;> rfl) | (dsimp only; split <;> rfl)) dL_law_2186 (fun r40 u40 w40 => ?_)
      rcases w40 with ⟨rfl, k41, rfl⟩ | ⟨rfl, k42, rfl⟩ | ⟨rfl, k43, rfl⟩ | ⟨rfl, k44, rfl⟩
      ·
        refine V_ws [(x0, oC 12 [.ref x1, .ref x30, .ref x59, .ref x88, .ref x117, .ref x126, .ref x127, .ref x129, .ref x132, .long 0]), (x1, oC 2 [.ref x2, .ref x4, .ref x6, .ref x8, .ref x10, .ref x12, .ref x14, .ref x16, .ref x18, .ref x20, .ref x27, .int 0]), (x2, oC 3 [.ref x3, .int 1]), (x3, aI Y 6 (upd (fun _ => 0) 0 (-1))), (x10, oC 7 [.ref x11, .int 0]), (x11, aJ Y 6 (fun _ => 0)), (x12, oC 3 [.ref x13, .int 0]), (x117, oC 11 [.ref x1, .ref x118, .ref x120, .ref x122, .ref x124]), (x122, oC 7 [.ref x123, .int 0]), (x123, aJ Y 86 (fun _ => 0)), (m0, oC 13 [.ref m1, .ref m2, .int 0, .ref m3, .ref m4, .int 0, .int 0, .int 0, .int (-1), .int 0, .int 0, .int 0, .long 0, .ref m5, .ref m6, .int 0, .int 0]), (m1, aI Y 3640 (upd (upd (upd (upd (upd (upd (clB 0 (fun _ => 0)) 3629 1) 3630 281) 3631 0) 3624 1) 3625 0) 3626 0)), (o0, aJ Y 1 (fun _ => 0))] rfl ?_
        exact absurd k41 (q_neh (b_lt k6 (n := 0) (by decide +kernel)) (by decide +kernel))
      ·
        refine V_ws [(x0, oC 12 [.ref x1, .ref x30, .ref x59, .ref x88, .ref x117, .ref x126, .ref x127, .ref x129, .ref x132, .long 0]), (x1, oC 2 [.ref x2, .ref x4, .ref x6, .ref x8, .ref x10, .ref x12, .ref x14, .ref x16, .ref x18, .ref x20, .ref x27, .int 0]), (x2, oC 3 [.ref x3, .int 1]), (x3, aI Y 6 (upd (fun _ => 0) 0 (-1))), (x10, oC 7 [.ref x11, .int 0]), (x11, aJ Y 6 (fun _ => 0)), (x12, oC 3 [.ref x13, .int 0]), (x117, oC 11 [.ref x1, .ref x118, .ref x120, .ref x122, .ref x124]), (x122, oC 7 [.ref x123, .int 0]), (x123, aJ Y 86 (fun _ => 0)), (m0, oC 13 [.ref m1, .ref m2, .int 0, .ref m3, .ref m4, .int 0, .int 0, .int 0, .int (-1), .int 0, .int 0, .int 0, .long 0, .ref m5, .ref m6, .int 0, .int 0]), (m1, aI Y 3640 (upd (upd (upd (upd (upd (upd (clB 0 (fun _ => 0)) 3629 2) 3630 281) 3631 281) 3624 2) 3625 0) 3626 0)), (o0, aJ Y 1 (fun _ => 0))] rfl ?_
        exact absurd k42 (q_neh (b_lt k6 (n := 0) (by decide +kernel)) (by decide +kernel))
      ·
        refine V_ws [(x0, oC 12 [.ref x1, .ref x30, .ref x59, .ref x88, .ref x117, .ref x126, .ref x127, .ref x129, .ref x132, .long 0]), (x1, oC 2 [.ref x2, .ref x4, .ref x6, .ref x8, .ref x10, .ref x12, .ref x14, .ref x16, .ref x18, .ref x20, .ref x27, .int 0]), (x2, oC 3 [.ref x3, .int 1]), (x3, aI Y 6 (upd (fun _ => 0) 0 (-1))), (x10, oC 7 [.ref x11, .int 0]), (x11, aJ Y 6 (fun _ => 0)), (x12, oC 3 [.ref x13, .int 0]), (x117, oC 11 [.ref x1, .ref x118, .ref x120, .ref x122, .ref x124]), (x122, oC 7 [.ref x123, .int 0]), (x123, aJ Y 86 (fun _ => 0)), (m0, oC 13 [.ref m1, .ref m2, .int 2, .ref m3, .ref m4, .int 0, .int 0, .int 0, .int (-1), .int 0, .int 0, .int 0, .long 0, .ref m5, .ref m6, .int 0, .int 0]), (m1, aI Y 3640 (clB 0 (fun _ => 0))), (o0, aJ Y 1 (fun _ => 0))] rfl ?_
        refine V_istore 2189 B (lv2 := [(6, .int 0), (5, .int 2), (4, .int 0), (3, .ref o0), (2, .ref m0), (1, .ref x0), (0, .ref b)]) dL_law_2189 (by decide) rfl ?_
        refine V_aload_n 2191 B dL_law_2191 4 rfl ?_
        refine V_cvi 2192 B (st := []) (As := []) (fun sz => mX12_thrown_3 l D Y (m0) (m1) (m2) (m3) (m4) (m5) (m6) sz) glV_RL_182 ⟨rfl, rfl⟩ ⟨(Nat.le_of_ble_eq_true rfl), (Nat.le_of_ble_eq_true rfl)⟩ ⟨(Nat.le_of_ble_eq_true rfl), (Nat.le_of_ble_eq_true rfl)⟩ [10] rfl 13 0 rfl rfl rfl rfl (Nat.le_of_ble_eq_true rfl) rfl (fun _ _ _ => rfl) dL_law_2192 (fun r45 u45 w45 => ?_)
        obtain rfl := w45
        refine V_ws [(x0, oC 12 [.ref x1, .ref x30, .ref x59, .ref x88, .ref x117, .ref x126, .ref x127, .ref x129, .ref x132, .long 0]), (x1, oC 2 [.ref x2, .ref x4, .ref x6, .ref x8, .ref x10, .ref x12, .ref x14, .ref x16, .ref x18, .ref x20, .ref x27, .int 0]), (x2, oC 3 [.ref x3, .int 1]), (x3, aI Y 6 (upd (fun _ => 0) 0 (-1))), (x10, oC 7 [.ref x11, .int 0]), (x11, aJ Y 6 (fun _ => 0)), (x12, oC 3 [.ref x13, .int 0]), (x117, oC 11 [.ref x1, .ref x118, .ref x120, .ref x122, .ref x124]), (x122, oC 7 [.ref x123, .int 0]), (x123, aJ Y 86 (fun _ => 0)), (m0, oC 13 [.ref m1, .ref m2, .int 2, .ref m3, .ref m4, .int 0, .int 0, .int 0, .int (-1), .int 0, .int 0, .int 0, .long 0, .ref m5, .ref m6, .int 0, .int 0]), (m1, aI Y 3640 (clB 0 (fun _ => 0))), (o0, aJ Y 1 (fun _ => 0))] rfl ?_
        refine V_iload 2195 B dL_law_2195 1 rfl ?_
        refine V_icmp_eq_t 2197 B 2202 dL_law_2197 (by decide) (by decide +kernel) ?_
        refine V_iload 2202 B dL_law_2202 1 rfl ?_
        refine V_if_ne_t 2204 B 2219 dL_law_2204 (by decide) (by decide +kernel) ?_
        refine V_goto 2219 B 3332 dL_law_2219 (by decide) ?_
        refine V_iinc 3332 B (v := 6) (lv2 := [(4, .int 6), (6, .int 0), (5, .int 2), (3, .ref o0), (2, .ref m0), (1, .ref x0), (0, .ref b)]) dL_law_3332 2 rfl (by decide +kernel) (by decide) rfl ?_
        refine V_goto 3335 B 23 dL_law_3335 (by decide) ?_
        refine V_iload 23 B dL_law_23 0 rfl ?_
        refine V_aload_n 25 B dL_law_25 6 rfl ?_
        refine V_slen 26 B hX hbl hbA (v := 6) (by decide +kernel) dL_law_26 ?_
        refine V_bipush 27 B (v := 6) dL_law_27 (by decide +kernel) ?_
        refine V_isub 29 B (v := 0) dL_law_29 (by decide +kernel) ?_
        refine V_icmp_gt_t 30 B 3338 dL_law_30 (by decide) (by decide +kernel) ?_
        exact law_end B (Nat.le_of_ble_eq_true rfl) (Nat.le_of_ble_eq_true rfl) dL_law_3338 dL_law_3339
      ·
        refine V_ws [(x0, oC 12 [.ref x1, .ref x30, .ref x59, .ref x88, .ref x117, .ref x126, .ref x127, .ref x129, .ref x132, .long 0]), (x1, oC 2 [.ref x2, .ref x4, .ref x6, .ref x8, .ref x10, .ref x12, .ref x14, .ref x16, .ref x18, .ref x20, .ref x27, .int 0]), (x2, oC 3 [.ref x3, .int 1]), (x3, aI Y 6 (upd (fun _ => 0) 0 (-1))), (x10, oC 7 [.ref x11, .int 0]), (x11, aJ Y 6 (fun _ => 0)), (x12, oC 3 [.ref x13, .int 0]), (x117, oC 11 [.ref x1, .ref x118, .ref x120, .ref x122, .ref x124]), (x122, oC 7 [.ref x123, .int 0]), (x123, aJ Y 86 (fun _ => 0)), (m0, oC 13 [.ref m1, .ref m2, .int 2, .ref m3, .ref m4, .int 0, .int 0, .int 0, .int (-1), .int 0, .int 0, .int 0, .long 0, .ref m5, .ref m6, .int 0, .int 0]), (m1, aI Y 3640 (clB 0 (fun _ => 0))), (o0, aJ Y 1 (fun _ => 0))] rfl ?_
        exact (q_abs (b_gt k44 (n := 3) (by decide +kernel)) (b_lt k6 (n := 0) (by decide +kernel)) (by decide +kernel)).elim
    ·
      refine V_ws [(x0, oC 12 [.ref x1, .ref x30, .ref x59, .ref x88, .ref x117, .ref x126, .ref x127, .ref x129, .ref x132, .long 0]), (x1, oC 2 [.ref x2, .ref x4, .ref x6, .ref x8, .ref x10, .ref x12, .ref x14, .ref x16, .ref x18, .ref x20, .ref x27, .int 0]), (x2, oC 3 [.ref x3, .int 1]), (x3, aI Y 6 (upd (fun _ => 0) 0 (-1))), (x10, oC 7 [.ref x11, .int 0]), (x11, aJ Y 6 (fun _ => 0)), (x12, oC 3 [.ref x13, .int 0]), (x117, oC 11 [.ref x1, .ref x118, .ref x120, .ref x122, .ref x124]), (x122, oC 7 [.ref x123, .int 0]), (x123, aJ Y 86 (fun _ => 0)), (m0, oC 13 [.ref m1, .ref m2, .int 0, .ref m3, .ref m4, .int 0, .int 0, .int 0, .int (-1), .int 0, .int 0, .int 0, .long 0, .ref m5, .ref m6, .int 0, .int 0]), (m1, aI Y 3640 (clB 0 (fun _ => 0))), (o0, aJ Y 1 (fun _ => 0))] rfl ?_
      obtain rfl : p1 = 0 := k7
      refine V_istore 2157 B (lv2 := [(5, .int 2), (4, .int 0), (3, .ref o0), (2, .ref m0), (1, .ref x0), (0, .ref b)]) dL_law_2157 (by decide) rfl ?_
      refine V_aload_n 2159 B dL_law_2159 3 rfl ?_
      refine V_aload_n 2160 B dL_law_2160 5 rfl ?_
      refine V_iload 2161 B dL_law_2161 1 rfl ?_
      refine V_iconst 2163 B (v := 1) dL_law_2163 (by decide +kernel) ?_
      refine V_iadd 2164 B (v := 1) dL_law_2164 (by decide +kernel) ?_
      refine V_sld 2165 B hX hbl hbA (v := 0) (vpin _ _ (by decide +kernel)) dL_law_2165 e1 ?_
      refine V_aload_n 2166 B dL_law_2166 5 rfl ?_
      refine V_iload 2167 B dL_law_2167 1 rfl ?_
      refine V_iconst 2169 B (v := 2) dL_law_2169 (by decide +kernel) ?_
      refine V_iadd 2170 B (v := 2) dL_law_2170 (by decide +kernel) ?_
      refine V_sld 2171 B hX hbl hbA (v := p2) (vpin _ _ (by decide +kernel)) dL_law_2171 e2 ?_
      refine V_aload_n 2172 B dL_law_2172 5 rfl ?_
      refine V_iload 2173 B dL_law_2173 1 rfl ?_
      refine V_iconst 2175 B (v := 3) dL_law_2175 (by decide +kernel) ?_
      refine V_iadd 2176 B (v := 3) dL_law_2176 (by decide +kernel) ?_
      refine V_sld 2177 B hX hbl hbA (v := 0) (vpin _ _ (by decide +kernel)) dL_law_2177 e3 ?_
      refine V_if_eq_t 2178 B 2185 dL_law_2178 (by decide) (by decide +kernel) ?_
      refine V_iconst 2185 B (v := 0) dL_law_2185 (by decide +kernel) ?_
      refine V_cvi 2186 B (st := []) (As := [.int 0, .int p2, .int 0]) (fun sz => mX12_cheapest_3 l D Y (m0) (m1) (m2) (m3) (m4) (m5) (m6) (p2) sz) glV_RL_280 ⟨rfl, rfl⟩ ⟨(Nat.le_of_ble_eq_true rfl), (Nat.le_of_ble_eq_true rfl)⟩ ⟨(Nat.le_of_ble_eq_true rfl), (Nat.le_of_ble_eq_true rfl)⟩ [10, 0] rfl 13 0 rfl rfl rfl rfl (Nat.le_of_ble_eq_true rfl) rfl (fun _ u _ => by
        first | rfl | (split <;> rfl) | (dsimp only; split <;> rfl)) dL_law_2186 (fun r46 u46 w46 => ?_)
      rcases w46 with ⟨rfl, k47, rfl⟩ | ⟨rfl, k48, rfl⟩ | ⟨rfl, k49, rfl⟩ | ⟨rfl, k50, rfl⟩
      ·
        refine V_ws [(x0, oC 12 [.ref x1, .ref x30, .ref x59, .ref x88, .ref x117, .ref x126, .ref x127, .ref x129, .ref x132, .long 0]), (x1, oC 2 [.ref x2, .ref x4, .ref x6, .ref x8, .ref x10, .ref x12, .ref x14, .ref x16, .ref x18, .ref x20, .ref x27, .int 0]), (x2, oC 3 [.ref x3, .int 1]), (x3, aI Y 6 (upd (fun _ => 0) 0 (-1))), (x10, oC 7 [.ref x11, .int 0]), (x11, aJ Y 6 (fun _ => 0)), (x12, oC 3 [.ref x13, .int 0]), (x117, oC 11 [.ref x1, .ref x118, .ref x120, .ref x122, .ref x124]), (x122, oC 7 [.ref x123, .int 0]), (x123, aJ Y 86 (fun _ => 0)), (m0, oC 13 [.ref m1, .ref m2, .int 0, .ref m3, .ref m4, .int 0, .int 0, .int 0, .int (-1), .int 0, .int 0, .int 0, .long 0, .ref m5, .ref m6, .int 0, .int 0]), (m1, aI Y 3640 (upd (upd (upd (upd (upd (upd (clB 0 (fun _ => 0)) 3629 1) 3630 281) 3631 0) 3624 1) 3625 0) 3626 0)), (o0, aJ Y 1 (fun _ => 0))] rfl ?_
        exact absurd k47 (q_nel (b_nle k9 (n := 3) (by decide +kernel)) (by decide +kernel))
      ·
        refine V_ws [(x0, oC 12 [.ref x1, .ref x30, .ref x59, .ref x88, .ref x117, .ref x126, .ref x127, .ref x129, .ref x132, .long 0]), (x1, oC 2 [.ref x2, .ref x4, .ref x6, .ref x8, .ref x10, .ref x12, .ref x14, .ref x16, .ref x18, .ref x20, .ref x27, .int 0]), (x2, oC 3 [.ref x3, .int 1]), (x3, aI Y 6 (upd (fun _ => 0) 0 (-1))), (x10, oC 7 [.ref x11, .int 0]), (x11, aJ Y 6 (fun _ => 0)), (x12, oC 3 [.ref x13, .int 0]), (x117, oC 11 [.ref x1, .ref x118, .ref x120, .ref x122, .ref x124]), (x122, oC 7 [.ref x123, .int 0]), (x123, aJ Y 86 (fun _ => 0)), (m0, oC 13 [.ref m1, .ref m2, .int 0, .ref m3, .ref m4, .int 0, .int 0, .int 0, .int (-1), .int 0, .int 0, .int 0, .long 0, .ref m5, .ref m6, .int 0, .int 0]), (m1, aI Y 3640 (upd (upd (upd (upd (upd (upd (clB 0 (fun _ => 0)) 3629 2) 3630 281) 3631 281) 3624 2) 3625 0) 3626 0)), (o0, aJ Y 1 (fun _ => 0))] rfl ?_
        exact absurd k48 (q_nel (b_nle k9 (n := 3) (by decide +kernel)) (by decide +kernel))
      ·
        refine V_ws [(x0, oC 12 [.ref x1, .ref x30, .ref x59, .ref x88, .ref x117, .ref x126, .ref x127, .ref x129, .ref x132, .long 0]), (x1, oC 2 [.ref x2, .ref x4, .ref x6, .ref x8, .ref x10, .ref x12, .ref x14, .ref x16, .ref x18, .ref x20, .ref x27, .int 0]), (x2, oC 3 [.ref x3, .int 1]), (x3, aI Y 6 (upd (fun _ => 0) 0 (-1))), (x10, oC 7 [.ref x11, .int 0]), (x11, aJ Y 6 (fun _ => 0)), (x12, oC 3 [.ref x13, .int 0]), (x117, oC 11 [.ref x1, .ref x118, .ref x120, .ref x122, .ref x124]), (x122, oC 7 [.ref x123, .int 0]), (x123, aJ Y 86 (fun _ => 0)), (m0, oC 13 [.ref m1, .ref m2, .int 2, .ref m3, .ref m4, .int 0, .int 0, .int 0, .int (-1), .int 0, .int 0, .int 0, .long 0, .ref m5, .ref m6, .int 0, .int 0]), (m1, aI Y 3640 (clB 0 (fun _ => 0))), (o0, aJ Y 1 (fun _ => 0))] rfl ?_
        exact (q_abs (b_nle k9 (n := 3) (by decide +kernel)) (b_lt k49 (n := 0) (by decide +kernel)) (by decide +kernel)).elim
      ·
        refine V_ws [(x0, oC 12 [.ref x1, .ref x30, .ref x59, .ref x88, .ref x117, .ref x126, .ref x127, .ref x129, .ref x132, .long 0]), (x1, oC 2 [.ref x2, .ref x4, .ref x6, .ref x8, .ref x10, .ref x12, .ref x14, .ref x16, .ref x18, .ref x20, .ref x27, .int 0]), (x2, oC 3 [.ref x3, .int 1]), (x3, aI Y 6 (upd (fun _ => 0) 0 (-1))), (x10, oC 7 [.ref x11, .int 0]), (x11, aJ Y 6 (fun _ => 0)), (x12, oC 3 [.ref x13, .int 0]), (x117, oC 11 [.ref x1, .ref x118, .ref x120, .ref x122, .ref x124]), (x122, oC 7 [.ref x123, .int 0]), (x123, aJ Y 86 (fun _ => 0)), (m0, oC 13 [.ref m1, .ref m2, .int 2, .ref m3, .ref m4, .int 0, .int 0, .int 0, .int (-1), .int 0, .int 0, .int 0, .long 0, .ref m5, .ref m6, .int 0, .int 0]), (m1, aI Y 3640 (clB 0 (fun _ => 0))), (o0, aJ Y 1 (fun _ => 0))] rfl ?_
        refine V_istore 2189 B (lv2 := [(6, .int 0), (5, .int 2), (4, .int 0), (3, .ref o0), (2, .ref m0), (1, .ref x0), (0, .ref b)]) dL_law_2189 (by decide) rfl ?_
        refine V_aload_n 2191 B dL_law_2191 4 rfl ?_
        refine V_cvi 2192 B (st := []) (As := []) (fun sz => mX12_thrown_3 l D Y (m0) (m1) (m2) (m3) (m4) (m5) (m6) sz) glV_RL_182 ⟨rfl, rfl⟩ ⟨(Nat.le_of_ble_eq_true rfl), (Nat.le_of_ble_eq_true rfl)⟩ ⟨(Nat.le_of_ble_eq_true rfl), (Nat.le_of_ble_eq_true rfl)⟩ [10] rfl 13 0 rfl rfl rfl rfl (Nat.le_of_ble_eq_true rfl) rfl (fun _ _ _ => rfl) dL_law_2192 (fun r51 u51 w51 => ?_)
        obtain rfl := w51
        refine V_ws [(x0, oC 12 [.ref x1, .ref x30, .ref x59, .ref x88, .ref x117, .ref x126, .ref x127, .ref x129, .ref x132, .long 0]), (x1, oC 2 [.ref x2, .ref x4, .ref x6, .ref x8, .ref x10, .ref x12, .ref x14, .ref x16, .ref x18, .ref x20, .ref x27, .int 0]), (x2, oC 3 [.ref x3, .int 1]), (x3, aI Y 6 (upd (fun _ => 0) 0 (-1))), (x10, oC 7 [.ref x11, .int 0]), (x11, aJ Y 6 (fun _ => 0)), (x12, oC 3 [.ref x13, .int 0]), (x117, oC 11 [.ref x1, .ref x118, .ref x120, .ref x122, .ref x124]), (x122, oC 7 [.ref x123, .int 0]), (x123, aJ Y 86 (fun _ => 0)), (m0, oC 13 [.ref m1, .ref m2, .int 2, .ref m3, .ref m4, .int 0, .int 0, .int 0, .int (-1), .int 0, .int 0, .int 0, .long 0, .ref m5, .ref m6, .int 0, .int 0]), (m1, aI Y 3640 (clB 0 (fun _ => 0))), (o0, aJ Y 1 (fun _ => 0))] rfl ?_
        refine V_iload 2195 B dL_law_2195 1 rfl ?_
        refine V_icmp_eq_t 2197 B 2202 dL_law_2197 (by decide) (by decide +kernel) ?_
        refine V_iload 2202 B dL_law_2202 1 rfl ?_
        refine V_if_ne_t 2204 B 2219 dL_law_2204 (by decide) (by decide +kernel) ?_
        refine V_goto 2219 B 3332 dL_law_2219 (by decide) ?_
        refine V_iinc 3332 B (v := 6) (lv2 := [(4, .int 6), (6, .int 0), (5, .int 2), (3, .ref o0), (2, .ref m0), (1, .ref x0), (0, .ref b)]) dL_law_3332 2 rfl (by decide +kernel) (by decide) rfl ?_
        refine V_goto 3335 B 23 dL_law_3335 (by decide) ?_
        refine V_iload 23 B dL_law_23 0 rfl ?_
        refine V_aload_n 25 B dL_law_25 6 rfl ?_
        refine V_slen 26 B hX hbl hbA (v := 6) (by decide +kernel) dL_law_26 ?_
        refine V_bipush 27 B (v := 6) dL_law_27 (by decide +kernel) ?_
        refine V_isub 29 B (v := 0) dL_law_29 (by decide +kernel) ?_
        refine V_icmp_gt_t 30 B 3338 dL_law_30 (by decide) (by decide +kernel) ?_
        exact law_end B (Nat.le_of_ble_eq_true rfl) (Nat.le_of_ble_eq_true rfl) dL_law_3338 dL_law_3339
    ·
      refine V_ws [(x0, oC 12 [.ref x1, .ref x30, .ref x59, .ref x88, .ref x117, .ref x126, .ref x127, .ref x129, .ref x132, .long 134479872]), (x1, oC 2 [.ref x2, .ref x4, .ref x6, .ref x8, .ref x10, .ref x12, .ref x14, .ref x16, .ref x18, .ref x20, .ref x27, .int 0]), (x2, oC 3 [.ref x3, .int 1]), (x3, aI Y 6 (upd (fun _ => 0) 0 (-1))), (x10, oC 7 [.ref x11, .int 0]), (x11, aJ Y 6 (fun _ => 0)), (x12, oC 3 [.ref x13, .int 0]), (x117, oC 11 [.ref x1, .ref x118, .ref x120, .ref x122, .ref x124]), (x122, oC 7 [.ref x123, .int 0]), (x123, aJ Y 86 (fun _ => 0)), (m0, oC 13 [.ref m1, .ref m2, .int 0, .ref m3, .ref m4, .int 0, .int 0, .int 0, .int (-1), .int 0, .int 0, .int 0, .long 0, .ref m5, .ref m6, .int 0, .int 0]), (m1, aI Y 3640 (clB 0 (fun _ => 0))), (o0, aJ Y 1 (vp_updL (fun _ => 0) 0 2))] rfl ?_
      obtain rfl : p1 = 0 := k10
      refine V_istore 2157 B (lv2 := [(5, .int 0), (4, .int 0), (3, .ref o0), (2, .ref m0), (1, .ref x0), (0, .ref b)]) dL_law_2157 (by decide) rfl ?_
      refine V_aload_n 2159 B dL_law_2159 3 rfl ?_
      refine V_aload_n 2160 B dL_law_2160 5 rfl ?_
      refine V_iload 2161 B dL_law_2161 1 rfl ?_
      refine V_iconst 2163 B (v := 1) dL_law_2163 (by decide +kernel) ?_
      refine V_iadd 2164 B (v := 1) dL_law_2164 (by decide +kernel) ?_
      refine V_sld 2165 B hX hbl hbA (v := 0) (vpin _ _ (by decide +kernel)) dL_law_2165 e1 ?_
      refine V_aload_n 2166 B dL_law_2166 5 rfl ?_
      refine V_iload 2167 B dL_law_2167 1 rfl ?_
      refine V_iconst 2169 B (v := 2) dL_law_2169 (by decide +kernel) ?_
      refine V_iadd 2170 B (v := 2) dL_law_2170 (by decide +kernel) ?_
      refine V_sld 2171 B hX hbl hbA (v := p2) (vpin _ _ (by decide +kernel)) dL_law_2171 e2 ?_
      refine V_aload_n 2172 B dL_law_2172 5 rfl ?_
      refine V_iload 2173 B dL_law_2173 1 rfl ?_
      refine V_iconst 2175 B (v := 3) dL_law_2175 (by decide +kernel) ?_
      refine V_iadd 2176 B (v := 3) dL_law_2176 (by decide +kernel) ?_
      refine V_sld 2177 B hX hbl hbA (v := 0) (vpin _ _ (by decide +kernel)) dL_law_2177 e3 ?_
      refine V_if_eq_t 2178 B 2185 dL_law_2178 (by decide) (by decide +kernel) ?_
      refine V_iconst 2185 B (v := 0) dL_law_2185 (by decide +kernel) ?_
      refine V_cvi 2186 B (st := []) (As := [.int 0, .int p2, .int 0]) (fun sz => mX12_cheapest_3 l D Y (m0) (m1) (m2) (m3) (m4) (m5) (m6) (p2) sz) glV_RL_280 ⟨rfl, rfl⟩ ⟨(Nat.le_of_ble_eq_true rfl), (Nat.le_of_ble_eq_true rfl)⟩ ⟨(Nat.le_of_ble_eq_true rfl), (Nat.le_of_ble_eq_true rfl)⟩ [10, 0] rfl 13 0 rfl rfl rfl rfl (Nat.le_of_ble_eq_true rfl) rfl (fun _ u _ => by
        first | rfl | (split <;> rfl) | (dsimp only; split <;> rfl)) dL_law_2186 (fun r52 u52 w52 => ?_)
      rcases w52 with ⟨rfl, k53, rfl⟩ | ⟨rfl, k54, rfl⟩ | ⟨rfl, k55, rfl⟩ | ⟨rfl, k56, rfl⟩
      ·
        refine V_ws [(x0, oC 12 [.ref x1, .ref x30, .ref x59, .ref x88, .ref x117, .ref x126, .ref x127, .ref x129, .ref x132, .long 134479872]), (x1, oC 2 [.ref x2, .ref x4, .ref x6, .ref x8, .ref x10, .ref x12, .ref x14, .ref x16, .ref x18, .ref x20, .ref x27, .int 0]), (x2, oC 3 [.ref x3, .int 1]), (x3, aI Y 6 (upd (fun _ => 0) 0 (-1))), (x10, oC 7 [.ref x11, .int 0]), (x11, aJ Y 6 (fun _ => 0)), (x12, oC 3 [.ref x13, .int 0]), (x117, oC 11 [.ref x1, .ref x118, .ref x120, .ref x122, .ref x124]), (x122, oC 7 [.ref x123, .int 0]), (x123, aJ Y 86 (fun _ => 0)), (m0, oC 13 [.ref m1, .ref m2, .int 0, .ref m3, .ref m4, .int 0, .int 0, .int 0, .int (-1), .int 0, .int 0, .int 0, .long 0, .ref m5, .ref m6, .int 0, .int 0]), (m1, aI Y 3640 (upd (upd (upd (upd (upd (upd (clB 0 (fun _ => 0)) 3629 1) 3630 281) 3631 0) 3624 1) 3625 0) 3626 0)), (o0, aJ Y 1 (vp_updL (fun _ => 0) 0 2))] rfl ?_
        exact absurd k53 k13
      ·
        refine V_ws [(x0, oC 12 [.ref x1, .ref x30, .ref x59, .ref x88, .ref x117, .ref x126, .ref x127, .ref x129, .ref x132, .long 134479872]), (x1, oC 2 [.ref x2, .ref x4, .ref x6, .ref x8, .ref x10, .ref x12, .ref x14, .ref x16, .ref x18, .ref x20, .ref x27, .int 0]), (x2, oC 3 [.ref x3, .int 1]), (x3, aI Y 6 (upd (fun _ => 0) 0 (-1))), (x10, oC 7 [.ref x11, .int 0]), (x11, aJ Y 6 (fun _ => 0)), (x12, oC 3 [.ref x13, .int 0]), (x117, oC 11 [.ref x1, .ref x118, .ref x120, .ref x122, .ref x124]), (x122, oC 7 [.ref x123, .int 0]), (x123, aJ Y 86 (fun _ => 0)), (m0, oC 13 [.ref m1, .ref m2, .int 0, .ref m3, .ref m4, .int 0, .int 0, .int 0, .int (-1), .int 0, .int 0, .int 0, .long 0, .ref m5, .ref m6, .int 0, .int 0]), (m1, aI Y 3640 (upd (upd (upd (upd (upd (upd (clB 0 (fun _ => 0)) 3629 2) 3630 281) 3631 281) 3624 2) 3625 0) 3626 0)), (o0, aJ Y 1 (vp_updL (fun _ => 0) 0 2))] rfl ?_
        obtain rfl : p2 = 2 := k54
        refine V_istore 2189 B (lv2 := [(6, .int 2), (5, .int 0), (4, .int 0), (3, .ref o0), (2, .ref m0), (1, .ref x0), (0, .ref b)]) dL_law_2189 (by decide) rfl ?_
        refine V_aload_n 2191 B dL_law_2191 4 rfl ?_
        refine V_cvi 2192 B (st := []) (As := []) (fun sz => mX12_thrown_1 l D Y (m0) (m1) (m2) (m3) (m4) (m5) (m6) sz) glV_RL_182 ⟨rfl, rfl⟩ ⟨(Nat.le_of_ble_eq_true rfl), (Nat.le_of_ble_eq_true rfl)⟩ ⟨(Nat.le_of_ble_eq_true rfl), (Nat.le_of_ble_eq_true rfl)⟩ [10] rfl 13 0 rfl rfl rfl rfl (Nat.le_of_ble_eq_true rfl) rfl (fun _ _ _ => rfl) dL_law_2192 (fun r57 u57 w57 => ?_)
        obtain rfl := w57
        refine V_ws [(x0, oC 12 [.ref x1, .ref x30, .ref x59, .ref x88, .ref x117, .ref x126, .ref x127, .ref x129, .ref x132, .long 134479872]), (x1, oC 2 [.ref x2, .ref x4, .ref x6, .ref x8, .ref x10, .ref x12, .ref x14, .ref x16, .ref x18, .ref x20, .ref x27, .int 0]), (x2, oC 3 [.ref x3, .int 1]), (x3, aI Y 6 (upd (fun _ => 0) 0 (-1))), (x10, oC 7 [.ref x11, .int 0]), (x11, aJ Y 6 (fun _ => 0)), (x12, oC 3 [.ref x13, .int 0]), (x117, oC 11 [.ref x1, .ref x118, .ref x120, .ref x122, .ref x124]), (x122, oC 7 [.ref x123, .int 0]), (x123, aJ Y 86 (fun _ => 0)), (m0, oC 13 [.ref m1, .ref m2, .int 0, .ref m3, .ref m4, .int 0, .int 0, .int 0, .int (-1), .int 0, .int 0, .int 0, .long 0, .ref m5, .ref m6, .int 0, .int 0]), (m1, aI Y 3640 (upd (upd (upd (upd (upd (upd (clB 0 (fun _ => 0)) 3629 2) 3630 281) 3631 281) 3624 2) 3625 0) 3626 0)), (o0, aJ Y 1 (vp_updL (fun _ => 0) 0 2))] rfl ?_
        refine V_iload 2195 B dL_law_2195 1 rfl ?_
        refine V_icmp_eq_t 2197 B 2202 dL_law_2197 (by decide) (by decide +kernel) ?_
        refine V_iload 2202 B dL_law_2202 1 rfl ?_
        refine V_if_ne_f 2204 B 2219 dL_law_2204 (by decide) (by decide +kernel) ?_
        refine V_aload_n 2207 B dL_law_2207 3 rfl ?_
        refine V_iconst 2208 B (v := 0) dL_law_2208 (by decide +kernel) ?_
        refine V_lald 2209 B (v := 2) 12 rfl (vpin _ _ (by decide +kernel)) dL_law_2209 rfl ?_
        refine V_iload 2210 B dL_law_2210 0 rfl ?_
        refine V_i2l 2212 B (v := 2) dL_law_2212 (by decide +kernel) ?_
        refine V_lcmp 2213 B (v := 0) dL_law_2213 (by decide +kernel) ?_
        refine V_if_eq_t 2214 B 2219 dL_law_2214 (by decide) (by decide +kernel) ?_
        refine V_goto 2219 B 3332 dL_law_2219 (by decide) ?_
        refine V_iinc 3332 B (v := 6) (lv2 := [(4, .int 6), (6, .int 2), (5, .int 0), (3, .ref o0), (2, .ref m0), (1, .ref x0), (0, .ref b)]) dL_law_3332 2 rfl (by decide +kernel) (by decide) rfl ?_
        refine V_goto 3335 B 23 dL_law_3335 (by decide) ?_
        refine V_iload 23 B dL_law_23 0 rfl ?_
        refine V_aload_n 25 B dL_law_25 6 rfl ?_
        refine V_slen 26 B hX hbl hbA (v := 6) (by decide +kernel) dL_law_26 ?_
        refine V_bipush 27 B (v := 6) dL_law_27 (by decide +kernel) ?_
        refine V_isub 29 B (v := 0) dL_law_29 (by decide +kernel) ?_
        refine V_icmp_gt_t 30 B 3338 dL_law_30 (by decide) (by decide +kernel) ?_
        exact law_end B (Nat.le_of_ble_eq_true rfl) (Nat.le_of_ble_eq_true rfl) dL_law_3338 dL_law_3339
      ·
        refine V_ws [(x0, oC 12 [.ref x1, .ref x30, .ref x59, .ref x88, .ref x117, .ref x126, .ref x127, .ref x129, .ref x132, .long 134479872]), (x1, oC 2 [.ref x2, .ref x4, .ref x6, .ref x8, .ref x10, .ref x12, .ref x14, .ref x16, .ref x18, .ref x20, .ref x27, .int 0]), (x2, oC 3 [.ref x3, .int 1]), (x3, aI Y 6 (upd (fun _ => 0) 0 (-1))), (x10, oC 7 [.ref x11, .int 0]), (x11, aJ Y 6 (fun _ => 0)), (x12, oC 3 [.ref x13, .int 0]), (x117, oC 11 [.ref x1, .ref x118, .ref x120, .ref x122, .ref x124]), (x122, oC 7 [.ref x123, .int 0]), (x123, aJ Y 86 (fun _ => 0)), (m0, oC 13 [.ref m1, .ref m2, .int 2, .ref m3, .ref m4, .int 0, .int 0, .int 0, .int (-1), .int 0, .int 0, .int 0, .long 0, .ref m5, .ref m6, .int 0, .int 0]), (m1, aI Y 3640 (clB 0 (fun _ => 0))), (o0, aJ Y 1 (vp_updL (fun _ => 0) 0 2))] rfl ?_
        exact (q_abs (b_nlt k11 (n := 1) (by decide +kernel)) (b_lt k55 (n := 0) (by decide +kernel)) (by decide +kernel)).elim
      ·
        refine V_ws [(x0, oC 12 [.ref x1, .ref x30, .ref x59, .ref x88, .ref x117, .ref x126, .ref x127, .ref x129, .ref x132, .long 134479872]), (x1, oC 2 [.ref x2, .ref x4, .ref x6, .ref x8, .ref x10, .ref x12, .ref x14, .ref x16, .ref x18, .ref x20, .ref x27, .int 0]), (x2, oC 3 [.ref x3, .int 1]), (x3, aI Y 6 (upd (fun _ => 0) 0 (-1))), (x10, oC 7 [.ref x11, .int 0]), (x11, aJ Y 6 (fun _ => 0)), (x12, oC 3 [.ref x13, .int 0]), (x117, oC 11 [.ref x1, .ref x118, .ref x120, .ref x122, .ref x124]), (x122, oC 7 [.ref x123, .int 0]), (x123, aJ Y 86 (fun _ => 0)), (m0, oC 13 [.ref m1, .ref m2, .int 2, .ref m3, .ref m4, .int 0, .int 0, .int 0, .int (-1), .int 0, .int 0, .int 0, .long 0, .ref m5, .ref m6, .int 0, .int 0]), (m1, aI Y 3640 (clB 0 (fun _ => 0))), (o0, aJ Y 1 (vp_updL (fun _ => 0) 0 2))] rfl ?_
        exact (q_abs (b_gt k56 (n := 3) (by decide +kernel)) (b_le k12 (n := 2) (by decide +kernel)) (by decide +kernel)).elim
    ·
      refine V_ws [(x0, oC 12 [.ref x1, .ref x30, .ref x59, .ref x88, .ref x117, .ref x126, .ref x127, .ref x129, .ref x132, .long 134217728]), (x1, oC 2 [.ref x2, .ref x4, .ref x6, .ref x8, .ref x10, .ref x12, .ref x14, .ref x16, .ref x18, .ref x20, .ref x27, .int 0]), (x2, oC 3 [.ref x3, .int 1]), (x3, aI Y 6 (upd (fun _ => 0) 0 (-1))), (x10, oC 7 [.ref x11, .int 0]), (x11, aJ Y 6 (fun _ => 0)), (x12, oC 3 [.ref x13, .int 0]), (x117, oC 11 [.ref x1, .ref x118, .ref x120, .ref x122, .ref x124]), (x122, oC 7 [.ref x123, .int 0]), (x123, aJ Y 86 (fun _ => 0)), (m0, oC 13 [.ref m1, .ref m2, .int 0, .ref m3, .ref m4, .int 0, .int 0, .int 0, .int (-1), .int 0, .int 0, .int 0, .long 0, .ref m5, .ref m6, .int 0, .int 0]), (m1, aI Y 3640 (clB 0 (fun _ => 0))), (o0, aJ Y 1 (vp_updL (fun _ => 0) 0 1))] rfl ?_
      obtain rfl : p1 = 0 := k14
      obtain rfl : p2 = 1 := k15
      refine V_istore 2157 B (lv2 := [(5, .int 0), (4, .int 0), (3, .ref o0), (2, .ref m0), (1, .ref x0), (0, .ref b)]) dL_law_2157 (by decide) rfl ?_
      refine V_aload_n 2159 B dL_law_2159 3 rfl ?_
      refine V_aload_n 2160 B dL_law_2160 5 rfl ?_
      refine V_iload 2161 B dL_law_2161 1 rfl ?_
      refine V_iconst 2163 B (v := 1) dL_law_2163 (by decide +kernel) ?_
      refine V_iadd 2164 B (v := 1) dL_law_2164 (by decide +kernel) ?_
      refine V_sld 2165 B hX hbl hbA (v := 0) (vpin _ _ (by decide +kernel)) dL_law_2165 e1 ?_
      refine V_aload_n 2166 B dL_law_2166 5 rfl ?_
      refine V_iload 2167 B dL_law_2167 1 rfl ?_
      refine V_iconst 2169 B (v := 2) dL_law_2169 (by decide +kernel) ?_
      refine V_iadd 2170 B (v := 2) dL_law_2170 (by decide +kernel) ?_
      refine V_sld 2171 B hX hbl hbA (v := 1) (vpin _ _ (by decide +kernel)) dL_law_2171 e2 ?_
      refine V_aload_n 2172 B dL_law_2172 5 rfl ?_
      refine V_iload 2173 B dL_law_2173 1 rfl ?_
      refine V_iconst 2175 B (v := 3) dL_law_2175 (by decide +kernel) ?_
      refine V_iadd 2176 B (v := 3) dL_law_2176 (by decide +kernel) ?_
      refine V_sld 2177 B hX hbl hbA (v := 0) (vpin _ _ (by decide +kernel)) dL_law_2177 e3 ?_
      refine V_if_eq_t 2178 B 2185 dL_law_2178 (by decide) (by decide +kernel) ?_
      refine V_iconst 2185 B (v := 0) dL_law_2185 (by decide +kernel) ?_
      refine V_cvi 2186 B (st := []) (As := [.int 0, .int 1, .int 0]) (fun sz => mX12_cheapest_4 l D Y (m0) (m1) (m2) (m3) (m4) (m5) (m6) sz) glV_RL_280 ⟨rfl, rfl⟩ ⟨(Nat.le_of_ble_eq_true rfl), (Nat.le_of_ble_eq_true rfl)⟩ ⟨(Nat.le_of_ble_eq_true rfl), (Nat.le_of_ble_eq_true rfl)⟩ [10, 0] rfl 13 0 rfl rfl rfl rfl (Nat.le_of_ble_eq_true rfl) rfl (fun _ _ _ => rfl) dL_law_2186 (fun r58 u58 w58 => ?_)
      obtain rfl := w58
      refine V_ws [(x0, oC 12 [.ref x1, .ref x30, .ref x59, .ref x88, .ref x117, .ref x126, .ref x127, .ref x129, .ref x132, .long 134217728]), (x1, oC 2 [.ref x2, .ref x4, .ref x6, .ref x8, .ref x10, .ref x12, .ref x14, .ref x16, .ref x18, .ref x20, .ref x27, .int 0]), (x2, oC 3 [.ref x3, .int 1]), (x3, aI Y 6 (upd (fun _ => 0) 0 (-1))), (x10, oC 7 [.ref x11, .int 0]), (x11, aJ Y 6 (fun _ => 0)), (x12, oC 3 [.ref x13, .int 0]), (x117, oC 11 [.ref x1, .ref x118, .ref x120, .ref x122, .ref x124]), (x122, oC 7 [.ref x123, .int 0]), (x123, aJ Y 86 (fun _ => 0)), (m0, oC 13 [.ref m1, .ref m2, .int 0, .ref m3, .ref m4, .int 0, .int 0, .int 0, .int (-1), .int 0, .int 0, .int 0, .long 0, .ref m5, .ref m6, .int 0, .int 0]), (m1, aI Y 3640 (upd (upd (upd (upd (upd (upd (clB 0 (fun _ => 0)) 3629 1) 3630 281) 3631 0) 3624 1) 3625 0) 3626 0)), (o0, aJ Y 1 (vp_updL (fun _ => 0) 0 1))] rfl ?_
      refine V_istore 2189 B (lv2 := [(6, .int 1), (5, .int 0), (4, .int 0), (3, .ref o0), (2, .ref m0), (1, .ref x0), (0, .ref b)]) dL_law_2189 (by decide) rfl ?_
      refine V_aload_n 2191 B dL_law_2191 4 rfl ?_
      refine V_cvi 2192 B (st := []) (As := []) (fun sz => mX12_thrown_1 l D Y (m0) (m1) (m2) (m3) (m4) (m5) (m6) sz) glV_RL_182 ⟨rfl, rfl⟩ ⟨(Nat.le_of_ble_eq_true rfl), (Nat.le_of_ble_eq_true rfl)⟩ ⟨(Nat.le_of_ble_eq_true rfl), (Nat.le_of_ble_eq_true rfl)⟩ [10] rfl 13 0 rfl rfl rfl rfl (Nat.le_of_ble_eq_true rfl) rfl (fun _ _ _ => rfl) dL_law_2192 (fun r59 u59 w59 => ?_)
      obtain rfl := w59
      refine V_ws [(x0, oC 12 [.ref x1, .ref x30, .ref x59, .ref x88, .ref x117, .ref x126, .ref x127, .ref x129, .ref x132, .long 134217728]), (x1, oC 2 [.ref x2, .ref x4, .ref x6, .ref x8, .ref x10, .ref x12, .ref x14, .ref x16, .ref x18, .ref x20, .ref x27, .int 0]), (x2, oC 3 [.ref x3, .int 1]), (x3, aI Y 6 (upd (fun _ => 0) 0 (-1))), (x10, oC 7 [.ref x11, .int 0]), (x11, aJ Y 6 (fun _ => 0)), (x12, oC 3 [.ref x13, .int 0]), (x117, oC 11 [.ref x1, .ref x118, .ref x120, .ref x122, .ref x124]), (x122, oC 7 [.ref x123, .int 0]), (x123, aJ Y 86 (fun _ => 0)), (m0, oC 13 [.ref m1, .ref m2, .int 0, .ref m3, .ref m4, .int 0, .int 0, .int 0, .int (-1), .int 0, .int 0, .int 0, .long 0, .ref m5, .ref m6, .int 0, .int 0]), (m1, aI Y 3640 (upd (upd (upd (upd (upd (upd (clB 0 (fun _ => 0)) 3629 1) 3630 281) 3631 0) 3624 1) 3625 0) 3626 0)), (o0, aJ Y 1 (vp_updL (fun _ => 0) 0 1))] rfl ?_
      refine V_iload 2195 B dL_law_2195 1 rfl ?_
      refine V_icmp_eq_t 2197 B 2202 dL_law_2197 (by decide) (by decide +kernel) ?_
      refine V_iload 2202 B dL_law_2202 1 rfl ?_
      refine V_if_ne_f 2204 B 2219 dL_law_2204 (by decide) (by decide +kernel) ?_
      refine V_aload_n 2207 B dL_law_2207 3 rfl ?_
      refine V_iconst 2208 B (v := 0) dL_law_2208 (by decide +kernel) ?_
      refine V_lald 2209 B (v := 1) 12 rfl (vpin _ _ (by decide +kernel)) dL_law_2209 rfl ?_
      refine V_iload 2210 B dL_law_2210 0 rfl ?_
      refine V_i2l 2212 B (v := 1) dL_law_2212 (by decide +kernel) ?_
      refine V_lcmp 2213 B (v := 0) dL_law_2213 (by decide +kernel) ?_
      refine V_if_eq_t 2214 B 2219 dL_law_2214 (by decide) (by decide +kernel) ?_
      refine V_goto 2219 B 3332 dL_law_2219 (by decide) ?_
      refine V_iinc 3332 B (v := 6) (lv2 := [(4, .int 6), (6, .int 1), (5, .int 0), (3, .ref o0), (2, .ref m0), (1, .ref x0), (0, .ref b)]) dL_law_3332 2 rfl (by decide +kernel) (by decide) rfl ?_
      refine V_goto 3335 B 23 dL_law_3335 (by decide) ?_
      refine V_iload 23 B dL_law_23 0 rfl ?_
      refine V_aload_n 25 B dL_law_25 6 rfl ?_
      refine V_slen 26 B hX hbl hbA (v := 6) (by decide +kernel) dL_law_26 ?_
      refine V_bipush 27 B (v := 6) dL_law_27 (by decide +kernel) ?_
      refine V_isub 29 B (v := 0) dL_law_29 (by decide +kernel) ?_
      refine V_icmp_gt_t 30 B 3338 dL_law_30 (by decide) (by decide +kernel) ?_
      exact law_end B (Nat.le_of_ble_eq_true rfl) (Nat.le_of_ble_eq_true rfl) dL_law_3338 dL_law_3339
  ·
    refine V_iconst 2148 B (v := 1) dL_law_2148 (by decide +kernel) ?_
    refine V_goto 2149 B 2153 dL_law_2149 (by decide) ?_
    refine V_aload_n 2153 B dL_law_2153 1 rfl ?_
    refine V_hsi 2154 B EB (st := []) (As := [.ref x0, .int p1, .int p2, .int 1, .ref o0]) (fun sz => mL_cheapest_2 l hl9 D Y (x0) (o0) (x1) (x30) (x59) (x88) (x117) (x126) (x127) (x129) (x132) (x2) (x4) (x6) (x8) (x10) (x12) (x14) (x16) (x18) (x20) (x27) (x3) (x11) (x13) (x118) (x120) (x122) (x124) (x123) (p1) (p2) sz) glH_RL_277 ⟨rfl, rfl⟩ ⟨(Nat.le_of_ble_eq_true rfl), (Nat.le_of_ble_eq_true rfl)⟩ ⟨(Nat.le_of_ble_eq_true rfl), (Nat.le_of_ble_eq_true rfl)⟩ [0, 0, 0, 0, 0, 0, 0, 0, 0, 0, 2] rfl rfl (Nat.le_of_ble_eq_true rfl) rfl (fun _ u _ => by
        first | rfl | (split <;> rfl) | (dsimp only; split <;> rfl)) dL_law_2154 (fun r60 u60 w60 => ?_)
    rcases w60 with ⟨rfl, k61, rfl⟩ | ⟨rfl, k62, k63, rfl⟩ | ⟨rfl, k64, k65, rfl⟩ | ⟨rfl, k66, k67, k68, rfl⟩ | ⟨rfl, k69, k70, k71, k72, rfl⟩ | ⟨rfl, k73, k74, rfl⟩
    ·
      refine V_ws [(x0, oC 12 [.ref x1, .ref x30, .ref x59, .ref x88, .ref x117, .ref x126, .ref x127, .ref x129, .ref x132, .long 0]), (x1, oC 2 [.ref x2, .ref x4, .ref x6, .ref x8, .ref x10, .ref x12, .ref x14, .ref x16, .ref x18, .ref x20, .ref x27, .int 0]), (x2, oC 3 [.ref x3, .int 1]), (x3, aI Y 6 (upd (fun _ => 0) 0 (-1))), (x10, oC 7 [.ref x11, .int 0]), (x11, aJ Y 6 (fun _ => 0)), (x12, oC 3 [.ref x13, .int 0]), (x117, oC 11 [.ref x1, .ref x118, .ref x120, .ref x122, .ref x124]), (x122, oC 7 [.ref x123, .int 0]), (x123, aJ Y 86 (fun _ => 0)), (m0, oC 13 [.ref m1, .ref m2, .int 0, .ref m3, .ref m4, .int 0, .int 0, .int 0, .int (-1), .int 0, .int 0, .int 0, .long 0, .ref m5, .ref m6, .int 0, .int 0]), (m1, aI Y 3640 (clB 0 (fun _ => 0))), (o0, aJ Y 1 (fun _ => 0))] rfl ?_
      refine V_istore 2157 B (lv2 := [(5, .int 1), (4, .int 0), (3, .ref o0), (2, .ref m0), (1, .ref x0), (0, .ref b)]) dL_law_2157 (by decide) rfl ?_
      refine V_aload_n 2159 B dL_law_2159 3 rfl ?_
      refine V_aload_n 2160 B dL_law_2160 5 rfl ?_
      refine V_iload 2161 B dL_law_2161 1 rfl ?_
      refine V_iconst 2163 B (v := 1) dL_law_2163 (by decide +kernel) ?_
      refine V_iadd 2164 B (v := 1) dL_law_2164 (by decide +kernel) ?_
      refine V_sld 2165 B hX hbl hbA (v := p1) (vpin _ _ (by decide +kernel)) dL_law_2165 e1 ?_
      refine V_aload_n 2166 B dL_law_2166 5 rfl ?_
      refine V_iload 2167 B dL_law_2167 1 rfl ?_
      refine V_iconst 2169 B (v := 2) dL_law_2169 (by decide +kernel) ?_
      refine V_iadd 2170 B (v := 2) dL_law_2170 (by decide +kernel) ?_
      refine V_sld 2171 B hX hbl hbA (v := p2) (vpin _ _ (by decide +kernel)) dL_law_2171 e2 ?_
      refine V_aload_n 2172 B dL_law_2172 5 rfl ?_
      refine V_iload 2173 B dL_law_2173 1 rfl ?_
      refine V_iconst 2175 B (v := 3) dL_law_2175 (by decide +kernel) ?_
      refine V_iadd 2176 B (v := 3) dL_law_2176 (by decide +kernel) ?_
      refine V_sld 2177 B hX hbl hbA (v := p3) (vpin _ _ (by decide +kernel)) dL_law_2177 e3 ?_
      refine V_if_eq 2178 B 2185 dL_law_2178 (by decide) (fun k75 => ?_) (fun k75 => ?_)
      ·
        exact absurd k75 k0
      ·
        refine V_iconst 2181 B (v := 1) dL_law_2181 (by decide +kernel) ?_
        refine V_goto 2182 B 2186 dL_law_2182 (by decide) ?_
        refine V_cvi 2186 B (st := []) (As := [.int p1, .int p2, .int 1]) (fun sz => mX12_cheapest_5 l D Y (m0) (m1) (m2) (m3) (m4) (m5) (m6) (p1) (p2) sz) glV_RL_280 ⟨rfl, rfl⟩ ⟨(Nat.le_of_ble_eq_true rfl), (Nat.le_of_ble_eq_true rfl)⟩ ⟨(Nat.le_of_ble_eq_true rfl), (Nat.le_of_ble_eq_true rfl)⟩ [10, 0] rfl 13 0 rfl rfl rfl rfl (Nat.le_of_ble_eq_true rfl) rfl (fun _ u _ => by
        first | rfl | (split <;> rfl) | (dsimp only; split <;> rfl)) dL_law_2186 (fun r76 u76 w76 => ?_)
        rcases w76 with ⟨rfl, k77, k78, rfl⟩ | ⟨rfl, k79, k80, rfl⟩ | ⟨rfl, k81, k82, rfl⟩ | ⟨rfl, k83, k84, rfl⟩ | ⟨rfl, k85, rfl⟩ | ⟨rfl, k86, rfl⟩
        ·
          refine V_ws [(x0, oC 12 [.ref x1, .ref x30, .ref x59, .ref x88, .ref x117, .ref x126, .ref x127, .ref x129, .ref x132, .long 0]), (x1, oC 2 [.ref x2, .ref x4, .ref x6, .ref x8, .ref x10, .ref x12, .ref x14, .ref x16, .ref x18, .ref x20, .ref x27, .int 0]), (x2, oC 3 [.ref x3, .int 1]), (x3, aI Y 6 (upd (fun _ => 0) 0 (-1))), (x10, oC 7 [.ref x11, .int 0]), (x11, aJ Y 6 (fun _ => 0)), (x12, oC 3 [.ref x13, .int 0]), (x117, oC 11 [.ref x1, .ref x118, .ref x120, .ref x122, .ref x124]), (x122, oC 7 [.ref x123, .int 0]), (x123, aJ Y 86 (fun _ => 0)), (m0, oC 13 [.ref m1, .ref m2, .int 0, .ref m3, .ref m4, .int 0, .int 0, .int 0, .int (-1), .int 0, .int 0, .int 0, .long 0, .ref m5, .ref m6, .int 0, .int 0]), (m1, aI Y 3640 (upd (upd (upd (upd (upd (upd (clB 0 (fun _ => 0)) 3629 1) 3630 281) 3631 0) 3624 1) 3625 0) 3626 0)), (o0, aJ Y 1 (fun _ => 0))] rfl ?_
          exact absurd k77 (q_neh (b_lt k61 (n := (-1)) (by decide +kernel)) (by decide +kernel))
        ·
          refine V_ws [(x0, oC 12 [.ref x1, .ref x30, .ref x59, .ref x88, .ref x117, .ref x126, .ref x127, .ref x129, .ref x132, .long 0]), (x1, oC 2 [.ref x2, .ref x4, .ref x6, .ref x8, .ref x10, .ref x12, .ref x14, .ref x16, .ref x18, .ref x20, .ref x27, .int 0]), (x2, oC 3 [.ref x3, .int 1]), (x3, aI Y 6 (upd (fun _ => 0) 0 (-1))), (x10, oC 7 [.ref x11, .int 0]), (x11, aJ Y 6 (fun _ => 0)), (x12, oC 3 [.ref x13, .int 0]), (x117, oC 11 [.ref x1, .ref x118, .ref x120, .ref x122, .ref x124]), (x122, oC 7 [.ref x123, .int 0]), (x123, aJ Y 86 (fun _ => 0)), (m0, oC 13 [.ref m1, .ref m2, .int 0, .ref m3, .ref m4, .int 0, .int 0, .int 0, .int (-1), .int 0, .int 0, .int 0, .long 0, .ref m5, .ref m6, .int 0, .int 0]), (m1, aI Y 3640 (upd (upd (upd (upd (upd (upd (clB 0 (fun _ => 0)) 3629 2) 3630 281) 3631 281) 3624 2) 3625 0) 3626 0)), (o0, aJ Y 1 (fun _ => 0))] rfl ?_
          exact absurd k79 (q_neh (b_lt k61 (n := (-1)) (by decide +kernel)) (by decide +kernel))
        ·
          refine V_ws [(x0, oC 12 [.ref x1, .ref x30, .ref x59, .ref x88, .ref x117, .ref x126, .ref x127, .ref x129, .ref x132, .long 0]), (x1, oC 2 [.ref x2, .ref x4, .ref x6, .ref x8, .ref x10, .ref x12, .ref x14, .ref x16, .ref x18, .ref x20, .ref x27, .int 0]), (x2, oC 3 [.ref x3, .int 1]), (x3, aI Y 6 (upd (fun _ => 0) 0 (-1))), (x10, oC 7 [.ref x11, .int 0]), (x11, aJ Y 6 (fun _ => 0)), (x12, oC 3 [.ref x13, .int 0]), (x117, oC 11 [.ref x1, .ref x118, .ref x120, .ref x122, .ref x124]), (x122, oC 7 [.ref x123, .int 0]), (x123, aJ Y 86 (fun _ => 0)), (m0, oC 13 [.ref m1, .ref m2, .int 2, .ref m3, .ref m4, .int 0, .int 0, .int 0, .int (-1), .int 0, .int 0, .int 0, .long 0, .ref m5, .ref m6, .int 0, .int 0]), (m1, aI Y 3640 (clB 0 (fun _ => 0))), (o0, aJ Y 1 (fun _ => 0))] rfl ?_
          exact absurd k81 (q_neh (b_lt k61 (n := (-1)) (by decide +kernel)) (by decide +kernel))
        ·
          refine V_ws [(x0, oC 12 [.ref x1, .ref x30, .ref x59, .ref x88, .ref x117, .ref x126, .ref x127, .ref x129, .ref x132, .long 0]), (x1, oC 2 [.ref x2, .ref x4, .ref x6, .ref x8, .ref x10, .ref x12, .ref x14, .ref x16, .ref x18, .ref x20, .ref x27, .int 0]), (x2, oC 3 [.ref x3, .int 1]), (x3, aI Y 6 (upd (fun _ => 0) 0 (-1))), (x10, oC 7 [.ref x11, .int 0]), (x11, aJ Y 6 (fun _ => 0)), (x12, oC 3 [.ref x13, .int 0]), (x117, oC 11 [.ref x1, .ref x118, .ref x120, .ref x122, .ref x124]), (x122, oC 7 [.ref x123, .int 0]), (x123, aJ Y 86 (fun _ => 0)), (m0, oC 13 [.ref m1, .ref m2, .int 2, .ref m3, .ref m4, .int 0, .int 0, .int 0, .int (-1), .int 0, .int 0, .int 0, .long 0, .ref m5, .ref m6, .int 0, .int 0]), (m1, aI Y 3640 (clB 0 (fun _ => 0))), (o0, aJ Y 1 (fun _ => 0))] rfl ?_
          exact absurd k83 (q_neh (b_lt k61 (n := (-1)) (by decide +kernel)) (by decide +kernel))
        ·
          refine V_ws [(x0, oC 12 [.ref x1, .ref x30, .ref x59, .ref x88, .ref x117, .ref x126, .ref x127, .ref x129, .ref x132, .long 0]), (x1, oC 2 [.ref x2, .ref x4, .ref x6, .ref x8, .ref x10, .ref x12, .ref x14, .ref x16, .ref x18, .ref x20, .ref x27, .int 0]), (x2, oC 3 [.ref x3, .int 1]), (x3, aI Y 6 (upd (fun _ => 0) 0 (-1))), (x10, oC 7 [.ref x11, .int 0]), (x11, aJ Y 6 (fun _ => 0)), (x12, oC 3 [.ref x13, .int 0]), (x117, oC 11 [.ref x1, .ref x118, .ref x120, .ref x122, .ref x124]), (x122, oC 7 [.ref x123, .int 0]), (x123, aJ Y 86 (fun _ => 0)), (m0, oC 13 [.ref m1, .ref m2, .int 1, .ref m3, .ref m4, .int 0, .int 0, .int 0, .int (-1), .int 0, .int 0, .int 0, .long 0, .ref m5, .ref m6, .int 0, .int 0]), (m1, aI Y 3640 (clB 0 (fun _ => 0))), (o0, aJ Y 1 (fun _ => 0))] rfl ?_
          refine V_istore 2189 B (lv2 := [(6, .int 0), (5, .int 1), (4, .int 0), (3, .ref o0), (2, .ref m0), (1, .ref x0), (0, .ref b)]) dL_law_2189 (by decide) rfl ?_
          refine V_aload_n 2191 B dL_law_2191 4 rfl ?_
          refine V_cvi 2192 B (st := []) (As := []) (fun sz => mX12_thrown_2 l D Y (m0) (m1) (m2) (m3) (m4) (m5) (m6) sz) glV_RL_182 ⟨rfl, rfl⟩ ⟨(Nat.le_of_ble_eq_true rfl), (Nat.le_of_ble_eq_true rfl)⟩ ⟨(Nat.le_of_ble_eq_true rfl), (Nat.le_of_ble_eq_true rfl)⟩ [10] rfl 13 0 rfl rfl rfl rfl (Nat.le_of_ble_eq_true rfl) rfl (fun _ _ _ => rfl) dL_law_2192 (fun r87 u87 w87 => ?_)
          obtain rfl := w87
          refine V_ws [(x0, oC 12 [.ref x1, .ref x30, .ref x59, .ref x88, .ref x117, .ref x126, .ref x127, .ref x129, .ref x132, .long 0]), (x1, oC 2 [.ref x2, .ref x4, .ref x6, .ref x8, .ref x10, .ref x12, .ref x14, .ref x16, .ref x18, .ref x20, .ref x27, .int 0]), (x2, oC 3 [.ref x3, .int 1]), (x3, aI Y 6 (upd (fun _ => 0) 0 (-1))), (x10, oC 7 [.ref x11, .int 0]), (x11, aJ Y 6 (fun _ => 0)), (x12, oC 3 [.ref x13, .int 0]), (x117, oC 11 [.ref x1, .ref x118, .ref x120, .ref x122, .ref x124]), (x122, oC 7 [.ref x123, .int 0]), (x123, aJ Y 86 (fun _ => 0)), (m0, oC 13 [.ref m1, .ref m2, .int 1, .ref m3, .ref m4, .int 0, .int 0, .int 0, .int (-1), .int 0, .int 0, .int 0, .long 0, .ref m5, .ref m6, .int 0, .int 0]), (m1, aI Y 3640 (clB 0 (fun _ => 0))), (o0, aJ Y 1 (fun _ => 0))] rfl ?_
          refine V_iload 2195 B dL_law_2195 1 rfl ?_
          refine V_icmp_eq_t 2197 B 2202 dL_law_2197 (by decide) (by decide +kernel) ?_
          refine V_iload 2202 B dL_law_2202 1 rfl ?_
          refine V_if_ne_t 2204 B 2219 dL_law_2204 (by decide) (by decide +kernel) ?_
          refine V_goto 2219 B 3332 dL_law_2219 (by decide) ?_
          refine V_iinc 3332 B (v := 6) (lv2 := [(4, .int 6), (6, .int 0), (5, .int 1), (3, .ref o0), (2, .ref m0), (1, .ref x0), (0, .ref b)]) dL_law_3332 2 rfl (by decide +kernel) (by decide) rfl ?_
          refine V_goto 3335 B 23 dL_law_3335 (by decide) ?_
          refine V_iload 23 B dL_law_23 0 rfl ?_
          refine V_aload_n 25 B dL_law_25 6 rfl ?_
          refine V_slen 26 B hX hbl hbA (v := 6) (by decide +kernel) dL_law_26 ?_
          refine V_bipush 27 B (v := 6) dL_law_27 (by decide +kernel) ?_
          refine V_isub 29 B (v := 0) dL_law_29 (by decide +kernel) ?_
          refine V_icmp_gt_t 30 B 3338 dL_law_30 (by decide) (by decide +kernel) ?_
          exact law_end B (Nat.le_of_ble_eq_true rfl) (Nat.le_of_ble_eq_true rfl) dL_law_3338 dL_law_3339
        ·
          refine V_ws [(x0, oC 12 [.ref x1, .ref x30, .ref x59, .ref x88, .ref x117, .ref x126, .ref x127, .ref x129, .ref x132, .long 0]), (x1, oC 2 [.ref x2, .ref x4, .ref x6, .ref x8, .ref x10, .ref x12, .ref x14, .ref x16, .ref x18, .ref x20, .ref x27, .int 0]), (x2, oC 3 [.ref x3, .int 1]), (x3, aI Y 6 (upd (fun _ => 0) 0 (-1))), (x10, oC 7 [.ref x11, .int 0]), (x11, aJ Y 6 (fun _ => 0)), (x12, oC 3 [.ref x13, .int 0]), (x117, oC 11 [.ref x1, .ref x118, .ref x120, .ref x122, .ref x124]), (x122, oC 7 [.ref x123, .int 0]), (x123, aJ Y 86 (fun _ => 0)), (m0, oC 13 [.ref m1, .ref m2, .int 1, .ref m3, .ref m4, .int 0, .int 0, .int 0, .int (-1), .int 0, .int 0, .int 0, .long 0, .ref m5, .ref m6, .int 0, .int 0]), (m1, aI Y 3640 (clB 0 (fun _ => 0))), (o0, aJ Y 1 (fun _ => 0))] rfl ?_
          exact (q_abs (b_gt k86 (n := 1) (by decide +kernel)) (b_lt k61 (n := (-1)) (by decide +kernel)) (by decide +kernel)).elim
    ·
      refine V_ws [(x0, oC 12 [.ref x1, .ref x30, .ref x59, .ref x88, .ref x117, .ref x126, .ref x127, .ref x129, .ref x132, .long 0]), (x1, oC 2 [.ref x2, .ref x4, .ref x6, .ref x8, .ref x10, .ref x12, .ref x14, .ref x16, .ref x18, .ref x20, .ref x27, .int 0]), (x2, oC 3 [.ref x3, .int 1]), (x3, aI Y 6 (upd (fun _ => 0) 0 (-1))), (x10, oC 7 [.ref x11, .int 0]), (x11, aJ Y 6 (fun _ => 0)), (x12, oC 3 [.ref x13, .int 0]), (x117, oC 11 [.ref x1, .ref x118, .ref x120, .ref x122, .ref x124]), (x122, oC 7 [.ref x123, .int 0]), (x123, aJ Y 86 (fun _ => 0)), (m0, oC 13 [.ref m1, .ref m2, .int 0, .ref m3, .ref m4, .int 0, .int 0, .int 0, .int (-1), .int 0, .int 0, .int 0, .long 0, .ref m5, .ref m6, .int 0, .int 0]), (m1, aI Y 3640 (clB 0 (fun _ => 0))), (o0, aJ Y 1 (fun _ => 0))] rfl ?_
      refine V_istore 2157 B (lv2 := [(5, .int 1), (4, .int 0), (3, .ref o0), (2, .ref m0), (1, .ref x0), (0, .ref b)]) dL_law_2157 (by decide) rfl ?_
      refine V_aload_n 2159 B dL_law_2159 3 rfl ?_
      refine V_aload_n 2160 B dL_law_2160 5 rfl ?_
      refine V_iload 2161 B dL_law_2161 1 rfl ?_
      refine V_iconst 2163 B (v := 1) dL_law_2163 (by decide +kernel) ?_
      refine V_iadd 2164 B (v := 1) dL_law_2164 (by decide +kernel) ?_
      refine V_sld 2165 B hX hbl hbA (v := p1) (vpin _ _ (by decide +kernel)) dL_law_2165 e1 ?_
      refine V_aload_n 2166 B dL_law_2166 5 rfl ?_
      refine V_iload 2167 B dL_law_2167 1 rfl ?_
      refine V_iconst 2169 B (v := 2) dL_law_2169 (by decide +kernel) ?_
      refine V_iadd 2170 B (v := 2) dL_law_2170 (by decide +kernel) ?_
      refine V_sld 2171 B hX hbl hbA (v := p2) (vpin _ _ (by decide +kernel)) dL_law_2171 e2 ?_
      refine V_aload_n 2172 B dL_law_2172 5 rfl ?_
      refine V_iload 2173 B dL_law_2173 1 rfl ?_
      refine V_iconst 2175 B (v := 3) dL_law_2175 (by decide +kernel) ?_
      refine V_iadd 2176 B (v := 3) dL_law_2176 (by decide +kernel) ?_
      refine V_sld 2177 B hX hbl hbA (v := p3) (vpin _ _ (by decide +kernel)) dL_law_2177 e3 ?_
      refine V_if_eq 2178 B 2185 dL_law_2178 (by decide) (fun k88 => ?_) (fun k88 => ?_)
      ·
        exact absurd k88 k0
      ·
        refine V_iconst 2181 B (v := 1) dL_law_2181 (by decide +kernel) ?_
        refine V_goto 2182 B 2186 dL_law_2182 (by decide) ?_
        refine V_cvi 2186 B (st := []) (As := [.int p1, .int p2, .int 1]) (fun sz => mX12_cheapest_5 l D Y (m0) (m1) (m2) (m3) (m4) (m5) (m6) (p1) (p2) sz) glV_RL_280 ⟨rfl, rfl⟩ ⟨(Nat.le_of_ble_eq_true rfl), (Nat.le_of_ble_eq_true rfl)⟩ ⟨(Nat.le_of_ble_eq_true rfl), (Nat.le_of_ble_eq_true rfl)⟩ [10, 0] rfl 13 0 rfl rfl rfl rfl (Nat.le_of_ble_eq_true rfl) rfl (fun _ u _ => by
        first | rfl | (split <;> rfl) | (dsimp only; split <;> rfl)) dL_law_2186 (fun r89 u89 w89 => ?_)
        rcases w89 with ⟨rfl, k90, k91, rfl⟩ | ⟨rfl, k92, k93, rfl⟩ | ⟨rfl, k94, k95, rfl⟩ | ⟨rfl, k96, k97, rfl⟩ | ⟨rfl, k98, rfl⟩ | ⟨rfl, k99, rfl⟩
        ·
          refine V_ws [(x0, oC 12 [.ref x1, .ref x30, .ref x59, .ref x88, .ref x117, .ref x126, .ref x127, .ref x129, .ref x132, .long 0]), (x1, oC 2 [.ref x2, .ref x4, .ref x6, .ref x8, .ref x10, .ref x12, .ref x14, .ref x16, .ref x18, .ref x20, .ref x27, .int 0]), (x2, oC 3 [.ref x3, .int 1]), (x3, aI Y 6 (upd (fun _ => 0) 0 (-1))), (x10, oC 7 [.ref x11, .int 0]), (x11, aJ Y 6 (fun _ => 0)), (x12, oC 3 [.ref x13, .int 0]), (x117, oC 11 [.ref x1, .ref x118, .ref x120, .ref x122, .ref x124]), (x122, oC 7 [.ref x123, .int 0]), (x123, aJ Y 86 (fun _ => 0)), (m0, oC 13 [.ref m1, .ref m2, .int 0, .ref m3, .ref m4, .int 0, .int 0, .int 0, .int (-1), .int 0, .int 0, .int 0, .long 0, .ref m5, .ref m6, .int 0, .int 0]), (m1, aI Y 3640 (upd (upd (upd (upd (upd (upd (clB 0 (fun _ => 0)) 3629 1) 3630 281) 3631 0) 3624 1) 3625 0) 3626 0)), (o0, aJ Y 1 (fun _ => 0))] rfl ?_
          exact absurd k90 (q_nel (b_ge k63 (n := 1) (by decide +kernel)) (by decide +kernel))
        ·
          refine V_ws [(x0, oC 12 [.ref x1, .ref x30, .ref x59, .ref x88, .ref x117, .ref x126, .ref x127, .ref x129, .ref x132, .long 0]), (x1, oC 2 [.ref x2, .ref x4, .ref x6, .ref x8, .ref x10, .ref x12, .ref x14, .ref x16, .ref x18, .ref x20, .ref x27, .int 0]), (x2, oC 3 [.ref x3, .int 1]), (x3, aI Y 6 (upd (fun _ => 0) 0 (-1))), (x10, oC 7 [.ref x11, .int 0]), (x11, aJ Y 6 (fun _ => 0)), (x12, oC 3 [.ref x13, .int 0]), (x117, oC 11 [.ref x1, .ref x118, .ref x120, .ref x122, .ref x124]), (x122, oC 7 [.ref x123, .int 0]), (x123, aJ Y 86 (fun _ => 0)), (m0, oC 13 [.ref m1, .ref m2, .int 0, .ref m3, .ref m4, .int 0, .int 0, .int 0, .int (-1), .int 0, .int 0, .int 0, .long 0, .ref m5, .ref m6, .int 0, .int 0]), (m1, aI Y 3640 (upd (upd (upd (upd (upd (upd (clB 0 (fun _ => 0)) 3629 2) 3630 281) 3631 281) 3624 2) 3625 0) 3626 0)), (o0, aJ Y 1 (fun _ => 0))] rfl ?_
          exact absurd k92 (q_nel (b_ge k63 (n := 1) (by decide +kernel)) (by decide +kernel))
        ·
          refine V_ws [(x0, oC 12 [.ref x1, .ref x30, .ref x59, .ref x88, .ref x117, .ref x126, .ref x127, .ref x129, .ref x132, .long 0]), (x1, oC 2 [.ref x2, .ref x4, .ref x6, .ref x8, .ref x10, .ref x12, .ref x14, .ref x16, .ref x18, .ref x20, .ref x27, .int 0]), (x2, oC 3 [.ref x3, .int 1]), (x3, aI Y 6 (upd (fun _ => 0) 0 (-1))), (x10, oC 7 [.ref x11, .int 0]), (x11, aJ Y 6 (fun _ => 0)), (x12, oC 3 [.ref x13, .int 0]), (x117, oC 11 [.ref x1, .ref x118, .ref x120, .ref x122, .ref x124]), (x122, oC 7 [.ref x123, .int 0]), (x123, aJ Y 86 (fun _ => 0)), (m0, oC 13 [.ref m1, .ref m2, .int 2, .ref m3, .ref m4, .int 0, .int 0, .int 0, .int (-1), .int 0, .int 0, .int 0, .long 0, .ref m5, .ref m6, .int 0, .int 0]), (m1, aI Y 3640 (clB 0 (fun _ => 0))), (o0, aJ Y 1 (fun _ => 0))] rfl ?_
          exact absurd k94 (q_nel (b_ge k63 (n := 1) (by decide +kernel)) (by decide +kernel))
        ·
          refine V_ws [(x0, oC 12 [.ref x1, .ref x30, .ref x59, .ref x88, .ref x117, .ref x126, .ref x127, .ref x129, .ref x132, .long 0]), (x1, oC 2 [.ref x2, .ref x4, .ref x6, .ref x8, .ref x10, .ref x12, .ref x14, .ref x16, .ref x18, .ref x20, .ref x27, .int 0]), (x2, oC 3 [.ref x3, .int 1]), (x3, aI Y 6 (upd (fun _ => 0) 0 (-1))), (x10, oC 7 [.ref x11, .int 0]), (x11, aJ Y 6 (fun _ => 0)), (x12, oC 3 [.ref x13, .int 0]), (x117, oC 11 [.ref x1, .ref x118, .ref x120, .ref x122, .ref x124]), (x122, oC 7 [.ref x123, .int 0]), (x123, aJ Y 86 (fun _ => 0)), (m0, oC 13 [.ref m1, .ref m2, .int 2, .ref m3, .ref m4, .int 0, .int 0, .int 0, .int (-1), .int 0, .int 0, .int 0, .long 0, .ref m5, .ref m6, .int 0, .int 0]), (m1, aI Y 3640 (clB 0 (fun _ => 0))), (o0, aJ Y 1 (fun _ => 0))] rfl ?_
          exact absurd k96 (q_nel (b_ge k63 (n := 1) (by decide +kernel)) (by decide +kernel))
        ·
          refine V_ws [(x0, oC 12 [.ref x1, .ref x30, .ref x59, .ref x88, .ref x117, .ref x126, .ref x127, .ref x129, .ref x132, .long 0]), (x1, oC 2 [.ref x2, .ref x4, .ref x6, .ref x8, .ref x10, .ref x12, .ref x14, .ref x16, .ref x18, .ref x20, .ref x27, .int 0]), (x2, oC 3 [.ref x3, .int 1]), (x3, aI Y 6 (upd (fun _ => 0) 0 (-1))), (x10, oC 7 [.ref x11, .int 0]), (x11, aJ Y 6 (fun _ => 0)), (x12, oC 3 [.ref x13, .int 0]), (x117, oC 11 [.ref x1, .ref x118, .ref x120, .ref x122, .ref x124]), (x122, oC 7 [.ref x123, .int 0]), (x123, aJ Y 86 (fun _ => 0)), (m0, oC 13 [.ref m1, .ref m2, .int 1, .ref m3, .ref m4, .int 0, .int 0, .int 0, .int (-1), .int 0, .int 0, .int 0, .long 0, .ref m5, .ref m6, .int 0, .int 0]), (m1, aI Y 3640 (clB 0 (fun _ => 0))), (o0, aJ Y 1 (fun _ => 0))] rfl ?_
          exact (q_abs (b_ge k63 (n := 1) (by decide +kernel)) (b_lt k98 (n := (-1)) (by decide +kernel)) (by decide +kernel)).elim
        ·
          refine V_ws [(x0, oC 12 [.ref x1, .ref x30, .ref x59, .ref x88, .ref x117, .ref x126, .ref x127, .ref x129, .ref x132, .long 0]), (x1, oC 2 [.ref x2, .ref x4, .ref x6, .ref x8, .ref x10, .ref x12, .ref x14, .ref x16, .ref x18, .ref x20, .ref x27, .int 0]), (x2, oC 3 [.ref x3, .int 1]), (x3, aI Y 6 (upd (fun _ => 0) 0 (-1))), (x10, oC 7 [.ref x11, .int 0]), (x11, aJ Y 6 (fun _ => 0)), (x12, oC 3 [.ref x13, .int 0]), (x117, oC 11 [.ref x1, .ref x118, .ref x120, .ref x122, .ref x124]), (x122, oC 7 [.ref x123, .int 0]), (x123, aJ Y 86 (fun _ => 0)), (m0, oC 13 [.ref m1, .ref m2, .int 1, .ref m3, .ref m4, .int 0, .int 0, .int 0, .int (-1), .int 0, .int 0, .int 0, .long 0, .ref m5, .ref m6, .int 0, .int 0]), (m1, aI Y 3640 (clB 0 (fun _ => 0))), (o0, aJ Y 1 (fun _ => 0))] rfl ?_
          refine V_istore 2189 B (lv2 := [(6, .int 0), (5, .int 1), (4, .int 0), (3, .ref o0), (2, .ref m0), (1, .ref x0), (0, .ref b)]) dL_law_2189 (by decide) rfl ?_
          refine V_aload_n 2191 B dL_law_2191 4 rfl ?_
          refine V_cvi 2192 B (st := []) (As := []) (fun sz => mX12_thrown_2 l D Y (m0) (m1) (m2) (m3) (m4) (m5) (m6) sz) glV_RL_182 ⟨rfl, rfl⟩ ⟨(Nat.le_of_ble_eq_true rfl), (Nat.le_of_ble_eq_true rfl)⟩ ⟨(Nat.le_of_ble_eq_true rfl), (Nat.le_of_ble_eq_true rfl)⟩ [10] rfl 13 0 rfl rfl rfl rfl (Nat.le_of_ble_eq_true rfl) rfl (fun _ _ _ => rfl) dL_law_2192 (fun r100 u100 w100 => ?_)
          obtain rfl := w100
          refine V_ws [(x0, oC 12 [.ref x1, .ref x30, .ref x59, .ref x88, .ref x117, .ref x126, .ref x127, .ref x129, .ref x132, .long 0]), (x1, oC 2 [.ref x2, .ref x4, .ref x6, .ref x8, .ref x10, .ref x12, .ref x14, .ref x16, .ref x18, .ref x20, .ref x27, .int 0]), (x2, oC 3 [.ref x3, .int 1]), (x3, aI Y 6 (upd (fun _ => 0) 0 (-1))), (x10, oC 7 [.ref x11, .int 0]), (x11, aJ Y 6 (fun _ => 0)), (x12, oC 3 [.ref x13, .int 0]), (x117, oC 11 [.ref x1, .ref x118, .ref x120, .ref x122, .ref x124]), (x122, oC 7 [.ref x123, .int 0]), (x123, aJ Y 86 (fun _ => 0)), (m0, oC 13 [.ref m1, .ref m2, .int 1, .ref m3, .ref m4, .int 0, .int 0, .int 0, .int (-1), .int 0, .int 0, .int 0, .long 0, .ref m5, .ref m6, .int 0, .int 0]), (m1, aI Y 3640 (clB 0 (fun _ => 0))), (o0, aJ Y 1 (fun _ => 0))] rfl ?_
          refine V_iload 2195 B dL_law_2195 1 rfl ?_
          refine V_icmp_eq_t 2197 B 2202 dL_law_2197 (by decide) (by decide +kernel) ?_
          refine V_iload 2202 B dL_law_2202 1 rfl ?_
          refine V_if_ne_t 2204 B 2219 dL_law_2204 (by decide) (by decide +kernel) ?_
          refine V_goto 2219 B 3332 dL_law_2219 (by decide) ?_
          refine V_iinc 3332 B (v := 6) (lv2 := [(4, .int 6), (6, .int 0), (5, .int 1), (3, .ref o0), (2, .ref m0), (1, .ref x0), (0, .ref b)]) dL_law_3332 2 rfl (by decide +kernel) (by decide) rfl ?_
          refine V_goto 3335 B 23 dL_law_3335 (by decide) ?_
          refine V_iload 23 B dL_law_23 0 rfl ?_
          refine V_aload_n 25 B dL_law_25 6 rfl ?_
          refine V_slen 26 B hX hbl hbA (v := 6) (by decide +kernel) dL_law_26 ?_
          refine V_bipush 27 B (v := 6) dL_law_27 (by decide +kernel) ?_
          refine V_isub 29 B (v := 0) dL_law_29 (by decide +kernel) ?_
          refine V_icmp_gt_t 30 B 3338 dL_law_30 (by decide) (by decide +kernel) ?_
          exact law_end B (Nat.le_of_ble_eq_true rfl) (Nat.le_of_ble_eq_true rfl) dL_law_3338 dL_law_3339
    ·
      refine V_ws [(x0, oC 12 [.ref x1, .ref x30, .ref x59, .ref x88, .ref x117, .ref x126, .ref x127, .ref x129, .ref x132, .long 0]), (x1, oC 2 [.ref x2, .ref x4, .ref x6, .ref x8, .ref x10, .ref x12, .ref x14, .ref x16, .ref x18, .ref x20, .ref x27, .int 0]), (x2, oC 3 [.ref x3, .int 1]), (x3, aI Y 6 (upd (fun _ => 0) 0 (-1))), (x10, oC 7 [.ref x11, .int 0]), (x11, aJ Y 6 (fun _ => 0)), (x12, oC 3 [.ref x13, .int 0]), (x117, oC 11 [.ref x1, .ref x118, .ref x120, .ref x122, .ref x124]), (x122, oC 7 [.ref x123, .int 0]), (x123, aJ Y 86 (fun _ => 0)), (m0, oC 13 [.ref m1, .ref m2, .int 0, .ref m3, .ref m4, .int 0, .int 0, .int 0, .int (-1), .int 0, .int 0, .int 0, .long 0, .ref m5, .ref m6, .int 0, .int 0]), (m1, aI Y 3640 (clB 0 (fun _ => 0))), (o0, aJ Y 1 (fun _ => 0))] rfl ?_
      obtain rfl : p1 = 0 := k64
      refine V_istore 2157 B (lv2 := [(5, .int 2), (4, .int 0), (3, .ref o0), (2, .ref m0), (1, .ref x0), (0, .ref b)]) dL_law_2157 (by decide) rfl ?_
      refine V_aload_n 2159 B dL_law_2159 3 rfl ?_
      refine V_aload_n 2160 B dL_law_2160 5 rfl ?_
      refine V_iload 2161 B dL_law_2161 1 rfl ?_
      refine V_iconst 2163 B (v := 1) dL_law_2163 (by decide +kernel) ?_
      refine V_iadd 2164 B (v := 1) dL_law_2164 (by decide +kernel) ?_
      refine V_sld 2165 B hX hbl hbA (v := 0) (vpin _ _ (by decide +kernel)) dL_law_2165 e1 ?_
      refine V_aload_n 2166 B dL_law_2166 5 rfl ?_
      refine V_iload 2167 B dL_law_2167 1 rfl ?_
      refine V_iconst 2169 B (v := 2) dL_law_2169 (by decide +kernel) ?_
      refine V_iadd 2170 B (v := 2) dL_law_2170 (by decide +kernel) ?_
      refine V_sld 2171 B hX hbl hbA (v := p2) (vpin _ _ (by decide +kernel)) dL_law_2171 e2 ?_
      refine V_aload_n 2172 B dL_law_2172 5 rfl ?_
      refine V_iload 2173 B dL_law_2173 1 rfl ?_
      refine V_iconst 2175 B (v := 3) dL_law_2175 (by decide +kernel) ?_
      refine V_iadd 2176 B (v := 3) dL_law_2176 (by decide +kernel) ?_
      refine V_sld 2177 B hX hbl hbA (v := p3) (vpin _ _ (by decide +kernel)) dL_law_2177 e3 ?_
      refine V_if_eq 2178 B 2185 dL_law_2178 (by decide) (fun k101 => ?_) (fun k101 => ?_)
      ·
        exact absurd k101 k0
      ·
        refine V_iconst 2181 B (v := 1) dL_law_2181 (by decide +kernel) ?_
        refine V_goto 2182 B 2186 dL_law_2182 (by decide) ?_
        refine V_cvi 2186 B (st := []) (As := [.int 0, .int p2, .int 1]) (fun sz => mX12_cheapest_6 l D Y (m0) (m1) (m2) (m3) (m4) (m5) (m6) (p2) sz) glV_RL_280 ⟨rfl, rfl⟩ ⟨(Nat.le_of_ble_eq_true rfl), (Nat.le_of_ble_eq_true rfl)⟩ ⟨(Nat.le_of_ble_eq_true rfl), (Nat.le_of_ble_eq_true rfl)⟩ [10, 0] rfl 13 0 rfl rfl rfl rfl (Nat.le_of_ble_eq_true rfl) rfl (fun _ u _ => by
        first | rfl | (split <;> rfl) | (dsimp only; split <;> rfl)) dL_law_2186 (fun r102 u102 w102 => ?_)
        rcases w102 with ⟨rfl, k103, rfl⟩ | ⟨rfl, k104, rfl⟩ | ⟨rfl, k105, rfl⟩ | ⟨rfl, k106, rfl⟩
        ·
          refine V_ws [(x0, oC 12 [.ref x1, .ref x30, .ref x59, .ref x88, .ref x117, .ref x126, .ref x127, .ref x129, .ref x132, .long 0]), (x1, oC 2 [.ref x2, .ref x4, .ref x6, .ref x8, .ref x10, .ref x12, .ref x14, .ref x16, .ref x18, .ref x20, .ref x27, .int 0]), (x2, oC 3 [.ref x3, .int 1]), (x3, aI Y 6 (upd (fun _ => 0) 0 (-1))), (x10, oC 7 [.ref x11, .int 0]), (x11, aJ Y 6 (fun _ => 0)), (x12, oC 3 [.ref x13, .int 0]), (x117, oC 11 [.ref x1, .ref x118, .ref x120, .ref x122, .ref x124]), (x122, oC 7 [.ref x123, .int 0]), (x123, aJ Y 86 (fun _ => 0)), (m0, oC 13 [.ref m1, .ref m2, .int 0, .ref m3, .ref m4, .int 0, .int 0, .int 0, .int (-1), .int 0, .int 0, .int 0, .long 0, .ref m5, .ref m6, .int 0, .int 0]), (m1, aI Y 3640 (upd (upd (upd (upd (upd (upd (clB 0 (fun _ => 0)) 3629 1) 3630 281) 3631 0) 3624 1) 3625 0) 3626 0)), (o0, aJ Y 1 (fun _ => 0))] rfl ?_
          exact absurd k103 (q_neh (b_lt k65 (n := 0) (by decide +kernel)) (by decide +kernel))
        ·
          refine V_ws [(x0, oC 12 [.ref x1, .ref x30, .ref x59, .ref x88, .ref x117, .ref x126, .ref x127, .ref x129, .ref x132, .long 0]), (x1, oC 2 [.ref x2, .ref x4, .ref x6, .ref x8, .ref x10, .ref x12, .ref x14, .ref x16, .ref x18, .ref x20, .ref x27, .int 0]), (x2, oC 3 [.ref x3, .int 1]), (x3, aI Y 6 (upd (fun _ => 0) 0 (-1))), (x10, oC 7 [.ref x11, .int 0]), (x11, aJ Y 6 (fun _ => 0)), (x12, oC 3 [.ref x13, .int 0]), (x117, oC 11 [.ref x1, .ref x118, .ref x120, .ref x122, .ref x124]), (x122, oC 7 [.ref x123, .int 0]), (x123, aJ Y 86 (fun _ => 0)), (m0, oC 13 [.ref m1, .ref m2, .int 0, .ref m3, .ref m4, .int 0, .int 0, .int 0, .int (-1), .int 0, .int 0, .int 0, .long 0, .ref m5, .ref m6, .int 0, .int 0]), (m1, aI Y 3640 (upd (upd (upd (upd (upd (upd (clB 0 (fun _ => 0)) 3629 2) 3630 281) 3631 281) 3624 2) 3625 0) 3626 0)), (o0, aJ Y 1 (fun _ => 0))] rfl ?_
          exact absurd k104 (q_neh (b_lt k65 (n := 0) (by decide +kernel)) (by decide +kernel))
        ·
          refine V_ws [(x0, oC 12 [.ref x1, .ref x30, .ref x59, .ref x88, .ref x117, .ref x126, .ref x127, .ref x129, .ref x132, .long 0]), (x1, oC 2 [.ref x2, .ref x4, .ref x6, .ref x8, .ref x10, .ref x12, .ref x14, .ref x16, .ref x18, .ref x20, .ref x27, .int 0]), (x2, oC 3 [.ref x3, .int 1]), (x3, aI Y 6 (upd (fun _ => 0) 0 (-1))), (x10, oC 7 [.ref x11, .int 0]), (x11, aJ Y 6 (fun _ => 0)), (x12, oC 3 [.ref x13, .int 0]), (x117, oC 11 [.ref x1, .ref x118, .ref x120, .ref x122, .ref x124]), (x122, oC 7 [.ref x123, .int 0]), (x123, aJ Y 86 (fun _ => 0)), (m0, oC 13 [.ref m1, .ref m2, .int 2, .ref m3, .ref m4, .int 0, .int 0, .int 0, .int (-1), .int 0, .int 0, .int 0, .long 0, .ref m5, .ref m6, .int 0, .int 0]), (m1, aI Y 3640 (clB 0 (fun _ => 0))), (o0, aJ Y 1 (fun _ => 0))] rfl ?_
          refine V_istore 2189 B (lv2 := [(6, .int 0), (5, .int 2), (4, .int 0), (3, .ref o0), (2, .ref m0), (1, .ref x0), (0, .ref b)]) dL_law_2189 (by decide) rfl ?_
          refine V_aload_n 2191 B dL_law_2191 4 rfl ?_
          refine V_cvi 2192 B (st := []) (As := []) (fun sz => mX12_thrown_3 l D Y (m0) (m1) (m2) (m3) (m4) (m5) (m6) sz) glV_RL_182 ⟨rfl, rfl⟩ ⟨(Nat.le_of_ble_eq_true rfl), (Nat.le_of_ble_eq_true rfl)⟩ ⟨(Nat.le_of_ble_eq_true rfl), (Nat.le_of_ble_eq_true rfl)⟩ [10] rfl 13 0 rfl rfl rfl rfl (Nat.le_of_ble_eq_true rfl) rfl (fun _ _ _ => rfl) dL_law_2192 (fun r107 u107 w107 => ?_)
          obtain rfl := w107
          refine V_ws [(x0, oC 12 [.ref x1, .ref x30, .ref x59, .ref x88, .ref x117, .ref x126, .ref x127, .ref x129, .ref x132, .long 0]), (x1, oC 2 [.ref x2, .ref x4, .ref x6, .ref x8, .ref x10, .ref x12, .ref x14, .ref x16, .ref x18, .ref x20, .ref x27, .int 0]), (x2, oC 3 [.ref x3, .int 1]), (x3, aI Y 6 (upd (fun _ => 0) 0 (-1))), (x10, oC 7 [.ref x11, .int 0]), (x11, aJ Y 6 (fun _ => 0)), (x12, oC 3 [.ref x13, .int 0]), (x117, oC 11 [.ref x1, .ref x118, .ref x120, .ref x122, .ref x124]), (x122, oC 7 [.ref x123, .int 0]), (x123, aJ Y 86 (fun _ => 0)), (m0, oC 13 [.ref m1, .ref m2, .int 2, .ref m3, .ref m4, .int 0, .int 0, .int 0, .int (-1), .int 0, .int 0, .int 0, .long 0, .ref m5, .ref m6, .int 0, .int 0]), (m1, aI Y 3640 (clB 0 (fun _ => 0))), (o0, aJ Y 1 (fun _ => 0))] rfl ?_
          refine V_iload 2195 B dL_law_2195 1 rfl ?_
          refine V_icmp_eq_t 2197 B 2202 dL_law_2197 (by decide) (by decide +kernel) ?_
          refine V_iload 2202 B dL_law_2202 1 rfl ?_
          refine V_if_ne_t 2204 B 2219 dL_law_2204 (by decide) (by decide +kernel) ?_
          refine V_goto 2219 B 3332 dL_law_2219 (by decide) ?_
          refine V_iinc 3332 B (v := 6) (lv2 := [(4, .int 6), (6, .int 0), (5, .int 2), (3, .ref o0), (2, .ref m0), (1, .ref x0), (0, .ref b)]) dL_law_3332 2 rfl (by decide +kernel) (by decide) rfl ?_
          refine V_goto 3335 B 23 dL_law_3335 (by decide) ?_
          refine V_iload 23 B dL_law_23 0 rfl ?_
          refine V_aload_n 25 B dL_law_25 6 rfl ?_
          refine V_slen 26 B hX hbl hbA (v := 6) (by decide +kernel) dL_law_26 ?_
          refine V_bipush 27 B (v := 6) dL_law_27 (by decide +kernel) ?_
          refine V_isub 29 B (v := 0) dL_law_29 (by decide +kernel) ?_
          refine V_icmp_gt_t 30 B 3338 dL_law_30 (by decide) (by decide +kernel) ?_
          exact law_end B (Nat.le_of_ble_eq_true rfl) (Nat.le_of_ble_eq_true rfl) dL_law_3338 dL_law_3339
        ·
          refine V_ws [(x0, oC 12 [.ref x1, .ref x30, .ref x59, .ref x88, .ref x117, .ref x126, .ref x127, .ref x129, .ref x132, .long 0]), (x1, oC 2 [.ref x2, .ref x4, .ref x6, .ref x8, .ref x10, .ref x12, .ref x14, .ref x16, .ref x18, .ref x20, .ref x27, .int 0]), (x2, oC 3 [.ref x3, .int 1]), (x3, aI Y 6 (upd (fun _ => 0) 0 (-1))), (x10, oC 7 [.ref x11, .int 0]), (x11, aJ Y 6 (fun _ => 0)), (x12, oC 3 [.ref x13, .int 0]), (x117, oC 11 [.ref x1, .ref x118, .ref x120, .ref x122, .ref x124]), (x122, oC 7 [.ref x123, .int 0]), (x123, aJ Y 86 (fun _ => 0)), (m0, oC 13 [.ref m1, .ref m2, .int 2, .ref m3, .ref m4, .int 0, .int 0, .int 0, .int (-1), .int 0, .int 0, .int 0, .long 0, .ref m5, .ref m6, .int 0, .int 0]), (m1, aI Y 3640 (clB 0 (fun _ => 0))), (o0, aJ Y 1 (fun _ => 0))] rfl ?_
          exact (q_abs (b_gt k106 (n := 3) (by decide +kernel)) (b_lt k65 (n := 0) (by decide +kernel)) (by decide +kernel)).elim
    ·
      refine V_ws [(x0, oC 12 [.ref x1, .ref x30, .ref x59, .ref x88, .ref x117, .ref x126, .ref x127, .ref x129, .ref x132, .long 0]), (x1, oC 2 [.ref x2, .ref x4, .ref x6, .ref x8, .ref x10, .ref x12, .ref x14, .ref x16, .ref x18, .ref x20, .ref x27, .int 0]), (x2, oC 3 [.ref x3, .int 1]), (x3, aI Y 6 (upd (fun _ => 0) 0 (-1))), (x10, oC 7 [.ref x11, .int 0]), (x11, aJ Y 6 (fun _ => 0)), (x12, oC 3 [.ref x13, .int 0]), (x117, oC 11 [.ref x1, .ref x118, .ref x120, .ref x122, .ref x124]), (x122, oC 7 [.ref x123, .int 0]), (x123, aJ Y 86 (fun _ => 0)), (m0, oC 13 [.ref m1, .ref m2, .int 0, .ref m3, .ref m4, .int 0, .int 0, .int 0, .int (-1), .int 0, .int 0, .int 0, .long 0, .ref m5, .ref m6, .int 0, .int 0]), (m1, aI Y 3640 (clB 0 (fun _ => 0))), (o0, aJ Y 1 (fun _ => 0))] rfl ?_
      obtain rfl : p1 = 0 := k66
      refine V_istore 2157 B (lv2 := [(5, .int 2), (4, .int 0), (3, .ref o0), (2, .ref m0), (1, .ref x0), (0, .ref b)]) dL_law_2157 (by decide) rfl ?_
      refine V_aload_n 2159 B dL_law_2159 3 rfl ?_
      refine V_aload_n 2160 B dL_law_2160 5 rfl ?_
      refine V_iload 2161 B dL_law_2161 1 rfl ?_
      refine V_iconst 2163 B (v := 1) dL_law_2163 (by decide +kernel) ?_
      refine V_iadd 2164 B (v := 1) dL_law_2164 (by decide +kernel) ?_
      refine V_sld 2165 B hX hbl hbA (v := 0) (vpin _ _ (by decide +kernel)) dL_law_2165 e1 ?_
      refine V_aload_n 2166 B dL_law_2166 5 rfl ?_
      refine V_iload 2167 B dL_law_2167 1 rfl ?_
      refine V_iconst 2169 B (v := 2) dL_law_2169 (by decide +kernel) ?_
      refine V_iadd 2170 B (v := 2) dL_law_2170 (by decide +kernel) ?_
      refine V_sld 2171 B hX hbl hbA (v := p2) (vpin _ _ (by decide +kernel)) dL_law_2171 e2 ?_
      refine V_aload_n 2172 B dL_law_2172 5 rfl ?_
      refine V_iload 2173 B dL_law_2173 1 rfl ?_
      refine V_iconst 2175 B (v := 3) dL_law_2175 (by decide +kernel) ?_
      refine V_iadd 2176 B (v := 3) dL_law_2176 (by decide +kernel) ?_
      refine V_sld 2177 B hX hbl hbA (v := p3) (vpin _ _ (by decide +kernel)) dL_law_2177 e3 ?_
      refine V_if_eq 2178 B 2185 dL_law_2178 (by decide) (fun k108 => ?_) (fun k108 => ?_)
      ·
        exact absurd k108 k0
      ·
        refine V_iconst 2181 B (v := 1) dL_law_2181 (by decide +kernel) ?_
        refine V_goto 2182 B 2186 dL_law_2182 (by decide) ?_
        refine V_cvi 2186 B (st := []) (As := [.int 0, .int p2, .int 1]) (fun sz => mX12_cheapest_6 l D Y (m0) (m1) (m2) (m3) (m4) (m5) (m6) (p2) sz) glV_RL_280 ⟨rfl, rfl⟩ ⟨(Nat.le_of_ble_eq_true rfl), (Nat.le_of_ble_eq_true rfl)⟩ ⟨(Nat.le_of_ble_eq_true rfl), (Nat.le_of_ble_eq_true rfl)⟩ [10, 0] rfl 13 0 rfl rfl rfl rfl (Nat.le_of_ble_eq_true rfl) rfl (fun _ u _ => by
        first | rfl | (split <;> rfl) | (dsimp only; split <;> rfl)) dL_law_2186 (fun r109 u109 w109 => ?_)
        rcases w109 with ⟨rfl, k110, rfl⟩ | ⟨rfl, k111, rfl⟩ | ⟨rfl, k112, rfl⟩ | ⟨rfl, k113, rfl⟩
        ·
          refine V_ws [(x0, oC 12 [.ref x1, .ref x30, .ref x59, .ref x88, .ref x117, .ref x126, .ref x127, .ref x129, .ref x132, .long 0]), (x1, oC 2 [.ref x2, .ref x4, .ref x6, .ref x8, .ref x10, .ref x12, .ref x14, .ref x16, .ref x18, .ref x20, .ref x27, .int 0]), (x2, oC 3 [.ref x3, .int 1]), (x3, aI Y 6 (upd (fun _ => 0) 0 (-1))), (x10, oC 7 [.ref x11, .int 0]), (x11, aJ Y 6 (fun _ => 0)), (x12, oC 3 [.ref x13, .int 0]), (x117, oC 11 [.ref x1, .ref x118, .ref x120, .ref x122, .ref x124]), (x122, oC 7 [.ref x123, .int 0]), (x123, aJ Y 86 (fun _ => 0)), (m0, oC 13 [.ref m1, .ref m2, .int 0, .ref m3, .ref m4, .int 0, .int 0, .int 0, .int (-1), .int 0, .int 0, .int 0, .long 0, .ref m5, .ref m6, .int 0, .int 0]), (m1, aI Y 3640 (upd (upd (upd (upd (upd (upd (clB 0 (fun _ => 0)) 3629 1) 3630 281) 3631 0) 3624 1) 3625 0) 3626 0)), (o0, aJ Y 1 (fun _ => 0))] rfl ?_
          exact absurd k110 (q_nel (b_nle k68 (n := 3) (by decide +kernel)) (by decide +kernel))
        ·
          refine V_ws [(x0, oC 12 [.ref x1, .ref x30, .ref x59, .ref x88, .ref x117, .ref x126, .ref x127, .ref x129, .ref x132, .long 0]), (x1, oC 2 [.ref x2, .ref x4, .ref x6, .ref x8, .ref x10, .ref x12, .ref x14, .ref x16, .ref x18, .ref x20, .ref x27, .int 0]), (x2, oC 3 [.ref x3, .int 1]), (x3, aI Y 6 (upd (fun _ => 0) 0 (-1))), (x10, oC 7 [.ref x11, .int 0]), (x11, aJ Y 6 (fun _ => 0)), (x12, oC 3 [.ref x13, .int 0]), (x117, oC 11 [.ref x1, .ref x118, .ref x120, .ref x122, .ref x124]), (x122, oC 7 [.ref x123, .int 0]), (x123, aJ Y 86 (fun _ => 0)), (m0, oC 13 [.ref m1, .ref m2, .int 0, .ref m3, .ref m4, .int 0, .int 0, .int 0, .int (-1), .int 0, .int 0, .int 0, .long 0, .ref m5, .ref m6, .int 0, .int 0]), (m1, aI Y 3640 (upd (upd (upd (upd (upd (upd (clB 0 (fun _ => 0)) 3629 2) 3630 281) 3631 281) 3624 2) 3625 0) 3626 0)), (o0, aJ Y 1 (fun _ => 0))] rfl ?_
          exact absurd k111 (q_nel (b_nle k68 (n := 3) (by decide +kernel)) (by decide +kernel))
        ·
          refine V_ws [(x0, oC 12 [.ref x1, .ref x30, .ref x59, .ref x88, .ref x117, .ref x126, .ref x127, .ref x129, .ref x132, .long 0]), (x1, oC 2 [.ref x2, .ref x4, .ref x6, .ref x8, .ref x10, .ref x12, .ref x14, .ref x16, .ref x18, .ref x20, .ref x27, .int 0]), (x2, oC 3 [.ref x3, .int 1]), (x3, aI Y 6 (upd (fun _ => 0) 0 (-1))), (x10, oC 7 [.ref x11, .int 0]), (x11, aJ Y 6 (fun _ => 0)), (x12, oC 3 [.ref x13, .int 0]), (x117, oC 11 [.ref x1, .ref x118, .ref x120, .ref x122, .ref x124]), (x122, oC 7 [.ref x123, .int 0]), (x123, aJ Y 86 (fun _ => 0)), (m0, oC 13 [.ref m1, .ref m2, .int 2, .ref m3, .ref m4, .int 0, .int 0, .int 0, .int (-1), .int 0, .int 0, .int 0, .long 0, .ref m5, .ref m6, .int 0, .int 0]), (m1, aI Y 3640 (clB 0 (fun _ => 0))), (o0, aJ Y 1 (fun _ => 0))] rfl ?_
          exact (q_abs (b_nle k68 (n := 3) (by decide +kernel)) (b_lt k112 (n := 0) (by decide +kernel)) (by decide +kernel)).elim
        ·
          refine V_ws [(x0, oC 12 [.ref x1, .ref x30, .ref x59, .ref x88, .ref x117, .ref x126, .ref x127, .ref x129, .ref x132, .long 0]), (x1, oC 2 [.ref x2, .ref x4, .ref x6, .ref x8, .ref x10, .ref x12, .ref x14, .ref x16, .ref x18, .ref x20, .ref x27, .int 0]), (x2, oC 3 [.ref x3, .int 1]), (x3, aI Y 6 (upd (fun _ => 0) 0 (-1))), (x10, oC 7 [.ref x11, .int 0]), (x11, aJ Y 6 (fun _ => 0)), (x12, oC 3 [.ref x13, .int 0]), (x117, oC 11 [.ref x1, .ref x118, .ref x120, .ref x122, .ref x124]), (x122, oC 7 [.ref x123, .int 0]), (x123, aJ Y 86 (fun _ => 0)), (m0, oC 13 [.ref m1, .ref m2, .int 2, .ref m3, .ref m4, .int 0, .int 0, .int 0, .int (-1), .int 0, .int 0, .int 0, .long 0, .ref m5, .ref m6, .int 0, .int 0]), (m1, aI Y 3640 (clB 0 (fun _ => 0))), (o0, aJ Y 1 (fun _ => 0))] rfl ?_
          refine V_istore 2189 B (lv2 := [(6, .int 0), (5, .int 2), (4, .int 0), (3, .ref o0), (2, .ref m0), (1, .ref x0), (0, .ref b)]) dL_law_2189 (by decide) rfl ?_
          refine V_aload_n 2191 B dL_law_2191 4 rfl ?_
          refine V_cvi 2192 B (st := []) (As := []) (fun sz => mX12_thrown_3 l D Y (m0) (m1) (m2) (m3) (m4) (m5) (m6) sz) glV_RL_182 ⟨rfl, rfl⟩ ⟨(Nat.le_of_ble_eq_true rfl), (Nat.le_of_ble_eq_true rfl)⟩ ⟨(Nat.le_of_ble_eq_true rfl), (Nat.le_of_ble_eq_true rfl)⟩ [10] rfl 13 0 rfl rfl rfl rfl (Nat.le_of_ble_eq_true rfl) rfl (fun _ _ _ => rfl) dL_law_2192 (fun r114 u114 w114 => ?_)
          obtain rfl := w114
          refine V_ws [(x0, oC 12 [.ref x1, .ref x30, .ref x59, .ref x88, .ref x117, .ref x126, .ref x127, .ref x129, .ref x132, .long 0]), (x1, oC 2 [.ref x2, .ref x4, .ref x6, .ref x8, .ref x10, .ref x12, .ref x14, .ref x16, .ref x18, .ref x20, .ref x27, .int 0]), (x2, oC 3 [.ref x3, .int 1]), (x3, aI Y 6 (upd (fun _ => 0) 0 (-1))), (x10, oC 7 [.ref x11, .int 0]), (x11, aJ Y 6 (fun _ => 0)), (x12, oC 3 [.ref x13, .int 0]), (x117, oC 11 [.ref x1, .ref x118, .ref x120, .ref x122, .ref x124]), (x122, oC 7 [.ref x123, .int 0]), (x123, aJ Y 86 (fun _ => 0)), (m0, oC 13 [.ref m1, .ref m2, .int 2, .ref m3, .ref m4, .int 0, .int 0, .int 0, .int (-1), .int 0, .int 0, .int 0, .long 0, .ref m5, .ref m6, .int 0, .int 0]), (m1, aI Y 3640 (clB 0 (fun _ => 0))), (o0, aJ Y 1 (fun _ => 0))] rfl ?_
          refine V_iload 2195 B dL_law_2195 1 rfl ?_
          refine V_icmp_eq_t 2197 B 2202 dL_law_2197 (by decide) (by decide +kernel) ?_
          refine V_iload 2202 B dL_law_2202 1 rfl ?_
          refine V_if_ne_t 2204 B 2219 dL_law_2204 (by decide) (by decide +kernel) ?_
          refine V_goto 2219 B 3332 dL_law_2219 (by decide) ?_
          refine V_iinc 3332 B (v := 6) (lv2 := [(4, .int 6), (6, .int 0), (5, .int 2), (3, .ref o0), (2, .ref m0), (1, .ref x0), (0, .ref b)]) dL_law_3332 2 rfl (by decide +kernel) (by decide) rfl ?_
          refine V_goto 3335 B 23 dL_law_3335 (by decide) ?_
          refine V_iload 23 B dL_law_23 0 rfl ?_
          refine V_aload_n 25 B dL_law_25 6 rfl ?_
          refine V_slen 26 B hX hbl hbA (v := 6) (by decide +kernel) dL_law_26 ?_
          refine V_bipush 27 B (v := 6) dL_law_27 (by decide +kernel) ?_
          refine V_isub 29 B (v := 0) dL_law_29 (by decide +kernel) ?_
          refine V_icmp_gt_t 30 B 3338 dL_law_30 (by decide) (by decide +kernel) ?_
          exact law_end B (Nat.le_of_ble_eq_true rfl) (Nat.le_of_ble_eq_true rfl) dL_law_3338 dL_law_3339
    ·
      refine V_ws [(x0, oC 12 [.ref x1, .ref x30, .ref x59, .ref x88, .ref x117, .ref x126, .ref x127, .ref x129, .ref x132, .long 134479872]), (x1, oC 2 [.ref x2, .ref x4, .ref x6, .ref x8, .ref x10, .ref x12, .ref x14, .ref x16, .ref x18, .ref x20, .ref x27, .int 0]), (x2, oC 3 [.ref x3, .int 1]), (x3, aI Y 6 (upd (fun _ => 0) 0 (-1))), (x10, oC 7 [.ref x11, .int 0]), (x11, aJ Y 6 (fun _ => 0)), (x12, oC 3 [.ref x13, .int 0]), (x117, oC 11 [.ref x1, .ref x118, .ref x120, .ref x122, .ref x124]), (x122, oC 7 [.ref x123, .int 0]), (x123, aJ Y 86 (fun _ => 0)), (m0, oC 13 [.ref m1, .ref m2, .int 0, .ref m3, .ref m4, .int 0, .int 0, .int 0, .int (-1), .int 0, .int 0, .int 0, .long 0, .ref m5, .ref m6, .int 0, .int 0]), (m1, aI Y 3640 (clB 0 (fun _ => 0))), (o0, aJ Y 1 (vp_updL (fun _ => 0) 0 2))] rfl ?_
      obtain rfl : p1 = 0 := k69
      refine V_istore 2157 B (lv2 := [(5, .int 0), (4, .int 0), (3, .ref o0), (2, .ref m0), (1, .ref x0), (0, .ref b)]) dL_law_2157 (by decide) rfl ?_
      refine V_aload_n 2159 B dL_law_2159 3 rfl ?_
      refine V_aload_n 2160 B dL_law_2160 5 rfl ?_
      refine V_iload 2161 B dL_law_2161 1 rfl ?_
      refine V_iconst 2163 B (v := 1) dL_law_2163 (by decide +kernel) ?_
      refine V_iadd 2164 B (v := 1) dL_law_2164 (by decide +kernel) ?_
      refine V_sld 2165 B hX hbl hbA (v := 0) (vpin _ _ (by decide +kernel)) dL_law_2165 e1 ?_
      refine V_aload_n 2166 B dL_law_2166 5 rfl ?_
      refine V_iload 2167 B dL_law_2167 1 rfl ?_
      refine V_iconst 2169 B (v := 2) dL_law_2169 (by decide +kernel) ?_
      refine V_iadd 2170 B (v := 2) dL_law_2170 (by decide +kernel) ?_
      refine V_sld 2171 B hX hbl hbA (v := p2) (vpin _ _ (by decide +kernel)) dL_law_2171 e2 ?_
      refine V_aload_n 2172 B dL_law_2172 5 rfl ?_
      refine V_iload 2173 B dL_law_2173 1 rfl ?_
      refine V_iconst 2175 B (v := 3) dL_law_2175 (by decide +kernel) ?_
      refine V_iadd 2176 B (v := 3) dL_law_2176 (by decide +kernel) ?_
      refine V_sld 2177 B hX hbl hbA (v := p3) (vpin _ _ (by decide +kernel)) dL_law_2177 e3 ?_
      refine V_if_eq 2178 B 2185 dL_law_2178 (by decide) (fun k115 => ?_) (fun k115 => ?_)
      ·
        exact absurd k115 k0
      ·
        refine V_iconst 2181 B (v := 1) dL_law_2181 (by decide +kernel) ?_
        refine V_goto 2182 B 2186 dL_law_2182 (by decide) ?_
        refine V_cvi 2186 B (st := []) (As := [.int 0, .int p2, .int 1]) (fun sz => mX12_cheapest_6 l D Y (m0) (m1) (m2) (m3) (m4) (m5) (m6) (p2) sz) glV_RL_280 ⟨rfl, rfl⟩ ⟨(Nat.le_of_ble_eq_true rfl), (Nat.le_of_ble_eq_true rfl)⟩ ⟨(Nat.le_of_ble_eq_true rfl), (Nat.le_of_ble_eq_true rfl)⟩ [10, 0] rfl 13 0 rfl rfl rfl rfl (Nat.le_of_ble_eq_true rfl) rfl (fun _ u _ => by
        first | rfl | (split <;> rfl) | (dsimp only; split <;> rfl)) dL_law_2186 (fun r116 u116 w116 => ?_)
        rcases w116 with ⟨rfl, k117, rfl⟩ | ⟨rfl, k118, rfl⟩ | ⟨rfl, k119, rfl⟩ | ⟨rfl, k120, rfl⟩
        ·
          refine V_ws [(x0, oC 12 [.ref x1, .ref x30, .ref x59, .ref x88, .ref x117, .ref x126, .ref x127, .ref x129, .ref x132, .long 134479872]), (x1, oC 2 [.ref x2, .ref x4, .ref x6, .ref x8, .ref x10, .ref x12, .ref x14, .ref x16, .ref x18, .ref x20, .ref x27, .int 0]), (x2, oC 3 [.ref x3, .int 1]), (x3, aI Y 6 (upd (fun _ => 0) 0 (-1))), (x10, oC 7 [.ref x11, .int 0]), (x11, aJ Y 6 (fun _ => 0)), (x12, oC 3 [.ref x13, .int 0]), (x117, oC 11 [.ref x1, .ref x118, .ref x120, .ref x122, .ref x124]), (x122, oC 7 [.ref x123, .int 0]), (x123, aJ Y 86 (fun _ => 0)), (m0, oC 13 [.ref m1, .ref m2, .int 0, .ref m3, .ref m4, .int 0, .int 0, .int 0, .int (-1), .int 0, .int 0, .int 0, .long 0, .ref m5, .ref m6, .int 0, .int 0]), (m1, aI Y 3640 (upd (upd (upd (upd (upd (upd (clB 0 (fun _ => 0)) 3629 1) 3630 281) 3631 0) 3624 1) 3625 0) 3626 0)), (o0, aJ Y 1 (vp_updL (fun _ => 0) 0 2))] rfl ?_
          exact absurd k117 k72
        ·
          refine V_ws [(x0, oC 12 [.ref x1, .ref x30, .ref x59, .ref x88, .ref x117, .ref x126, .ref x127, .ref x129, .ref x132, .long 134479872]), (x1, oC 2 [.ref x2, .ref x4, .ref x6, .ref x8, .ref x10, .ref x12, .ref x14, .ref x16, .ref x18, .ref x20, .ref x27, .int 0]), (x2, oC 3 [.ref x3, .int 1]), (x3, aI Y 6 (upd (fun _ => 0) 0 (-1))), (x10, oC 7 [.ref x11, .int 0]), (x11, aJ Y 6 (fun _ => 0)), (x12, oC 3 [.ref x13, .int 0]), (x117, oC 11 [.ref x1, .ref x118, .ref x120, .ref x122, .ref x124]), (x122, oC 7 [.ref x123, .int 0]), (x123, aJ Y 86 (fun _ => 0)), (m0, oC 13 [.ref m1, .ref m2, .int 0, .ref m3, .ref m4, .int 0, .int 0, .int 0, .int (-1), .int 0, .int 0, .int 0, .long 0, .ref m5, .ref m6, .int 0, .int 0]), (m1, aI Y 3640 (upd (upd (upd (upd (upd (upd (clB 0 (fun _ => 0)) 3629 2) 3630 281) 3631 281) 3624 2) 3625 0) 3626 0)), (o0, aJ Y 1 (vp_updL (fun _ => 0) 0 2))] rfl ?_
          obtain rfl : p2 = 2 := k118
          refine V_istore 2189 B (lv2 := [(6, .int 2), (5, .int 0), (4, .int 0), (3, .ref o0), (2, .ref m0), (1, .ref x0), (0, .ref b)]) dL_law_2189 (by decide) rfl ?_
          refine V_aload_n 2191 B dL_law_2191 4 rfl ?_
          refine V_cvi 2192 B (st := []) (As := []) (fun sz => mX12_thrown_1 l D Y (m0) (m1) (m2) (m3) (m4) (m5) (m6) sz) glV_RL_182 ⟨rfl, rfl⟩ ⟨(Nat.le_of_ble_eq_true rfl), (Nat.le_of_ble_eq_true rfl)⟩ ⟨(Nat.le_of_ble_eq_true rfl), (Nat.le_of_ble_eq_true rfl)⟩ [10] rfl 13 0 rfl rfl rfl rfl (Nat.le_of_ble_eq_true rfl) rfl (fun _ _ _ => rfl) dL_law_2192 (fun r121 u121 w121 => ?_)
          obtain rfl := w121
          refine V_ws [(x0, oC 12 [.ref x1, .ref x30, .ref x59, .ref x88, .ref x117, .ref x126, .ref x127, .ref x129, .ref x132, .long 134479872]), (x1, oC 2 [.ref x2, .ref x4, .ref x6, .ref x8, .ref x10, .ref x12, .ref x14, .ref x16, .ref x18, .ref x20, .ref x27, .int 0]), (x2, oC 3 [.ref x3, .int 1]), (x3, aI Y 6 (upd (fun _ => 0) 0 (-1))), (x10, oC 7 [.ref x11, .int 0]), (x11, aJ Y 6 (fun _ => 0)), (x12, oC 3 [.ref x13, .int 0]), (x117, oC 11 [.ref x1, .ref x118, .ref x120, .ref x122, .ref x124]), (x122, oC 7 [.ref x123, .int 0]), (x123, aJ Y 86 (fun _ => 0)), (m0, oC 13 [.ref m1, .ref m2, .int 0, .ref m3, .ref m4, .int 0, .int 0, .int 0, .int (-1), .int 0, .int 0, .int 0, .long 0, .ref m5, .ref m6, .int 0, .int 0]), (m1, aI Y 3640 (upd (upd (upd (upd (upd (upd (clB 0 (fun _ => 0)) 3629 2) 3630 281) 3631 281) 3624 2) 3625 0) 3626 0)), (o0, aJ Y 1 (vp_updL (fun _ => 0) 0 2))] rfl ?_
          refine V_iload 2195 B dL_law_2195 1 rfl ?_
          refine V_icmp_eq_t 2197 B 2202 dL_law_2197 (by decide) (by decide +kernel) ?_
          refine V_iload 2202 B dL_law_2202 1 rfl ?_
          refine V_if_ne_f 2204 B 2219 dL_law_2204 (by decide) (by decide +kernel) ?_
          refine V_aload_n 2207 B dL_law_2207 3 rfl ?_
          refine V_iconst 2208 B (v := 0) dL_law_2208 (by decide +kernel) ?_
          refine V_lald 2209 B (v := 2) 12 rfl (vpin _ _ (by decide +kernel)) dL_law_2209 rfl ?_
          refine V_iload 2210 B dL_law_2210 0 rfl ?_
          refine V_i2l 2212 B (v := 2) dL_law_2212 (by decide +kernel) ?_
          refine V_lcmp 2213 B (v := 0) dL_law_2213 (by decide +kernel) ?_
          refine V_if_eq_t 2214 B 2219 dL_law_2214 (by decide) (by decide +kernel) ?_
          refine V_goto 2219 B 3332 dL_law_2219 (by decide) ?_
          refine V_iinc 3332 B (v := 6) (lv2 := [(4, .int 6), (6, .int 2), (5, .int 0), (3, .ref o0), (2, .ref m0), (1, .ref x0), (0, .ref b)]) dL_law_3332 2 rfl (by decide +kernel) (by decide) rfl ?_
          refine V_goto 3335 B 23 dL_law_3335 (by decide) ?_
          refine V_iload 23 B dL_law_23 0 rfl ?_
          refine V_aload_n 25 B dL_law_25 6 rfl ?_
          refine V_slen 26 B hX hbl hbA (v := 6) (by decide +kernel) dL_law_26 ?_
          refine V_bipush 27 B (v := 6) dL_law_27 (by decide +kernel) ?_
          refine V_isub 29 B (v := 0) dL_law_29 (by decide +kernel) ?_
          refine V_icmp_gt_t 30 B 3338 dL_law_30 (by decide) (by decide +kernel) ?_
          exact law_end B (Nat.le_of_ble_eq_true rfl) (Nat.le_of_ble_eq_true rfl) dL_law_3338 dL_law_3339
        ·
          refine V_ws [(x0, oC 12 [.ref x1, .ref x30, .ref x59, .ref x88, .ref x117, .ref x126, .ref x127, .ref x129, .ref x132, .long 134479872]), (x1, oC 2 [.ref x2, .ref x4, .ref x6, .ref x8, .ref x10, .ref x12, .ref x14, .ref x16, .ref x18, .ref x20, .ref x27, .int 0]), (x2, oC 3 [.ref x3, .int 1]), (x3, aI Y 6 (upd (fun _ => 0) 0 (-1))), (x10, oC 7 [.ref x11, .int 0]), (x11, aJ Y 6 (fun _ => 0)), (x12, oC 3 [.ref x13, .int 0]), (x117, oC 11 [.ref x1, .ref x118, .ref x120, .ref x122, .ref x124]), (x122, oC 7 [.ref x123, .int 0]), (x123, aJ Y 86 (fun _ => 0)), (m0, oC 13 [.ref m1, .ref m2, .int 2, .ref m3, .ref m4, .int 0, .int 0, .int 0, .int (-1), .int 0, .int 0, .int 0, .long 0, .ref m5, .ref m6, .int 0, .int 0]), (m1, aI Y 3640 (clB 0 (fun _ => 0))), (o0, aJ Y 1 (vp_updL (fun _ => 0) 0 2))] rfl ?_
          exact (q_abs (b_nlt k70 (n := 1) (by decide +kernel)) (b_lt k119 (n := 0) (by decide +kernel)) (by decide +kernel)).elim
        ·
          refine V_ws [(x0, oC 12 [.ref x1, .ref x30, .ref x59, .ref x88, .ref x117, .ref x126, .ref x127, .ref x129, .ref x132, .long 134479872]), (x1, oC 2 [.ref x2, .ref x4, .ref x6, .ref x8, .ref x10, .ref x12, .ref x14, .ref x16, .ref x18, .ref x20, .ref x27, .int 0]), (x2, oC 3 [.ref x3, .int 1]), (x3, aI Y 6 (upd (fun _ => 0) 0 (-1))), (x10, oC 7 [.ref x11, .int 0]), (x11, aJ Y 6 (fun _ => 0)), (x12, oC 3 [.ref x13, .int 0]), (x117, oC 11 [.ref x1, .ref x118, .ref x120, .ref x122, .ref x124]), (x122, oC 7 [.ref x123, .int 0]), (x123, aJ Y 86 (fun _ => 0)), (m0, oC 13 [.ref m1, .ref m2, .int 2, .ref m3, .ref m4, .int 0, .int 0, .int 0, .int (-1), .int 0, .int 0, .int 0, .long 0, .ref m5, .ref m6, .int 0, .int 0]), (m1, aI Y 3640 (clB 0 (fun _ => 0))), (o0, aJ Y 1 (vp_updL (fun _ => 0) 0 2))] rfl ?_
          exact (q_abs (b_gt k120 (n := 3) (by decide +kernel)) (b_le k71 (n := 2) (by decide +kernel)) (by decide +kernel)).elim
    ·
      refine V_ws [(x0, oC 12 [.ref x1, .ref x30, .ref x59, .ref x88, .ref x117, .ref x126, .ref x127, .ref x129, .ref x132, .long 134217728]), (x1, oC 2 [.ref x2, .ref x4, .ref x6, .ref x8, .ref x10, .ref x12, .ref x14, .ref x16, .ref x18, .ref x20, .ref x27, .int 0]), (x2, oC 3 [.ref x3, .int 1]), (x3, aI Y 6 (upd (fun _ => 0) 0 (-1))), (x10, oC 7 [.ref x11, .int 0]), (x11, aJ Y 6 (fun _ => 0)), (x12, oC 3 [.ref x13, .int 0]), (x117, oC 11 [.ref x1, .ref x118, .ref x120, .ref x122, .ref x124]), (x122, oC 7 [.ref x123, .int 0]), (x123, aJ Y 86 (fun _ => 0)), (m0, oC 13 [.ref m1, .ref m2, .int 0, .ref m3, .ref m4, .int 0, .int 0, .int 0, .int (-1), .int 0, .int 0, .int 0, .long 0, .ref m5, .ref m6, .int 0, .int 0]), (m1, aI Y 3640 (clB 0 (fun _ => 0))), (o0, aJ Y 1 (vp_updL (fun _ => 0) 0 1))] rfl ?_
      obtain rfl : p1 = 0 := k73
      obtain rfl : p2 = 1 := k74
      refine V_istore 2157 B (lv2 := [(5, .int 0), (4, .int 0), (3, .ref o0), (2, .ref m0), (1, .ref x0), (0, .ref b)]) dL_law_2157 (by decide) rfl ?_
      refine V_aload_n 2159 B dL_law_2159 3 rfl ?_
      refine V_aload_n 2160 B dL_law_2160 5 rfl ?_
      refine V_iload 2161 B dL_law_2161 1 rfl ?_
      refine V_iconst 2163 B (v := 1) dL_law_2163 (by decide +kernel) ?_
      refine V_iadd 2164 B (v := 1) dL_law_2164 (by decide +kernel) ?_
      refine V_sld 2165 B hX hbl hbA (v := 0) (vpin _ _ (by decide +kernel)) dL_law_2165 e1 ?_
      refine V_aload_n 2166 B dL_law_2166 5 rfl ?_
      refine V_iload 2167 B dL_law_2167 1 rfl ?_
      refine V_iconst 2169 B (v := 2) dL_law_2169 (by decide +kernel) ?_
      refine V_iadd 2170 B (v := 2) dL_law_2170 (by decide +kernel) ?_
      refine V_sld 2171 B hX hbl hbA (v := 1) (vpin _ _ (by decide +kernel)) dL_law_2171 e2 ?_
      refine V_aload_n 2172 B dL_law_2172 5 rfl ?_
      refine V_iload 2173 B dL_law_2173 1 rfl ?_
      refine V_iconst 2175 B (v := 3) dL_law_2175 (by decide +kernel) ?_
      refine V_iadd 2176 B (v := 3) dL_law_2176 (by decide +kernel) ?_
      refine V_sld 2177 B hX hbl hbA (v := p3) (vpin _ _ (by decide +kernel)) dL_law_2177 e3 ?_
      refine V_if_eq 2178 B 2185 dL_law_2178 (by decide) (fun k122 => ?_) (fun k122 => ?_)
      ·
        exact absurd k122 k0
      ·
        refine V_iconst 2181 B (v := 1) dL_law_2181 (by decide +kernel) ?_
        refine V_goto 2182 B 2186 dL_law_2182 (by decide) ?_
        refine V_cvi 2186 B (st := []) (As := [.int 0, .int 1, .int 1]) (fun sz => mX12_cheapest_7 l D Y (m0) (m1) (m2) (m3) (m4) (m5) (m6) sz) glV_RL_280 ⟨rfl, rfl⟩ ⟨(Nat.le_of_ble_eq_true rfl), (Nat.le_of_ble_eq_true rfl)⟩ ⟨(Nat.le_of_ble_eq_true rfl), (Nat.le_of_ble_eq_true rfl)⟩ [10, 0] rfl 13 0 rfl rfl rfl rfl (Nat.le_of_ble_eq_true rfl) rfl (fun _ _ _ => rfl) dL_law_2186 (fun r123 u123 w123 => ?_)
        obtain rfl := w123
        refine V_ws [(x0, oC 12 [.ref x1, .ref x30, .ref x59, .ref x88, .ref x117, .ref x126, .ref x127, .ref x129, .ref x132, .long 134217728]), (x1, oC 2 [.ref x2, .ref x4, .ref x6, .ref x8, .ref x10, .ref x12, .ref x14, .ref x16, .ref x18, .ref x20, .ref x27, .int 0]), (x2, oC 3 [.ref x3, .int 1]), (x3, aI Y 6 (upd (fun _ => 0) 0 (-1))), (x10, oC 7 [.ref x11, .int 0]), (x11, aJ Y 6 (fun _ => 0)), (x12, oC 3 [.ref x13, .int 0]), (x117, oC 11 [.ref x1, .ref x118, .ref x120, .ref x122, .ref x124]), (x122, oC 7 [.ref x123, .int 0]), (x123, aJ Y 86 (fun _ => 0)), (m0, oC 13 [.ref m1, .ref m2, .int 0, .ref m3, .ref m4, .int 0, .int 0, .int 0, .int (-1), .int 0, .int 0, .int 0, .long 0, .ref m5, .ref m6, .int 0, .int 0]), (m1, aI Y 3640 (upd (upd (upd (upd (upd (upd (clB 0 (fun _ => 0)) 3629 1) 3630 281) 3631 0) 3624 1) 3625 0) 3626 0)), (o0, aJ Y 1 (vp_updL (fun _ => 0) 0 1))] rfl ?_
        refine V_istore 2189 B (lv2 := [(6, .int 1), (5, .int 0), (4, .int 0), (3, .ref o0), (2, .ref m0), (1, .ref x0), (0, .ref b)]) dL_law_2189 (by decide) rfl ?_
        refine V_aload_n 2191 B dL_law_2191 4 rfl ?_
        refine V_cvi 2192 B (st := []) (As := []) (fun sz => mX12_thrown_1 l D Y (m0) (m1) (m2) (m3) (m4) (m5) (m6) sz) glV_RL_182 ⟨rfl, rfl⟩ ⟨(Nat.le_of_ble_eq_true rfl), (Nat.le_of_ble_eq_true rfl)⟩ ⟨(Nat.le_of_ble_eq_true rfl), (Nat.le_of_ble_eq_true rfl)⟩ [10] rfl 13 0 rfl rfl rfl rfl (Nat.le_of_ble_eq_true rfl) rfl (fun _ _ _ => rfl) dL_law_2192 (fun r124 u124 w124 => ?_)
        obtain rfl := w124
        refine V_ws [(x0, oC 12 [.ref x1, .ref x30, .ref x59, .ref x88, .ref x117, .ref x126, .ref x127, .ref x129, .ref x132, .long 134217728]), (x1, oC 2 [.ref x2, .ref x4, .ref x6, .ref x8, .ref x10, .ref x12, .ref x14, .ref x16, .ref x18, .ref x20, .ref x27, .int 0]), (x2, oC 3 [.ref x3, .int 1]), (x3, aI Y 6 (upd (fun _ => 0) 0 (-1))), (x10, oC 7 [.ref x11, .int 0]), (x11, aJ Y 6 (fun _ => 0)), (x12, oC 3 [.ref x13, .int 0]), (x117, oC 11 [.ref x1, .ref x118, .ref x120, .ref x122, .ref x124]), (x122, oC 7 [.ref x123, .int 0]), (x123, aJ Y 86 (fun _ => 0)), (m0, oC 13 [.ref m1, .ref m2, .int 0, .ref m3, .ref m4, .int 0, .int 0, .int 0, .int (-1), .int 0, .int 0, .int 0, .long 0, .ref m5, .ref m6, .int 0, .int 0]), (m1, aI Y 3640 (upd (upd (upd (upd (upd (upd (clB 0 (fun _ => 0)) 3629 1) 3630 281) 3631 0) 3624 1) 3625 0) 3626 0)), (o0, aJ Y 1 (vp_updL (fun _ => 0) 0 1))] rfl ?_
        refine V_iload 2195 B dL_law_2195 1 rfl ?_
        refine V_icmp_eq_t 2197 B 2202 dL_law_2197 (by decide) (by decide +kernel) ?_
        refine V_iload 2202 B dL_law_2202 1 rfl ?_
        refine V_if_ne_f 2204 B 2219 dL_law_2204 (by decide) (by decide +kernel) ?_
        refine V_aload_n 2207 B dL_law_2207 3 rfl ?_
        refine V_iconst 2208 B (v := 0) dL_law_2208 (by decide +kernel) ?_
        refine V_lald 2209 B (v := 1) 12 rfl (vpin _ _ (by decide +kernel)) dL_law_2209 rfl ?_
        refine V_iload 2210 B dL_law_2210 0 rfl ?_
        refine V_i2l 2212 B (v := 1) dL_law_2212 (by decide +kernel) ?_
        refine V_lcmp 2213 B (v := 0) dL_law_2213 (by decide +kernel) ?_
        refine V_if_eq_t 2214 B 2219 dL_law_2214 (by decide) (by decide +kernel) ?_
        refine V_goto 2219 B 3332 dL_law_2219 (by decide) ?_
        refine V_iinc 3332 B (v := 6) (lv2 := [(4, .int 6), (6, .int 1), (5, .int 0), (3, .ref o0), (2, .ref m0), (1, .ref x0), (0, .ref b)]) dL_law_3332 2 rfl (by decide +kernel) (by decide) rfl ?_
        refine V_goto 3335 B 23 dL_law_3335 (by decide) ?_
        refine V_iload 23 B dL_law_23 0 rfl ?_
        refine V_aload_n 25 B dL_law_25 6 rfl ?_
        refine V_slen 26 B hX hbl hbA (v := 6) (by decide +kernel) dL_law_26 ?_
        refine V_bipush 27 B (v := 6) dL_law_27 (by decide +kernel) ?_
        refine V_isub 29 B (v := 0) dL_law_29 (by decide +kernel) ?_
        refine V_icmp_gt_t 30 B 3338 dL_law_30 (by decide) (by decide +kernel) ?_
        exact law_end B (Nat.le_of_ble_eq_true rfl) (Nat.le_of_ble_eq_true rfl) dL_law_3338 dL_law_3339
