set_option maxRecDepth 100000 in
set_option maxHeartbeats 4000000 in
theorem mX12_prefixes_2 (l : Launch) (D : va_G) (Y : Nat → ClassId) (h0 : Nat) (h1 : Nat) (g0 : Nat) (g1 : Nat) (g2 : Nat) (g3 : Nat) (g4 : Nat) (sz : Nat) : Met l yX12_prefixes (WSm yX12_prefixes cX12_prefixes 6 (some .int)) (mkR 2 0 0 46) (PreC D Y [.ref h0, .int 0] [(h0, oC 13 [.ref h1, .ref g0, .int 0, .ref g1, .ref g2, .int 0, .int 0, .int 0, .int (-1), .int 0, .int 0, .int 0, .long 0, .ref g3, .ref g4, .int 0, .int 0]), (h1, aI Y 3640 (clB 0 (fun _ => 0)))] sz) (QI D (fun (r : Int32) (u : Unit) => 0 = r) (fun (_ : Unit) => [(h0, oC 13 [.ref h1, .ref g0, .int 0, .ref g1, .ref g2, .int 0, .int 0, .int 0, .int (-1), .int 0, .int 0, .int 0, .long 0, .ref g3, .ref g4, .int 0, .int 0]), (h1, aI Y 3640 (clB 0 (fun _ => 0)))]) (va_A [(h0, oC 13 [.ref h1, .ref g0, .int 0, .ref g1, .ref g2, .int 0, .int 0, .int 0, .int (-1), .int 0, .int 0, .int 0, .long 0, .ref g3, .ref g4, .int 0, .int 0]), (h1, aI Y 3640 (clB 0 (fun _ => 0)))] sz)) 0 0 (va_A [(h0, oC 13 [.ref h1, .ref g0, .int 0, .ref g1, .ref g2, .int 0, .int 0, .int 0, .int (-1), .int 0, .int 0, .int 0, .long 0, .ref g3, .ref g4, .int 0, .int 0]), (h1, aI Y 3640 (clB 0 (fun _ => 0)))] sz) :=
  met_of (by decide +kernel) (Nat.le_of_ble_eq_true rfl) (fun p e s m args below meth c B hin hsz => by
    have B : VB p s m args meth c D Y (va_A [(h0, oC 13 [.ref h1, .ref g0, .int 0, .ref g1, .ref g2, .int 0, .int 0, .int 0, .int (-1), .int 0, .int 0, .int 0, .long 0, .ref g3, .ref g4, .int 0, .int 0]), (h1, aI Y 3640 (clB 0 (fun _ => 0)))] sz) cX12_prefixes 6 RX12 (some .int) := B
    refine V_aload_n 0 B dX12_prefixes_0 0 rfl ?_
    refine V_iconst 1 B (v := 0) dX12_prefixes_1 (by decide +kernel) ?_
    refine V_put 2 B gp_RX12_38 0 rfl (Nat.le_of_ble_eq_true rfl) rfl rfl dX12_prefixes_2 [(h0, oC 13 [.ref h1, .ref g0, .int 0, .ref g1, .ref g2, .int 0, .int 0, .int 0, .int (-1), .int 0, .int 0, .int 0, .long 0, .ref g3, .ref g4, .int 0, .int 0]), (h1, aI Y 3640 (clB 0 (fun _ => 0)))] rfl ?_
    refine V_aload_n 5 B dX12_prefixes_5 0 rfl ?_
    refine V_aload_n 6 B dX12_prefixes_6 0 rfl ?_
    refine V_iload_n 7 B dX12_prefixes_7 1 rfl ?_
    refine V_cvi 8 B (st := [.ref h0]) (As := [.int 0]) (fun sz => mX12_isMode_2 l D Y (h0) (h1) (g0) (g1) (g2) (g3) (g4) sz) glV_RX12_91 ⟨rfl, rfl⟩ ⟨(Nat.le_of_ble_eq_true rfl), (Nat.le_of_ble_eq_true rfl)⟩ ⟨(Nat.le_of_ble_eq_true rfl), (Nat.le_of_ble_eq_true rfl)⟩ [0, 0] rfl 13 0 rfl rfl rfl rfl (Nat.le_of_ble_eq_true rfl) rfl (fun _ _ _ => rfl) dX12_prefixes_8 (fun r0 u0 w0 => ?_)
    obtain rfl := w0
    refine V_ws [(h0, oC 13 [.ref h1, .ref g0, .int 0, .ref g1, .ref g2, .int 0, .int 0, .int 0, .int (-1), .int 0, .int 0, .int 0, .long 0, .ref g3, .ref g4, .int 0, .int 0]), (h1, aI Y 3640 (clB 0 (fun _ => 0)))] rfl ?_
    refine V_if_ne_t 11 B 18 dX12_prefixes_11 (by decide) (by decide +kernel) ?_
    refine V_iconst 18 B (v := 0) dX12_prefixes_18 (by decide +kernel) ?_
    refine V_iconst 19 B (v := 1) dX12_prefixes_19 (by decide +kernel) ?_
    refine V_cvi 20 B (st := []) (As := [.int 0, .int 1]) (fun sz => mX12_throwsIf_2 l D Y (h0) (h1) (g0) (g1) (g2) (g3) (g4) sz) glV_RX12_69 ⟨rfl, rfl⟩ ⟨(Nat.le_of_ble_eq_true rfl), (Nat.le_of_ble_eq_true rfl)⟩ ⟨(Nat.le_of_ble_eq_true rfl), (Nat.le_of_ble_eq_true rfl)⟩ [0] rfl 13 0 rfl rfl rfl rfl (Nat.le_of_ble_eq_true rfl) rfl (fun _ _ _ => rfl) dX12_prefixes_20 (fun r1 u1 w1 => ?_)
    obtain rfl := w1
    refine V_ws [(h0, oC 13 [.ref h1, .ref g0, .int 0, .ref g1, .ref g2, .int 0, .int 0, .int 0, .int (-1), .int 0, .int 0, .int 0, .long 0, .ref g3, .ref g4, .int 0, .int 0]), (h1, aI Y 3640 (clB 0 (fun _ => 0)))] rfl ?_
    refine V_if_eq_t 23 B 28 dX12_prefixes_23 (by decide) (by decide +kernel) ?_
    refine V_iconst 28 B (v := 0) dX12_prefixes_28 (by decide +kernel) ?_
    refine V_istore_n 29 B (lv2 := [(2, .int 0), (0, .ref h0), (1, .int 0)]) dX12_prefixes_29 (by decide) rfl ?_
    refine V_iconst 30 B (v := 0) dX12_prefixes_30 (by decide +kernel) ?_
    refine V_istore_n 31 B (lv2 := [(3, .int 0), (2, .int 0), (0, .ref h0), (1, .int 0)]) dX12_prefixes_31 (by decide) rfl ?_
    refine V_iload_n 32 B dX12_prefixes_32 0 rfl ?_
    refine V_aload_n 33 B dX12_prefixes_33 2 rfl ?_
    refine V_get 34 B gf_RX12_9 0 rfl rfl dX12_prefixes_34 ?_
    refine V_iconst 37 B (v := 3) dX12_prefixes_37 (by decide +kernel) ?_
    refine V_iald 38 B (v := 0) 1 rfl (vpin _ _ (by decide +kernel)) dX12_prefixes_38 rfl ?_
    refine V_icmp_ge_t 39 B 141 dX12_prefixes_39 (by decide) (by decide +kernel) ?_
    refine V_iload_n 141 B dX12_prefixes_141 1 rfl ?_
    exact V_iret 142 B dX12_prefixes_142 () rfl rfl)
theorem dL_law_1878 : decode cL_law 1878 = .ok (.aload_n 1, 1) := by decide +kernel
theorem dL_law_1879 : decode cL_law 1879 = .ok (.aload_n 0, 1) := by decide +kernel
theorem dL_law_1880 : decode cL_law 1880 = .ok (.iload 4, 2) := by decide +kernel
theorem dL_law_1882 : decode cL_law 1882 = .ok (.iconst 1, 1) := by decide +kernel
theorem dL_law_1883 : decode cL_law 1883 = .ok (.iadd, 1) := by decide +kernel
theorem dL_law_1884 : decode cL_law 1884 = .ok (.iaload, 1) := by decide +kernel
theorem dL_law_1885 : decode cL_law 1885 = .ok (.aload_n 3, 1) := by decide +kernel
theorem dL_law_1886 : decode cL_law 1886 = .ok (.invokestatic 265, 3) := by decide +kernel
theorem glH_RL_265 : GLH RL 265 yL_prefixes cL_prefixes 4 (some .int) [(0, 9, 12, 18)] 3 := ⟨⟨(mT6 115 rfl rfl), (mT6 116 rfl rfl), (mT1 0 rfl rfl), (mT6 117 rfl rfl)⟩, by decide +kernel⟩
theorem dL_law_1889 : decode cL_law 1889 = .ok (.istore 5, 2) := by decide +kernel
theorem dL_law_1891 : decode cL_law 1891 = .ok (.aload_n 2, 1) := by decide +kernel
theorem dL_law_1892 : decode cL_law 1892 = .ok (.aload_n 0, 1) := by decide +kernel
theorem dL_law_1893 : decode cL_law 1893 = .ok (.iload 4, 2) := by decide +kernel
theorem dL_law_1895 : decode cL_law 1895 = .ok (.iconst 1, 1) := by decide +kernel
theorem dL_law_1896 : decode cL_law 1896 = .ok (.iadd, 1) := by decide +kernel
theorem dL_law_1897 : decode cL_law 1897 = .ok (.iaload, 1) := by decide +kernel
theorem dL_law_1898 : decode cL_law 1898 = .ok (.invokevirtual 267, 3) := by decide +kernel
theorem glV_RL_267 : GLV RL 267 yX12_prefixes RX12 cX12_prefixes 6 (some .int) 1 := ⟨⟨(mT8 224 rfl rfl), (mT8 225 rfl rfl), (mT8 226 rfl rfl), (mT1 13 rfl rfl), (mT8 227 rfl rfl)⟩, by decide +kernel⟩
theorem dL_law_1901 : decode cL_law 1901 = .ok (.istore 6, 2) := by decide +kernel
theorem dL_law_1903 : decode cL_law 1903 = .ok (.aload_n 2, 1) := by decide +kernel
theorem dL_law_1904 : decode cL_law 1904 = .ok (.invokevirtual 182, 3) := by decide +kernel
theorem dL_law_1907 : decode cL_law 1907 = .ok (.iload 5, 2) := by decide +kernel
theorem dL_law_1909 : decode cL_law 1909 = .ok (.if_icmp .eq 5, 3) := by decide +kernel
theorem dL_law_1914 : decode cL_law 1914 = .ok (.iload 5, 2) := by decide +kernel
theorem dL_law_1916 : decode cL_law 1916 = .ok (.ifCond .ne 15, 3) := by decide +kernel
theorem dL_law_1931 : decode cL_law 1931 = .ok (.goto 1401, 3) := by decide +kernel
theorem dL_law_1919 : decode cL_law 1919 = .ok (.aload_n 3, 1) := by decide +kernel
theorem dL_law_1920 : decode cL_law 1920 = .ok (.iconst 0, 1) := by decide +kernel
theorem dL_law_1921 : decode cL_law 1921 = .ok (.laload, 1) := by decide +kernel
theorem dL_law_1922 : decode cL_law 1922 = .ok (.iload 6, 2) := by decide +kernel
theorem dL_law_1924 : decode cL_law 1924 = .ok (.i2l, 1) := by decide +kernel
theorem dL_law_1925 : decode cL_law 1925 = .ok (.lcmp, 1) := by decide +kernel
theorem dL_law_1926 : decode cL_law 1926 = .ok (.ifCond .eq 5, 3) := by decide +kernel
set_option maxRecDepth 100000 in
set_option maxHeartbeats 4000000 in
theorem law_c32 {p : Program} {l : Launch} {e : Env} {s : State} {m : MethodId} {below : List Frame} {meth : Method} {c : Code} {b : Nat} {xs : Nat → Int32} {D : va_G} {Y : Nat → ClassId} (B : VB p s m #[Value.ref b] meth c D Y (fun q => s.heap.size ≤ q) cL_law 8 RL ret) (EB : EX (fun q => s.heap.size ≤ q) s s.heap) (hl9 : l.stackTraces = false) (hX : va_X b 6 xs s s.heap) (hbl : b < s.heap.size) (hbA : ¬ (fun q => s.heap.size ≤ q) b) (x0 x1 x30 x59 x88 x117 x126 x127 x129 x132 x2 x4 x6 x8 x10 x12 x14 x16 x18 x20 x27 x3 x13 x118 x120 x122 x124 x119 x121 m0 m1 m2 m3 m4 m5 m6 o0 : Nat) (p1 : Int32) (e1 : xs 1 = p1) : V p l e room_1 s m #[Value.ref b] below meth c D (fun q => s.heap.size ≤ q) 8 149 10574 (lw_Z below #[Value.ref b] s) 1878 [(4, .int 0), (3, .ref o0), (2, .ref m0), (1, .ref x0), (0, .ref b)] [] [(x0, oC 12 [.ref x1, .ref x30, .ref x59, .ref x88, .ref x117, .ref x126, .ref x127, .ref x129, .ref x132, .long 0]), (x1, oC 2 [.ref x2, .ref x4, .ref x6, .ref x8, .ref x10, .ref x12, .ref x14, .ref x16, .ref x18, .ref x20, .ref x27, .int 0]), (x2, oC 3 [.ref x3, .int 1]), (x3, aI Y 6 (upd (fun _ => 0) 0 (-1))), (x12, oC 3 [.ref x13, .int 0]), (x117, oC 11 [.ref x1, .ref x118, .ref x120, .ref x122, .ref x124]), (x118, oC 3 [.ref x119, .int 0]), (x119, aI Y 6 (fun _ => 0)), (x120, oC 3 [.ref x121, .int 0]), (m0, oC 13 [.ref m1, .ref m2, .int 0, .ref m3, .ref m4, .int 0, .int 0, .int 0, .int (-1), .int 0, .int 0, .int 0, .long 0, .ref m5, .ref m6, .int 0, .int 0]), (m1, aI Y 3640 (clB 0 (fun _ => 0))), (o0, aJ Y 1 (fun _ => 0))] := by
  refine V_aload_n 1878 B dL_law_1878 3 rfl ?_
  refine V_aload_n 1879 B dL_law_1879 4 rfl ?_
  refine V_iload 1880 B dL_law_1880 0 rfl ?_
  refine V_iconst 1882 B (v := 1) dL_law_1882 (by decide +kernel) ?_
  refine V_iadd 1883 B (v := 1) dL_law_1883 (by decide +kernel) ?_
  refine V_sld 1884 B hX hbl hbA (v := p1) (vpin _ _ (by decide +kernel)) dL_law_1884 e1 ?_
  refine V_aload_n 1885 B dL_law_1885 1 rfl ?_
  refine V_hsi 1886 B EB (st := []) (As := [.ref x0, .int p1, .ref o0]) (fun sz => mL_prefixes_1 l hl9 D Y (x0) (o0) (x1) (x30) (x59) (x88) (x117) (x126) (x127) (x129) (x132) (x2) (x4) (x6) (x8) (x10) (x12) (x14) (x16) (x18) (x20) (x27) (x3) (x13) (x118) (x120) (x122) (x124) (x119) (x121) (p1) sz) glH_RL_265 ⟨rfl, rfl⟩ ⟨(Nat.le_of_ble_eq_true rfl), (Nat.le_of_ble_eq_true rfl)⟩ ⟨(Nat.le_of_ble_eq_true rfl), (Nat.le_of_ble_eq_true rfl)⟩ [0, 0, 0, 0, 0, 0, 0, 0, 0, 2] rfl rfl (Nat.le_of_ble_eq_true rfl) rfl (fun _ u _ => by
        first | rfl | (split <;> rfl) | (dsimp only; split <;> rfl)) dL_law_1886 (fun r0 u0 w0 => ?_)
  rcases w0 with ⟨rfl, k1, rfl⟩ | ⟨rfl, k2, k3, rfl⟩ | ⟨rfl, k4, rfl⟩
  ·
    refine V_ws [(x0, oC 12 [.ref x1, .ref x30, .ref x59, .ref x88, .ref x117, .ref x126, .ref x127, .ref x129, .ref x132, .long 0]), (x1, oC 2 [.ref x2, .ref x4, .ref x6, .ref x8, .ref x10, .ref x12, .ref x14, .ref x16, .ref x18, .ref x20, .ref x27, .int 0]), (x2, oC 3 [.ref x3, .int 1]), (x3, aI Y 6 (upd (fun _ => 0) 0 (-1))), (x12, oC 3 [.ref x13, .int 0]), (x117, oC 11 [.ref x1, .ref x118, .ref x120, .ref x122, .ref x124]), (x118, oC 3 [.ref x119, .int 0]), (x119, aI Y 6 (fun _ => 0)), (x120, oC 3 [.ref x121, .int 0]), (m0, oC 13 [.ref m1, .ref m2, .int 0, .ref m3, .ref m4, .int 0, .int 0, .int 0, .int (-1), .int 0, .int 0, .int 0, .long 0, .ref m5, .ref m6, .int 0, .int 0]), (m1, aI Y 3640 (clB 0 (fun _ => 0))), (o0, aJ Y 1 (fun _ => 0))] rfl ?_
    refine V_istore 1889 B (lv2 := [(5, .int 1), (4, .int 0), (3, .ref o0), (2, .ref m0), (1, .ref x0), (0, .ref b)]) dL_law_1889 (by decide) rfl ?_
    refine V_aload_n 1891 B dL_law_1891 3 rfl ?_
    refine V_aload_n 1892 B dL_law_1892 5 rfl ?_
    refine V_iload 1893 B dL_law_1893 1 rfl ?_
    refine V_iconst 1895 B (v := 1) dL_law_1895 (by decide +kernel) ?_
    refine V_iadd 1896 B (v := 1) dL_law_1896 (by decide +kernel) ?_
    refine V_sld 1897 B hX hbl hbA (v := p1) (vpin _ _ (by decide +kernel)) dL_law_1897 e1 ?_
    refine V_cvi 1898 B (st := []) (As := [.int p1]) (fun sz => mX12_prefixes_1 l D Y (m0) (m1) (m2) (m3) (m4) (m5) (m6) (p1) sz) glV_RL_267 ⟨rfl, rfl⟩ ⟨(Nat.le_of_ble_eq_true rfl), (Nat.le_of_ble_eq_true rfl)⟩ ⟨(Nat.le_of_ble_eq_true rfl), (Nat.le_of_ble_eq_true rfl)⟩ [9, 0] rfl 13 0 rfl rfl rfl rfl (Nat.le_of_ble_eq_true rfl) rfl (fun _ u _ => by
        first | rfl | (split <;> rfl) | (dsimp only; split <;> rfl)) dL_law_1898 (fun r5 u5 w5 => ?_)
    rcases w5 with ⟨rfl, k6, rfl⟩ | ⟨rfl, k7, rfl⟩ | ⟨rfl, k8, rfl⟩
    ·
      refine V_ws [(x0, oC 12 [.ref x1, .ref x30, .ref x59, .ref x88, .ref x117, .ref x126, .ref x127, .ref x129, .ref x132, .long 0]), (x1, oC 2 [.ref x2, .ref x4, .ref x6, .ref x8, .ref x10, .ref x12, .ref x14, .ref x16, .ref x18, .ref x20, .ref x27, .int 0]), (x2, oC 3 [.ref x3, .int 1]), (x3, aI Y 6 (upd (fun _ => 0) 0 (-1))), (x12, oC 3 [.ref x13, .int 0]), (x117, oC 11 [.ref x1, .ref x118, .ref x120, .ref x122, .ref x124]), (x118, oC 3 [.ref x119, .int 0]), (x119, aI Y 6 (fun _ => 0)), (x120, oC 3 [.ref x121, .int 0]), (m0, oC 13 [.ref m1, .ref m2, .int 0, .ref m3, .ref m4, .int 0, .int 0, .int 0, .int (-1), .int 0, .int 0, .int 0, .long 0, .ref m5, .ref m6, .int 0, .int 0]), (m1, aI Y 3640 (clB 0 (fun _ => 0))), (o0, aJ Y 1 (fun _ => 0))] rfl ?_
      exact absurd k6 (q_neh (b_lt k1 (n := (-1)) (by decide +kernel)) (by decide +kernel))
    ·
      refine V_ws [(x0, oC 12 [.ref x1, .ref x30, .ref x59, .ref x88, .ref x117, .ref x126, .ref x127, .ref x129, .ref x132, .long 0]), (x1, oC 2 [.ref x2, .ref x4, .ref x6, .ref x8, .ref x10, .ref x12, .ref x14, .ref x16, .ref x18, .ref x20, .ref x27, .int 0]), (x2, oC 3 [.ref x3, .int 1]), (x3, aI Y 6 (upd (fun _ => 0) 0 (-1))), (x12, oC 3 [.ref x13, .int 0]), (x117, oC 11 [.ref x1, .ref x118, .ref x120, .ref x122, .ref x124]), (x118, oC 3 [.ref x119, .int 0]), (x119, aI Y 6 (fun _ => 0)), (x120, oC 3 [.ref x121, .int 0]), (m0, oC 13 [.ref m1, .ref m2, .int 1, .ref m3, .ref m4, .int 0, .int 0, .int 0, .int (-1), .int 0, .int 0, .int 0, .long 0, .ref m5, .ref m6, .int 0, .int 0]), (m1, aI Y 3640 (clB 0 (fun _ => 0))), (o0, aJ Y 1 (fun _ => 0))] rfl ?_
      refine V_istore 1901 B (lv2 := [(6, .int 0), (5, .int 1), (4, .int 0), (3, .ref o0), (2, .ref m0), (1, .ref x0), (0, .ref b)]) dL_law_1901 (by decide) rfl ?_
      refine V_aload_n 1903 B dL_law_1903 4 rfl ?_
      refine V_cvi 1904 B (st := []) (As := []) (fun sz => mX12_thrown_2 l D Y (m0) (m1) (m2) (m3) (m4) (m5) (m6) sz) glV_RL_182 ⟨rfl, rfl⟩ ⟨(Nat.le_of_ble_eq_true rfl), (Nat.le_of_ble_eq_true rfl)⟩ ⟨(Nat.le_of_ble_eq_true rfl), (Nat.le_of_ble_eq_true rfl)⟩ [9] rfl 13 0 rfl rfl rfl rfl (Nat.le_of_ble_eq_true rfl) rfl (fun _ _ _ => rfl) dL_law_1904 (fun r9 u9 w9 => ?_)
      obtain rfl := w9
      refine V_ws [(x0, oC 12 [.ref x1, .ref x30, .ref x59, .ref x88, .ref x117, .ref x126, .ref x127, .ref x129, .ref x132, .long 0]), (x1, oC 2 [.ref x2, .ref x4, .ref x6, .ref x8, .ref x10, .ref x12, .ref x14, .ref x16, .ref x18, .ref x20, .ref x27, .int 0]), (x2, oC 3 [.ref x3, .int 1]), (x3, aI Y 6 (upd (fun _ => 0) 0 (-1))), (x12, oC 3 [.ref x13, .int 0]), (x117, oC 11 [.ref x1, .ref x118, .ref x120, .ref x122, .ref x124]), (x118, oC 3 [.ref x119, .int 0]), (x119, aI Y 6 (fun _ => 0)), (x120, oC 3 [.ref x121, .int 0]), (m0, oC 13 [.ref m1, .ref m2, .int 1, .ref m3, .ref m4, .int 0, .int 0, .int 0, .int (-1), .int 0, .int 0, .int 0, .long 0, .ref m5, .ref m6, .int 0, .int 0]), (m1, aI Y 3640 (clB 0 (fun _ => 0))), (o0, aJ Y 1 (fun _ => 0))] rfl ?_
      refine V_iload 1907 B dL_law_1907 1 rfl ?_
      refine V_icmp_eq_t 1909 B 1914 dL_law_1909 (by decide) (by decide +kernel) ?_
      refine V_iload 1914 B dL_law_1914 1 rfl ?_
      refine V_if_ne_t 1916 B 1931 dL_law_1916 (by decide) (by decide +kernel) ?_
      refine V_goto 1931 B 3332 dL_law_1931 (by decide) ?_
      refine V_iinc 3332 B (v := 6) (lv2 := [(4, .int 6), (6, .int 0), (5, .int 1), (3, .ref o0), (2, .ref m0), (1, .ref x0), (0, .ref b)]) dL_law_3332 2 rfl (by decide +kernel) (by decide) rfl ?_
      refine V_goto 3335 B 23 dL_law_3335 (by decide) ?_
      refine V_iload 23 B dL_law_23 0 rfl ?_
      refine V_aload_n 25 B dL_law_25 6 rfl ?_
      refine V_slen 26 B hX hbl hbA (v := 6) (by decide +kernel) dL_law_26 ?_
      refine V_bipush 27 B (v := 6) dL_law_27 (by decide +kernel) ?_
      refine V_isub 29 B (v := 0) dL_law_29 (by decide +kernel) ?_
      refine V_icmp_gt_t 30 B 3338 dL_law_30 (by decide) (by decide +kernel) ?_
      exact law_end B (Nat.le_of_ble_eq_true rfl) (Nat.le_of_ble_eq_true rfl) dL_law_3338 dL_law_3339
    ·
      refine V_ws [(x0, oC 12 [.ref x1, .ref x30, .ref x59, .ref x88, .ref x117, .ref x126, .ref x127, .ref x129, .ref x132, .long 0]), (x1, oC 2 [.ref x2, .ref x4, .ref x6, .ref x8, .ref x10, .ref x12, .ref x14, .ref x16, .ref x18, .ref x20, .ref x27, .int 0]), (x2, oC 3 [.ref x3, .int 1]), (x3, aI Y 6 (upd (fun _ => 0) 0 (-1))), (x12, oC 3 [.ref x13, .int 0]), (x117, oC 11 [.ref x1, .ref x118, .ref x120, .ref x122, .ref x124]), (x118, oC 3 [.ref x119, .int 0]), (x119, aI Y 6 (fun _ => 0)), (x120, oC 3 [.ref x121, .int 0]), (m0, oC 13 [.ref m1, .ref m2, .int 1, .ref m3, .ref m4, .int 0, .int 0, .int 0, .int (-1), .int 0, .int 0, .int 0, .long 0, .ref m5, .ref m6, .int 0, .int 0]), (m1, aI Y 3640 (clB 0 (fun _ => 0))), (o0, aJ Y 1 (fun _ => 0))] rfl ?_
      exact (q_abs (b_gt k8 (n := 1) (by decide +kernel)) (b_lt k1 (n := (-1)) (by decide +kernel)) (by decide +kernel)).elim
  ·
    refine V_ws [(x0, oC 12 [.ref x1, .ref x30, .ref x59, .ref x88, .ref x117, .ref x126, .ref x127, .ref x129, .ref x132, .long 0]), (x1, oC 2 [.ref x2, .ref x4, .ref x6, .ref x8, .ref x10, .ref x12, .ref x14, .ref x16, .ref x18, .ref x20, .ref x27, .int 0]), (x2, oC 3 [.ref x3, .int 1]), (x3, aI Y 6 (upd (fun _ => 0) 0 (-1))), (x12, oC 3 [.ref x13, .int 0]), (x117, oC 11 [.ref x1, .ref x118, .ref x120, .ref x122, .ref x124]), (x118, oC 3 [.ref x119, .int 0]), (x119, aI Y 6 (fun _ => 0)), (x120, oC 3 [.ref x121, .int 0]), (m0, oC 13 [.ref m1, .ref m2, .int 0, .ref m3, .ref m4, .int 0, .int 0, .int 0, .int (-1), .int 0, .int 0, .int 0, .long 0, .ref m5, .ref m6, .int 0, .int 0]), (m1, aI Y 3640 (clB 0 (fun _ => 0))), (o0, aJ Y 1 (fun _ => 0))] rfl ?_
    refine V_istore 1889 B (lv2 := [(5, .int 1), (4, .int 0), (3, .ref o0), (2, .ref m0), (1, .ref x0), (0, .ref b)]) dL_law_1889 (by decide) rfl ?_
    refine V_aload_n 1891 B dL_law_1891 3 rfl ?_
    refine V_aload_n 1892 B dL_law_1892 5 rfl ?_
    refine V_iload 1893 B dL_law_1893 1 rfl ?_
    refine V_iconst 1895 B (v := 1) dL_law_1895 (by decide +kernel) ?_
    refine V_iadd 1896 B (v := 1) dL_law_1896 (by decide +kernel) ?_
    refine V_sld 1897 B hX hbl hbA (v := p1) (vpin _ _ (by decide +kernel)) dL_law_1897 e1 ?_
    refine V_cvi 1898 B (st := []) (As := [.int p1]) (fun sz => mX12_prefixes_1 l D Y (m0) (m1) (m2) (m3) (m4) (m5) (m6) (p1) sz) glV_RL_267 ⟨rfl, rfl⟩ ⟨(Nat.le_of_ble_eq_true rfl), (Nat.le_of_ble_eq_true rfl)⟩ ⟨(Nat.le_of_ble_eq_true rfl), (Nat.le_of_ble_eq_true rfl)⟩ [9, 0] rfl 13 0 rfl rfl rfl rfl (Nat.le_of_ble_eq_true rfl) rfl (fun _ u _ => by
        first | rfl | (split <;> rfl) | (dsimp only; split <;> rfl)) dL_law_1898 (fun r10 u10 w10 => ?_)
    rcases w10 with ⟨rfl, k11, rfl⟩ | ⟨rfl, k12, rfl⟩ | ⟨rfl, k13, rfl⟩
    ·
      refine V_ws [(x0, oC 12 [.ref x1, .ref x30, .ref x59, .ref x88, .ref x117, .ref x126, .ref x127, .ref x129, .ref x132, .long 0]), (x1, oC 2 [.ref x2, .ref x4, .ref x6, .ref x8, .ref x10, .ref x12, .ref x14, .ref x16, .ref x18, .ref x20, .ref x27, .int 0]), (x2, oC 3 [.ref x3, .int 1]), (x3, aI Y 6 (upd (fun _ => 0) 0 (-1))), (x12, oC 3 [.ref x13, .int 0]), (x117, oC 11 [.ref x1, .ref x118, .ref x120, .ref x122, .ref x124]), (x118, oC 3 [.ref x119, .int 0]), (x119, aI Y 6 (fun _ => 0)), (x120, oC 3 [.ref x121, .int 0]), (m0, oC 13 [.ref m1, .ref m2, .int 0, .ref m3, .ref m4, .int 0, .int 0, .int 0, .int (-1), .int 0, .int 0, .int 0, .long 0, .ref m5, .ref m6, .int 0, .int 0]), (m1, aI Y 3640 (clB 0 (fun _ => 0))), (o0, aJ Y 1 (fun _ => 0))] rfl ?_
      exact absurd k11 (q_nel (b_ge k3 (n := 1) (by decide +kernel)) (by decide +kernel))
    ·
      refine V_ws [(x0, oC 12 [.ref x1, .ref x30, .ref x59, .ref x88, .ref x117, .ref x126, .ref x127, .ref x129, .ref x132, .long 0]), (x1, oC 2 [.ref x2, .ref x4, .ref x6, .ref x8, .ref x10, .ref x12, .ref x14, .ref x16, .ref x18, .ref x20, .ref x27, .int 0]), (x2, oC 3 [.ref x3, .int 1]), (x3, aI Y 6 (upd (fun _ => 0) 0 (-1))), (x12, oC 3 [.ref x13, .int 0]), (x117, oC 11 [.ref x1, .ref x118, .ref x120, .ref x122, .ref x124]), (x118, oC 3 [.ref x119, .int 0]), (x119, aI Y 6 (fun _ => 0)), (x120, oC 3 [.ref x121, .int 0]), (m0, oC 13 [.ref m1, .ref m2, .int 1, .ref m3, .ref m4, .int 0, .int 0, .int 0, .int (-1), .int 0, .int 0, .int 0, .long 0, .ref m5, .ref m6, .int 0, .int 0]), (m1, aI Y 3640 (clB 0 (fun _ => 0))), (o0, aJ Y 1 (fun _ => 0))] rfl ?_
      exact (q_abs (b_ge k3 (n := 1) (by decide +kernel)) (b_lt k12 (n := (-1)) (by decide +kernel)) (by decide +kernel)).elim
    ·
      refine V_ws [(x0, oC 12 [.ref x1, .ref x30, .ref x59, .ref x88, .ref x117, .ref x126, .ref x127, .ref x129, .ref x132, .long 0]), (x1, oC 2 [.ref x2, .ref x4, .ref x6, .ref x8, .ref x10, .ref x12, .ref x14, .ref x16, .ref x18, .ref x20, .ref x27, .int 0]), (x2, oC 3 [.ref x3, .int 1]), (x3, aI Y 6 (upd (fun _ => 0) 0 (-1))), (x12, oC 3 [.ref x13, .int 0]), (x117, oC 11 [.ref x1, .ref x118, .ref x120, .ref x122, .ref x124]), (x118, oC 3 [.ref x119, .int 0]), (x119, aI Y 6 (fun _ => 0)), (x120, oC 3 [.ref x121, .int 0]), (m0, oC 13 [.ref m1, .ref m2, .int 1, .ref m3, .ref m4, .int 0, .int 0, .int 0, .int (-1), .int 0, .int 0, .int 0, .long 0, .ref m5, .ref m6, .int 0, .int 0]), (m1, aI Y 3640 (clB 0 (fun _ => 0))), (o0, aJ Y 1 (fun _ => 0))] rfl ?_
      refine V_istore 1901 B (lv2 := [(6, .int 0), (5, .int 1), (4, .int 0), (3, .ref o0), (2, .ref m0), (1, .ref x0), (0, .ref b)]) dL_law_1901 (by decide) rfl ?_
      refine V_aload_n 1903 B dL_law_1903 4 rfl ?_
      refine V_cvi 1904 B (st := []) (As := []) (fun sz => mX12_thrown_2 l D Y (m0) (m1) (m2) (m3) (m4) (m5) (m6) sz) glV_RL_182 ⟨rfl, rfl⟩ ⟨(Nat.le_of_ble_eq_true rfl), (Nat.le_of_ble_eq_true rfl)⟩ ⟨(Nat.le_of_ble_eq_true rfl), (Nat.le_of_ble_eq_true rfl)⟩ [9] rfl 13 0 rfl rfl rfl rfl (Nat.le_of_ble_eq_true rfl) rfl (fun _ _ _ => rfl) dL_law_1904 (fun r14 u14 w14 => ?_)
      obtain rfl := w14
      refine V_ws [(x0, oC 12 [.ref x1, .ref x30, .ref x59, .ref x88, .ref x117, .ref x126, .ref x127, .ref x129, .ref x132, .long 0]), (x1, oC 2 [.ref x2, .ref x4, .ref x6, .ref x8, .ref x10, .ref x12, .ref x14, .ref x16, .ref x18, .ref x20, .ref x27, .int 0]), (x2, oC 3 [.ref x3, .int 1]), (x3, aI Y 6 (upd (fun _ => 0) 0 (-1))), (x12, oC 3 [.ref x13, .int 0]), (x117, oC 11 [.ref x1, .ref x118, .ref x120, .ref x122, .ref x124]), (x118, oC 3 [.ref x119, .int 0]), (x119, aI Y 6 (fun _ => 0)), (x120, oC 3 [.ref x121, .int 0]), (m0, oC 13 [.ref m1, .ref m2, .int 1, .ref m3, .ref m4, .int 0, .int 0, .int 0, .int (-1), .int 0, .int 0, .int 0, .long 0, .ref m5, .ref m6, .int 0, .int 0]), (m1, aI Y 3640 (clB 0 (fun _ => 0))), (o0, aJ Y 1 (fun _ => 0))] rfl ?_
      refine V_iload 1907 B dL_law_1907 1 rfl ?_
      refine V_icmp_eq_t 1909 B 1914 dL_law_1909 (by decide) (by decide +kernel) ?_
      refine V_iload 1914 B dL_law_1914 1 rfl ?_
      refine V_if_ne_t 1916 B 1931 dL_law_1916 (by decide) (by decide +kernel) ?_
      refine V_goto 1931 B 3332 dL_law_1931 (by decide) ?_
      refine V_iinc 3332 B (v := 6) (lv2 := [(4, .int 6), (6, .int 0), (5, .int 1), (3, .ref o0), (2, .ref m0), (1, .ref x0), (0, .ref b)]) dL_law_3332 2 rfl (by decide +kernel) (by decide) rfl ?_
      refine V_goto 3335 B 23 dL_law_3335 (by decide) ?_
      refine V_iload 23 B dL_law_23 0 rfl ?_
      refine V_aload_n 25 B dL_law_25 6 rfl ?_
      refine V_slen 26 B hX hbl hbA (v := 6) (by decide +kernel) dL_law_26 ?_
      refine V_bipush 27 B (v := 6) dL_law_27 (by decide +kernel) ?_
      refine V_isub 29 B (v := 0) dL_law_29 (by decide +kernel) ?_
      refine V_icmp_gt_t 30 B 3338 dL_law_30 (by decide) (by decide +kernel) ?_
      exact law_end B (Nat.le_of_ble_eq_true rfl) (Nat.le_of_ble_eq_true rfl) dL_law_3338 dL_law_3339
  ·
    refine V_ws [(x0, oC 12 [.ref x1, .ref x30, .ref x59, .ref x88, .ref x117, .ref x126, .ref x127, .ref x129, .ref x132, .long 0]), (x1, oC 2 [.ref x2, .ref x4, .ref x6, .ref x8, .ref x10, .ref x12, .ref x14, .ref x16, .ref x18, .ref x20, .ref x27, .int 0]), (x2, oC 3 [.ref x3, .int 1]), (x3, aI Y 6 (upd (fun _ => 0) 0 (-1))), (x12, oC 3 [.ref x13, .int 0]), (x117, oC 11 [.ref x1, .ref x118, .ref x120, .ref x122, .ref x124]), (x118, oC 3 [.ref x119, .int 6]), (x119, aI Y 6 (upd (upd (upd (upd (upd (upd (upd (fun _ => 0) 0 (-1)) 1 (-1)) 2 (-1)) 3 (-1)) 4 (-1)) 5 (-1)) 0 0)), (x120, oC 3 [.ref x121, .int 0]), (m0, oC 13 [.ref m1, .ref m2, .int 0, .ref m3, .ref m4, .int 0, .int 0, .int 0, .int (-1), .int 0, .int 0, .int 0, .long 0, .ref m5, .ref m6, .int 0, .int 0]), (m1, aI Y 3640 (clB 0 (fun _ => 0))), (o0, aJ Y 1 (vp_updL (fun _ => 0) 0 0))] rfl ?_
    obtain rfl : p1 = 0 := k4
    refine V_istore 1889 B (lv2 := [(5, .int 0), (4, .int 0), (3, .ref o0), (2, .ref m0), (1, .ref x0), (0, .ref b)]) dL_law_1889 (by decide) rfl ?_
    refine V_aload_n 1891 B dL_law_1891 3 rfl ?_
    refine V_aload_n 1892 B dL_law_1892 5 rfl ?_
    refine V_iload 1893 B dL_law_1893 1 rfl ?_
    refine V_iconst 1895 B (v := 1) dL_law_1895 (by decide +kernel) ?_
    refine V_iadd 1896 B (v := 1) dL_law_1896 (by decide +kernel) ?_
    refine V_sld 1897 B hX hbl hbA (v := 0) (vpin _ _ (by decide +kernel)) dL_law_1897 e1 ?_
    refine V_cvi 1898 B (st := []) (As := [.int 0]) (fun sz => mX12_prefixes_2 l D Y (m0) (m1) (m2) (m3) (m4) (m5) (m6) sz) glV_RL_267 ⟨rfl, rfl⟩ ⟨(Nat.le_of_ble_eq_true rfl), (Nat.le_of_ble_eq_true rfl)⟩ ⟨(Nat.le_of_ble_eq_true rfl), (Nat.le_of_ble_eq_true rfl)⟩ [9, 0] rfl 13 0 rfl rfl rfl rfl (Nat.le_of_ble_eq_true rfl) rfl (fun _ _ _ => rfl) dL_law_1898 (fun r15 u15 w15 => ?_)
    obtain rfl := w15
    refine V_ws [(x0, oC 12 [.ref x1, .ref x30, .ref x59, .ref x88, .ref x117, .ref x126, .ref x127, .ref x129, .ref x132, .long 0]), (x1, oC 2 [.ref x2, .ref x4, .ref x6, .ref x8, .ref x10, .ref x12, .ref x14, .ref x16, .ref x18, .ref x20, .ref x27, .int 0]), (x2, oC 3 [.ref x3, .int 1]), (x3, aI Y 6 (upd (fun _ => 0) 0 (-1))), (x12, oC 3 [.ref x13, .int 0]), (x117, oC 11 [.ref x1, .ref x118, .ref x120, .ref x122, .ref x124]), (x118, oC 3 [.ref x119, .int 6]), (x119, aI Y 6 (upd (upd (upd (upd (upd (upd (upd (fun _ => 0) 0 (-1)) 1 (-1)) 2 (-1)) 3 (-1)) 4 (-1)) 5 (-1)) 0 0)), (x120, oC 3 [.ref x121, .int 0]), (m0, oC 13 [.ref m1, .ref m2, .int 0, .ref m3, .ref m4, .int 0, .int 0, .int 0, .int (-1), .int 0, .int 0, .int 0, .long 0, .ref m5, .ref m6, .int 0, .int 0]), (m1, aI Y 3640 (clB 0 (fun _ => 0))), (o0, aJ Y 1 (vp_updL (fun _ => 0) 0 0))] rfl ?_
    refine V_istore 1901 B (lv2 := [(6, .int 0), (5, .int 0), (4, .int 0), (3, .ref o0), (2, .ref m0), (1, .ref x0), (0, .ref b)]) dL_law_1901 (by decide) rfl ?_
    refine V_aload_n 1903 B dL_law_1903 4 rfl ?_
    refine V_cvi 1904 B (st := []) (As := []) (fun sz => mX12_thrown_1 l D Y (m0) (m1) (m2) (m3) (m4) (m5) (m6) sz) glV_RL_182 ⟨rfl, rfl⟩ ⟨(Nat.le_of_ble_eq_true rfl), (Nat.le_of_ble_eq_true rfl)⟩ ⟨(Nat.le_of_ble_eq_true rfl), (Nat.le_of_ble_eq_true rfl)⟩ [9] rfl 13 0 rfl rfl rfl rfl (Nat.le_of_ble_eq_true rfl) rfl (fun _ _ _ => rfl) dL_law_1904 (fun r16 u16 w16 => ?_)
    obtain rfl := w16
    refine V_ws [(x0, oC 12 [.ref x1, .ref x30, .ref x59, .ref x88, .ref x117, .ref x126, .ref x127, .ref x129, .ref x132, .long 0]), (x1, oC 2 [.ref x2, .ref x4, .ref x6, .ref x8, .ref x10, .ref x12, .ref x14, .ref x16, .ref x18, .ref x20, .ref x27, .int 0]), (x2, oC 3 [.ref x3, .int 1]), (x3, aI Y 6 (upd (fun _ => 0) 0 (-1))), (x12, oC 3 [.ref x13, .int 0]), (x117, oC 11 [.ref x1, .ref x118, .ref x120, .ref x122, .ref x124]), (x118, oC 3 [.ref x119, .int 6]), (x119, aI Y 6 (upd (upd (upd (upd (upd (upd (upd (fun _ => 0) 0 (-1)) 1 (-1)) 2 (-1)) 3 (-1)) 4 (-1)) 5 (-1)) 0 0)), (x120, oC 3 [.ref x121, .int 0]), (m0, oC 13 [.ref m1, .ref m2, .int 0, .ref m3, .ref m4, .int 0, .int 0, .int 0, .int (-1), .int 0, .int 0, .int 0, .long 0, .ref m5, .ref m6, .int 0, .int 0]), (m1, aI Y 3640 (clB 0 (fun _ => 0))), (o0, aJ Y 1 (vp_updL (fun _ => 0) 0 0))] rfl ?_
    refine V_iload 1907 B dL_law_1907 1 rfl ?_
    refine V_icmp_eq_t 1909 B 1914 dL_law_1909 (by decide) (by decide +kernel) ?_
    refine V_iload 1914 B dL_law_1914 1 rfl ?_
    refine V_if_ne_f 1916 B 1931 dL_law_1916 (by decide) (by decide +kernel) ?_
    refine V_aload_n 1919 B dL_law_1919 3 rfl ?_
    refine V_iconst 1920 B (v := 0) dL_law_1920 (by decide +kernel) ?_
    refine V_lald 1921 B (v := 0) 11 rfl (vpin _ _ (by decide +kernel)) dL_law_1921 rfl ?_
    refine V_iload 1922 B dL_law_1922 0 rfl ?_
    refine V_i2l 1924 B (v := 0) dL_law_1924 (by decide +kernel) ?_
    refine V_lcmp 1925 B (v := 0) dL_law_1925 (by decide +kernel) ?_
    refine V_if_eq_t 1926 B 1931 dL_law_1926 (by decide) (by decide +kernel) ?_
    refine V_goto 1931 B 3332 dL_law_1931 (by decide) ?_
    refine V_iinc 3332 B (v := 6) (lv2 := [(4, .int 6), (6, .int 0), (5, .int 0), (3, .ref o0), (2, .ref m0), (1, .ref x0), (0, .ref b)]) dL_law_3332 2 rfl (by decide +kernel) (by decide) rfl ?_
    refine V_goto 3335 B 23 dL_law_3335 (by decide) ?_
    refine V_iload 23 B dL_law_23 0 rfl ?_
    refine V_aload_n 25 B dL_law_25 6 rfl ?_
    refine V_slen 26 B hX hbl hbA (v := 6) (by decide +kernel) dL_law_26 ?_
    refine V_bipush 27 B (v := 6) dL_law_27 (by decide +kernel) ?_
    refine V_isub 29 B (v := 0) dL_law_29 (by decide +kernel) ?_
    refine V_icmp_gt_t 30 B 3338 dL_law_30 (by decide) (by decide +kernel) ?_
    exact law_end B (Nat.le_of_ble_eq_true rfl) (Nat.le_of_ble_eq_true rfl) dL_law_3338 dL_law_3339
theorem dL_bestFor_0 : decode cL_bestFor 0 = .ok (.aload_n 3, 1) := by decide +kernel
theorem dL_bestFor_1 : decode cL_bestFor 1 = .ok (.iconst 0, 1) := by decide +kernel
theorem dL_bestFor_2 : decode cL_bestFor 2 = .ok (.aload_n 0, 1) := by decide +kernel
theorem dL_bestFor_3 : decode cL_bestFor 3 = .ok (.iload_n 1, 1) := by decide +kernel
theorem dL_bestFor_4 : decode cL_bestFor 4 = .ok (.iload_n 2, 1) := by decide +kernel
theorem dL_bestFor_5 : decode cL_bestFor 5 = .ok (.invokevirtual 84, 3) := by decide +kernel
theorem glV_RL_84 : GLV RL 84 yX11_bestFor RX11 cX11_bestFor 3 (some .int) 2 := ⟨⟨(mT6 134 rfl rfl), (mT6 135 rfl rfl), (mT6 136 rfl rfl), (mT1 1 rfl rfl), (mT6 137 rfl rfl)⟩, by decide +kernel⟩
theorem dL_bestFor_13 : decode cL_bestFor 13 = .ok (.astore 4, 2) := by decide +kernel
theorem dL_bestFor_15 : decode cL_bestFor 15 = .ok (.iconst 1, 1) := by decide +kernel
theorem dL_bestFor_16 : decode cL_bestFor 16 = .ok (.ireturn, 1) := by decide +kernel
set_option maxRecDepth 100000 in
set_option maxHeartbeats 4000000 in
theorem mL_bestFor_1 (l : Launch) (hl9 : l.stackTraces = false) (D : va_G) (Y : Nat → ClassId) (h0 : Nat) (g0 : Nat) (h1 : Nat) (g1 : Nat) (g2 : Nat) (g3 : Nat) (g4 : Nat) (g5 : Nat) (g6 : Nat) (g7 : Nat) (g8 : Nat) (h2 : Nat) (h3 : Nat) (g9 : Nat) (g10 : Nat) (g11 : Nat) (g12 : Nat) (g13 : Nat) (g14 : Nat) (g15 : Nat) (g16 : Nat) (g17 : Nat) (g18 : Nat) (g19 : Nat) (p0 : Int32) (p1 : Int32) (sz : Nat) : Met l yL_bestFor (Cond.codeWith yL_bestFor cL_bestFor 5 (some .int) [(0, 10, 13, 18)] :: lw_good) (mkR 8 2 12 125) (PreX D Y [.ref h0, .int p0, .int p1, .ref g0] [(h0, oC 12 [.ref h1, .ref g1, .ref g2, .ref g3, .ref g4, .ref g5, .ref g6, .ref g7, .ref g8, .long 0]), (h1, oC 2 [.ref h2, .ref h3, .ref g9, .ref g10, .ref g11, .ref g12, .ref g13, .ref g14, .ref g15, .ref g16, .ref g17, .int 0]), (h2, oC 3 [.ref g18, .int 1]), (h3, oC 3 [.ref g19, .int 0])] sz) (QI D (fun (r : Int32) (u : Unit) => (p0 < 0 ∧ 1 = r) ∨ (¬ p0 < 0 ∧ 1 ≤ p0 ∧ 1 = r) ∨ (p0 = 0 ∧ p1 < 0 ∧ 1 = r) ∨ (p0 = 0 ∧ ¬ p1 < 0 ∧ 1 = r)) (fun (_ : Unit) => [(h0, oC 12 [.ref h1, .ref g1, .ref g2, .ref g3, .ref g4, .ref g5, .ref g6, .ref g7, .ref g8, .long 0]), (h1, oC 2 [.ref h2, .ref h3, .ref g9, .ref g10, .ref g11, .ref g12, .ref g13, .ref g14, .ref g15, .ref g16, .ref g17, .int 0]), (h2, oC 3 [.ref g18, .int 1]), (h3, oC 3 [.ref g19, .int 0])]) (va_A [(h0, oC 12 [.ref h1, .ref g1, .ref g2, .ref g3, .ref g4, .ref g5, .ref g6, .ref g7, .ref g8, .long 0]), (h1, oC 2 [.ref h2, .ref h3, .ref g9, .ref g10, .ref g11, .ref g12, .ref g13, .ref g14, .ref g15, .ref g16, .ref g17, .int 0]), (h2, oC 3 [.ref g18, .int 1]), (h3, oC 3 [.ref g19, .int 0])] sz)) 2 12 (va_A [(h0, oC 12 [.ref h1, .ref g1, .ref g2, .ref g3, .ref g4, .ref g5, .ref g6, .ref g7, .ref g8, .long 0]), (h1, oC 2 [.ref h2, .ref h3, .ref g9, .ref g10, .ref g11, .ref g12, .ref g13, .ref g14, .ref g15, .ref g16, .ref g17, .int 0]), (h2, oC 3 [.ref g18, .int 1]), (h3, oC 3 [.ref g19, .int 0])] sz) :=
  metH_of (by decide +kernel) (Nat.le_of_ble_eq_true rfl) (fun p e s m args below meth c B EB htab hsz => by
    have B : VB p s m args meth c D Y (va_A [(h0, oC 12 [.ref h1, .ref g1, .ref g2, .ref g3, .ref g4, .ref g5, .ref g6, .ref g7, .ref g8, .long 0]), (h1, oC 2 [.ref h2, .ref h3, .ref g9, .ref g10, .ref g11, .ref g12, .ref g13, .ref g14, .ref g15, .ref g16, .ref g17, .int 0]), (h2, oC 3 [.ref g18, .int 1]), (h3, oC 3 [.ref g19, .int 0])] sz) cL_bestFor 5 RL (some .int) := B
    refine V_aload_n 0 B dL_bestFor_0 3 rfl ?_
    refine V_iconst 1 B (v := 0) dL_bestFor_1 (by decide +kernel) ?_
    refine V_aload_n 2 B dL_bestFor_2 0 rfl ?_
    refine V_iload_n 3 B dL_bestFor_3 1 rfl ?_
    refine V_iload_n 4 B dL_bestFor_4 2 rfl ?_
    refine V_xvi 5 B EB (st := [.int 0, .ref g0]) (As := [.int p0, .int p1]) (fun sz => mX11_bestFor_1 l hl9 D Y (h0) (h1) (g1) (g2) (g3) (g4) (g5) (g6) (g7) (g8) (h2) (h3) (g9) (g10) (g11) (g12) (g13) (g14) (g15) (g16) (g17) (g18) (g19) (p0) (p1) sz) glV_RL_84 ⟨rfl, rfl⟩ ⟨(Nat.le_of_ble_eq_true rfl), (Nat.le_of_ble_eq_true rfl)⟩ ⟨(Nat.le_of_ble_eq_true rfl), (Nat.le_of_ble_eq_true rfl)⟩ [0, 0, 0, 0] rfl 12 0 rfl rfl rfl rfl (Nat.le_of_ble_eq_true rfl) rfl (fun _ _ _ => rfl) (fun _ _ _ => rfl) dL_bestFor_5 (fun E u0 w0 => ?_) (fun r0 u0 w0 => ?_)
    ·
      rcases w0 with ⟨rfl, k1⟩ | ⟨rfl, k2, k3⟩ | ⟨rfl, k4, k5⟩ | ⟨rfl, k6, k7⟩
      ·
        refine VX_catch 5 B htab [] (0, 10, 13, 18) [] rfl "java/lang/IndexOutOfBoundsException" (fun z hz => nomatch hz) rfl (by decide) (mT5 103 rfl rfl) (EB.2.2.2.1 _ (List.mem_of_getElem? (i := 1) rfl)) 13 rfl (fun q9 => ?_)
        refine V_ws [(h0, oC 12 [.ref h1, .ref g1, .ref g2, .ref g3, .ref g4, .ref g5, .ref g6, .ref g7, .ref g8, .long 0]), (h1, oC 2 [.ref h2, .ref h3, .ref g9, .ref g10, .ref g11, .ref g12, .ref g13, .ref g14, .ref g15, .ref g16, .ref g17, .int 0]), (h2, oC 3 [.ref g18, .int 1]), (h3, oC 3 [.ref g19, .int 0])] rfl ?_
        refine V_astore 13 B (lv2 := [(4, .ref q9), (0, .ref h0), (1, .int p0), (2, .int p1), (3, .ref g0)]) dL_bestFor_13 (by decide) rfl ?_
        refine V_iconst 15 B (v := 1) dL_bestFor_15 (by decide +kernel) ?_
        exact V_iret 16 B dL_bestFor_16 () (Or.inl ⟨k1, rfl⟩) rfl
      ·
        refine VX_catch 5 B htab [] (0, 10, 13, 18) [] rfl "java/lang/IndexOutOfBoundsException" (fun z hz => nomatch hz) rfl (by decide) (mT5 103 rfl rfl) (EB.2.2.2.1 _ (List.mem_of_getElem? (i := 1) rfl)) 13 rfl (fun q9 => ?_)
        refine V_ws [(h0, oC 12 [.ref h1, .ref g1, .ref g2, .ref g3, .ref g4, .ref g5, .ref g6, .ref g7, .ref g8, .long 0]), (h1, oC 2 [.ref h2, .ref h3, .ref g9, .ref g10, .ref g11, .ref g12, .ref g13, .ref g14, .ref g15, .ref g16, .ref g17, .int 0]), (h2, oC 3 [.ref g18, .int 1]), (h3, oC 3 [.ref g19, .int 0])] rfl ?_
        refine V_astore 13 B (lv2 := [(4, .ref q9), (0, .ref h0), (1, .int p0), (2, .int p1), (3, .ref g0)]) dL_bestFor_13 (by decide) rfl ?_
        refine V_iconst 15 B (v := 1) dL_bestFor_15 (by decide +kernel) ?_
        exact V_iret 16 B dL_bestFor_16 () (Or.inr (Or.inl ⟨k2, k3, rfl⟩)) rfl
      ·
        obtain rfl : p0 = 0 := k4
        refine VX_catch 5 B htab [] (0, 10, 13, 18) [] rfl "java/lang/IndexOutOfBoundsException" (fun z hz => nomatch hz) rfl (by decide) (mT5 103 rfl rfl) (EB.2.2.2.1 _ (List.mem_of_getElem? (i := 1) rfl)) 13 rfl (fun q9 => ?_)
        refine V_ws [(h0, oC 12 [.ref h1, .ref g1, .ref g2, .ref g3, .ref g4, .ref g5, .ref g6, .ref g7, .ref g8, .long 0]), (h1, oC 2 [.ref h2, .ref h3, .ref g9, .ref g10, .ref g11, .ref g12, .ref g13, .ref g14, .ref g15, .ref g16, .ref g17, .int 0]), (h2, oC 3 [.ref g18, .int 1]), (h3, oC 3 [.ref g19, .int 0])] rfl ?_
        refine V_astore 13 B (lv2 := [(4, .ref q9), (0, .ref h0), (1, .int 0), (2, .int p1), (3, .ref g0)]) dL_bestFor_13 (by decide) rfl ?_
        refine V_iconst 15 B (v := 1) dL_bestFor_15 (by decide +kernel) ?_
        exact V_iret 16 B dL_bestFor_16 () (Or.inr (Or.inr (Or.inl ⟨rfl, k5, rfl⟩))) rfl
      ·
        obtain rfl : p0 = 0 := k6
        refine VX_catch 5 B htab [] (0, 10, 13, 18) [] rfl "java/lang/IndexOutOfBoundsException" (fun z hz => nomatch hz) rfl (by decide) (mT5 103 rfl rfl) (EB.2.2.2.1 _ (List.mem_of_getElem? (i := 1) rfl)) 13 rfl (fun q9 => ?_)
        refine V_ws [(h0, oC 12 [.ref h1, .ref g1, .ref g2, .ref g3, .ref g4, .ref g5, .ref g6, .ref g7, .ref g8, .long 0]), (h1, oC 2 [.ref h2, .ref h3, .ref g9, .ref g10, .ref g11, .ref g12, .ref g13, .ref g14, .ref g15, .ref g16, .ref g17, .int 0]), (h2, oC 3 [.ref g18, .int 1]), (h3, oC 3 [.ref g19, .int 0])] rfl ?_
        refine V_astore 13 B (lv2 := [(4, .ref q9), (0, .ref h0), (1, .int 0), (2, .int p1), (3, .ref g0)]) dL_bestFor_13 (by decide) rfl ?_
        refine V_iconst 15 B (v := 1) dL_bestFor_15 (by decide +kernel) ?_
        exact V_iret 16 B dL_bestFor_16 () (Or.inr (Or.inr (Or.inr ⟨rfl, k7, rfl⟩))) rfl
    ·
      exact w0.elim)
set_option maxRecDepth 100000 in
set_option maxHeartbeats 4000000 in
theorem mX12_bestFor_2 (l : Launch) (D : va_G) (Y : Nat → ClassId) (h0 : Nat) (h1 : Nat) (g0 : Nat) (g1 : Nat) (g2 : Nat) (g3 : Nat) (g4 : Nat) (p0 : Int32) (sz : Nat) : Met l yX12_bestFor (WSm yX12_bestFor cX12_bestFor 3 (some .int)) (mkR 2 0 0 46) (PreC D Y [.ref h0, .int 0, .int p0] [(h0, oC 13 [.ref h1, .ref g0, .int 0, .ref g1, .ref g2, .int 0, .int 0, .int 0, .int (-1), .int 0, .int 0, .int 0, .long 0, .ref g3, .ref g4, .int 0, .int 0]), (h1, aI Y 3640 (clB 0 (fun _ => 0)))] sz) (QI D (fun (r : Int32) (u : Unit) => (p0 < 0 ∧ 0 = r) ∨ ((-1) < p0 ∧ 0 = r)) (fun (_ : Unit) => [(h0, oC 13 [.ref h1, .ref g0, .int 1, .ref g1, .ref g2, .int 0, .int 0, .int 0, .int (-1), .int 0, .int 0, .int 0, .long 0, .ref g3, .ref g4, .int 0, .int 0]), (h1, aI Y 3640 (clB 0 (fun _ => 0)))]) (va_A [(h0, oC 13 [.ref h1, .ref g0, .int 0, .ref g1, .ref g2, .int 0, .int 0, .int 0, .int (-1), .int 0, .int 0, .int 0, .long 0, .ref g3, .ref g4, .int 0, .int 0]), (h1, aI Y 3640 (clB 0 (fun _ => 0)))] sz)) 0 0 (va_A [(h0, oC 13 [.ref h1, .ref g0, .int 0, .ref g1, .ref g2, .int 0, .int 0, .int 0, .int (-1), .int 0, .int 0, .int 0, .long 0, .ref g3, .ref g4, .int 0, .int 0]), (h1, aI Y 3640 (clB 0 (fun _ => 0)))] sz) :=
  met_of (by decide +kernel) (Nat.le_of_ble_eq_true rfl) (fun p e s m args below meth c B hin hsz => by
    have B : VB p s m args meth c D Y (va_A [(h0, oC 13 [.ref h1, .ref g0, .int 0, .ref g1, .ref g2, .int 0, .int 0, .int 0, .int (-1), .int 0, .int 0, .int 0, .long 0, .ref g3, .ref g4, .int 0, .int 0]), (h1, aI Y 3640 (clB 0 (fun _ => 0)))] sz) cX12_bestFor 3 RX12 (some .int) := B
    refine V_aload_n 0 B dX12_bestFor_0 0 rfl ?_
    refine V_iconst 1 B (v := 0) dX12_bestFor_1 (by decide +kernel) ?_
    refine V_put 2 B gp_RX12_38 0 rfl (Nat.le_of_ble_eq_true rfl) rfl rfl dX12_bestFor_2 [(h0, oC 13 [.ref h1, .ref g0, .int 0, .ref g1, .ref g2, .int 0, .int 0, .int 0, .int (-1), .int 0, .int 0, .int 0, .long 0, .ref g3, .ref g4, .int 0, .int 0]), (h1, aI Y 3640 (clB 0 (fun _ => 0)))] rfl ?_
    refine V_aload_n 5 B dX12_bestFor_5 0 rfl ?_
    refine V_aload_n 6 B dX12_bestFor_6 0 rfl ?_
    refine V_iload_n 7 B dX12_bestFor_7 1 rfl ?_
    refine V_cvi 8 B (st := [.ref h0]) (As := [.int 0]) (fun sz => mX12_isMode_2 l D Y (h0) (h1) (g0) (g1) (g2) (g3) (g4) sz) glV_RX12_91 ⟨rfl, rfl⟩ ⟨(Nat.le_of_ble_eq_true rfl), (Nat.le_of_ble_eq_true rfl)⟩ ⟨(Nat.le_of_ble_eq_true rfl), (Nat.le_of_ble_eq_true rfl)⟩ [0, 0] rfl 13 0 rfl rfl rfl rfl (Nat.le_of_ble_eq_true rfl) rfl (fun _ _ _ => rfl) dX12_bestFor_8 (fun r0 u0 w0 => ?_)
    obtain rfl := w0
    refine V_ws [(h0, oC 13 [.ref h1, .ref g0, .int 0, .ref g1, .ref g2, .int 0, .int 0, .int 0, .int (-1), .int 0, .int 0, .int 0, .long 0, .ref g3, .ref g4, .int 0, .int 0]), (h1, aI Y 3640 (clB 0 (fun _ => 0)))] rfl ?_
    refine V_if_eq_f 11 B 22 dX12_bestFor_11 (by decide) (by decide +kernel) ?_
    refine V_aload_n 14 B dX12_bestFor_14 0 rfl ?_
    refine V_iload_n 15 B dX12_bestFor_15 2 rfl ?_
    refine V_cvi 16 B (st := [.ref h0]) (As := [.int p0]) (fun sz => mX12_isCommand_1 l D Y (h0) (h1) (g0) (g1) (g2) (g3) (g4) (p0) sz) glV_RX12_99 ⟨rfl, rfl⟩ ⟨(Nat.le_of_ble_eq_true rfl), (Nat.le_of_ble_eq_true rfl)⟩ ⟨(Nat.le_of_ble_eq_true rfl), (Nat.le_of_ble_eq_true rfl)⟩ [0, 0] rfl 13 0 rfl rfl rfl rfl (Nat.le_of_ble_eq_true rfl) rfl (fun _ _ _ => rfl) dX12_bestFor_16 (fun r1 u1 w1 => ?_)
    rcases w1 with ⟨k2, rfl⟩ | ⟨k3, rfl⟩
    ·
      refine V_ws [(h0, oC 13 [.ref h1, .ref g0, .int 0, .ref g1, .ref g2, .int 0, .int 0, .int 0, .int (-1), .int 0, .int 0, .int 0, .long 0, .ref g3, .ref g4, .int 0, .int 0]), (h1, aI Y 3640 (clB 0 (fun _ => 0)))] rfl ?_
      refine V_if_ne_f 19 B 26 dX12_bestFor_19 (by decide) (by decide +kernel) ?_
      refine V_iconst 22 B (v := 1) dX12_bestFor_22 (by decide +kernel) ?_
      refine V_goto 23 B 27 dX12_bestFor_23 (by decide) ?_
      refine V_iconst 27 B (v := 1) dX12_bestFor_27 (by decide +kernel) ?_
      refine V_cvi 28 B (st := []) (As := [.int 1, .int 1]) (fun sz => mX12_throwsIf_1 l D Y (h0) (h1) (g0) (g1) (g2) (g3) (g4) sz) glV_RX12_69 ⟨rfl, rfl⟩ ⟨(Nat.le_of_ble_eq_true rfl), (Nat.le_of_ble_eq_true rfl)⟩ ⟨(Nat.le_of_ble_eq_true rfl), (Nat.le_of_ble_eq_true rfl)⟩ [0] rfl 13 0 rfl rfl rfl rfl (Nat.le_of_ble_eq_true rfl) rfl (fun _ _ _ => rfl) dX12_bestFor_28 (fun r4 u4 w4 => ?_)
      obtain rfl := w4
      refine V_ws [(h0, oC 13 [.ref h1, .ref g0, .int 1, .ref g1, .ref g2, .int 0, .int 0, .int 0, .int (-1), .int 0, .int 0, .int 0, .long 0, .ref g3, .ref g4, .int 0, .int 0]), (h1, aI Y 3640 (clB 0 (fun _ => 0)))] rfl ?_
      refine V_if_eq_f 31 B 38 dX12_bestFor_31 (by decide) (by decide +kernel) ?_
      refine V_iconst 34 B (v := 0) dX12_bestFor_34 (by decide +kernel) ?_
      refine V_goto 35 B 44 dX12_bestFor_35 (by decide) ?_
      exact V_iret 44 B dX12_bestFor_44 () (Or.inl ⟨k2, rfl⟩) rfl
    ·
      refine V_ws [(h0, oC 13 [.ref h1, .ref g0, .int 0, .ref g1, .ref g2, .int 0, .int 0, .int 0, .int (-1), .int 0, .int 0, .int 0, .long 0, .ref g3, .ref g4, .int 0, .int 0]), (h1, aI Y 3640 (clB 0 (fun _ => 0)))] rfl ?_
      refine V_if_ne_f 19 B 26 dX12_bestFor_19 (by decide) (by decide +kernel) ?_
      refine V_iconst 22 B (v := 1) dX12_bestFor_22 (by decide +kernel) ?_
      refine V_goto 23 B 27 dX12_bestFor_23 (by decide) ?_
      refine V_iconst 27 B (v := 1) dX12_bestFor_27 (by decide +kernel) ?_
      refine V_cvi 28 B (st := []) (As := [.int 1, .int 1]) (fun sz => mX12_throwsIf_1 l D Y (h0) (h1) (g0) (g1) (g2) (g3) (g4) sz) glV_RX12_69 ⟨rfl, rfl⟩ ⟨(Nat.le_of_ble_eq_true rfl), (Nat.le_of_ble_eq_true rfl)⟩ ⟨(Nat.le_of_ble_eq_true rfl), (Nat.le_of_ble_eq_true rfl)⟩ [0] rfl 13 0 rfl rfl rfl rfl (Nat.le_of_ble_eq_true rfl) rfl (fun _ _ _ => rfl) dX12_bestFor_28 (fun r5 u5 w5 => ?_)
      obtain rfl := w5
      refine V_ws [(h0, oC 13 [.ref h1, .ref g0, .int 1, .ref g1, .ref g2, .int 0, .int 0, .int 0, .int (-1), .int 0, .int 0, .int 0, .long 0, .ref g3, .ref g4, .int 0, .int 0]), (h1, aI Y 3640 (clB 0 (fun _ => 0)))] rfl ?_
      refine V_if_eq_f 31 B 38 dX12_bestFor_31 (by decide) (by decide +kernel) ?_
      refine V_iconst 34 B (v := 0) dX12_bestFor_34 (by decide +kernel) ?_
      refine V_goto 35 B 44 dX12_bestFor_35 (by decide) ?_
      exact V_iret 44 B dX12_bestFor_44 () (Or.inr ⟨k3, rfl⟩) rfl)
theorem dL_law_1934 : decode cL_law 1934 = .ok (.aload_n 1, 1) := by decide +kernel
theorem dL_law_1935 : decode cL_law 1935 = .ok (.aload_n 0, 1) := by decide +kernel
theorem dL_law_1936 : decode cL_law 1936 = .ok (.iload 4, 2) := by decide +kernel
theorem dL_law_1938 : decode cL_law 1938 = .ok (.iconst 1, 1) := by decide +kernel
theorem dL_law_1939 : decode cL_law 1939 = .ok (.iadd, 1) := by decide +kernel
theorem dL_law_1940 : decode cL_law 1940 = .ok (.iaload, 1) := by decide +kernel
theorem dL_law_1941 : decode cL_law 1941 = .ok (.aload_n 0, 1) := by decide +kernel
theorem dL_law_1942 : decode cL_law 1942 = .ok (.iload 4, 2) := by decide +kernel
theorem dL_law_1944 : decode cL_law 1944 = .ok (.iconst 2, 1) := by decide +kernel
theorem dL_law_1945 : decode cL_law 1945 = .ok (.iadd, 1) := by decide +kernel
theorem dL_law_1946 : decode cL_law 1946 = .ok (.iaload, 1) := by decide +kernel
theorem dL_law_1947 : decode cL_law 1947 = .ok (.aload_n 3, 1) := by decide +kernel
theorem dL_law_1948 : decode cL_law 1948 = .ok (.invokestatic 268, 3) := by decide +kernel
theorem glH_RL_268 : GLH RL 268 yL_bestFor cL_bestFor 5 (some .int) [(0, 10, 13, 18)] 4 := ⟨⟨(mT6 131 rfl rfl), (mT6 132 rfl rfl), (mT1 0 rfl rfl), (mT6 133 rfl rfl)⟩, by decide +kernel⟩
theorem dL_law_1951 : decode cL_law 1951 = .ok (.istore 5, 2) := by decide +kernel
theorem dL_law_1953 : decode cL_law 1953 = .ok (.aload_n 2, 1) := by decide +kernel
theorem dL_law_1954 : decode cL_law 1954 = .ok (.aload_n 0, 1) := by decide +kernel
theorem dL_law_1955 : decode cL_law 1955 = .ok (.iload 4, 2) := by decide +kernel
theorem dL_law_1957 : decode cL_law 1957 = .ok (.iconst 1, 1) := by decide +kernel
theorem dL_law_1958 : decode cL_law 1958 = .ok (.iadd, 1) := by decide +kernel
theorem dL_law_1959 : decode cL_law 1959 = .ok (.iaload, 1) := by decide +kernel
theorem dL_law_1960 : decode cL_law 1960 = .ok (.aload_n 0, 1) := by decide +kernel
theorem dL_law_1961 : decode cL_law 1961 = .ok (.iload 4, 2) := by decide +kernel
theorem dL_law_1963 : decode cL_law 1963 = .ok (.iconst 2, 1) := by decide +kernel
theorem dL_law_1964 : decode cL_law 1964 = .ok (.iadd, 1) := by decide +kernel
theorem dL_law_1965 : decode cL_law 1965 = .ok (.iaload, 1) := by decide +kernel
theorem dL_law_1966 : decode cL_law 1966 = .ok (.invokevirtual 270, 3) := by decide +kernel
theorem glV_RL_270 : GLV RL 270 yX12_bestFor RX12 cX12_bestFor 3 (some .int) 2 := ⟨⟨(mT8 228 rfl rfl), (mT8 229 rfl rfl), (mT8 230 rfl rfl), (mT1 13 rfl rfl), (mT8 231 rfl rfl)⟩, by decide +kernel⟩
theorem dL_law_1969 : decode cL_law 1969 = .ok (.istore 6, 2) := by decide +kernel
theorem dL_law_1971 : decode cL_law 1971 = .ok (.aload_n 2, 1) := by decide +kernel
theorem dL_law_1972 : decode cL_law 1972 = .ok (.invokevirtual 182, 3) := by decide +kernel
theorem dL_law_1975 : decode cL_law 1975 = .ok (.iload 5, 2) := by decide +kernel
theorem dL_law_1977 : decode cL_law 1977 = .ok (.if_icmp .eq 5, 3) := by decide +kernel
theorem dL_law_1982 : decode cL_law 1982 = .ok (.iload 5, 2) := by decide +kernel
theorem dL_law_1984 : decode cL_law 1984 = .ok (.ifCond .ne 15, 3) := by decide +kernel
theorem dL_law_1999 : decode cL_law 1999 = .ok (.goto 1333, 3) := by decide +kernel
set_option maxRecDepth 100000 in
set_option maxHeartbeats 4000000 in
theorem law_c33 {p : Program} {l : Launch} {e : Env} {s : State} {m : MethodId} {below : List Frame} {meth : Method} {c : Code} {b : Nat} {xs : Nat → Int32} {D : va_G} {Y : Nat → ClassId} (B : VB p s m #[Value.ref b] meth c D Y (fun q => s.heap.size ≤ q) cL_law 8 RL ret) (EB : EX (fun q => s.heap.size ≤ q) s s.heap) (hl9 : l.stackTraces = false) (hX : va_X b 6 xs s s.heap) (hbl : b < s.heap.size) (hbA : ¬ (fun q => s.heap.size ≤ q) b) (x0 x1 x30 x59 x88 x117 x126 x127 x129 x132 x2 x4 x6 x8 x10 x12 x14 x16 x18 x20 x27 x3 x5 m0 m1 m2 m3 m4 m5 m6 o0 : Nat) (p1 p2 : Int32) (e1 : xs 1 = p1) (e2 : xs 2 = p2) : V p l e room_1 s m #[Value.ref b] below meth c D (fun q => s.heap.size ≤ q) 8 149 10574 (lw_Z below #[Value.ref b] s) 1934 [(4, .int 0), (3, .ref o0), (2, .ref m0), (1, .ref x0), (0, .ref b)] [] [(x0, oC 12 [.ref x1, .ref x30, .ref x59, .ref x88, .ref x117, .ref x126, .ref x127, .ref x129, .ref x132, .long 0]), (x1, oC 2 [.ref x2, .ref x4, .ref x6, .ref x8, .ref x10, .ref x12, .ref x14, .ref x16, .ref x18, .ref x20, .ref x27, .int 0]), (x2, oC 3 [.ref x3, .int 1]), (x4, oC 3 [.ref x5, .int 0]), (m0, oC 13 [.ref m1, .ref m2, .int 0, .ref m3, .ref m4, .int 0, .int 0, .int 0, .int (-1), .int 0, .int 0, .int 0, .long 0, .ref m5, .ref m6, .int 0, .int 0]), (m1, aI Y 3640 (clB 0 (fun _ => 0)))] := by
  refine V_aload_n 1934 B dL_law_1934 3 rfl ?_
  refine V_aload_n 1935 B dL_law_1935 4 rfl ?_
  refine V_iload 1936 B dL_law_1936 0 rfl ?_
  refine V_iconst 1938 B (v := 1) dL_law_1938 (by decide +kernel) ?_
  refine V_iadd 1939 B (v := 1) dL_law_1939 (by decide +kernel) ?_
  refine V_sld 1940 B hX hbl hbA (v := p1) (vpin _ _ (by decide +kernel)) dL_law_1940 e1 ?_
  refine V_aload_n 1941 B dL_law_1941 4 rfl ?_
  refine V_iload 1942 B dL_law_1942 0 rfl ?_
  refine V_iconst 1944 B (v := 2) dL_law_1944 (by decide +kernel) ?_
  refine V_iadd 1945 B (v := 2) dL_law_1945 (by decide +kernel) ?_
  refine V_sld 1946 B hX hbl hbA (v := p2) (vpin _ _ (by decide +kernel)) dL_law_1946 e2 ?_
  refine V_aload_n 1947 B dL_law_1947 1 rfl ?_
  refine V_hsi 1948 B EB (st := []) (As := [.ref x0, .int p1, .int p2, .ref o0]) (fun sz => mL_bestFor_1 l hl9 D Y (x0) (o0) (x1) (x30) (x59) (x88) (x117) (x126) (x127) (x129) (x132) (x2) (x4) (x6) (x8) (x10) (x12) (x14) (x16) (x18) (x20) (x27) (x3) (x5) (p1) (p2) sz) glH_RL_268 ⟨rfl, rfl⟩ ⟨(Nat.le_of_ble_eq_true rfl), (Nat.le_of_ble_eq_true rfl)⟩ ⟨(Nat.le_of_ble_eq_true rfl), (Nat.le_of_ble_eq_true rfl)⟩ [0, 0, 0, 0] rfl rfl (Nat.le_of_ble_eq_true rfl) rfl (fun _ _ _ => rfl) dL_law_1948 (fun r0 u0 w0 => ?_)
  rcases w0 with ⟨k1, rfl⟩ | ⟨k2, k3, rfl⟩ | ⟨k4, k5, rfl⟩ | ⟨k6, k7, rfl⟩
  ·
    refine V_ws [(x0, oC 12 [.ref x1, .ref x30, .ref x59, .ref x88, .ref x117, .ref x126, .ref x127, .ref x129, .ref x132, .long 0]), (x1, oC 2 [.ref x2, .ref x4, .ref x6, .ref x8, .ref x10, .ref x12, .ref x14, .ref x16, .ref x18, .ref x20, .ref x27, .int 0]), (x2, oC 3 [.ref x3, .int 1]), (x4, oC 3 [.ref x5, .int 0]), (m0, oC 13 [.ref m1, .ref m2, .int 0, .ref m3, .ref m4, .int 0, .int 0, .int 0, .int (-1), .int 0, .int 0, .int 0, .long 0, .ref m5, .ref m6, .int 0, .int 0]), (m1, aI Y 3640 (clB 0 (fun _ => 0)))] rfl ?_
    refine V_istore 1951 B (lv2 := [(5, .int 1), (4, .int 0), (3, .ref o0), (2, .ref m0), (1, .ref x0), (0, .ref b)]) dL_law_1951 (by decide) rfl ?_
    refine V_aload_n 1953 B dL_law_1953 3 rfl ?_
    refine V_aload_n 1954 B dL_law_1954 5 rfl ?_
    refine V_iload 1955 B dL_law_1955 1 rfl ?_
    refine V_iconst 1957 B (v := 1) dL_law_1957 (by decide +kernel) ?_
    refine V_iadd 1958 B (v := 1) dL_law_1958 (by decide +kernel) ?_
    refine V_sld 1959 B hX hbl hbA (v := p1) (vpin _ _ (by decide +kernel)) dL_law_1959 e1 ?_
    refine V_aload_n 1960 B dL_law_1960 5 rfl ?_
    refine V_iload 1961 B dL_law_1961 1 rfl ?_
    refine V_iconst 1963 B (v := 2) dL_law_1963 (by decide +kernel) ?_
    refine V_iadd 1964 B (v := 2) dL_law_1964 (by decide +kernel) ?_
    refine V_sld 1965 B hX hbl hbA (v := p2) (vpin _ _ (by decide +kernel)) dL_law_1965 e2 ?_
    refine V_cvi 1966 B (st := []) (As := [.int p1, .int p2]) (fun sz => mX12_bestFor_1 l D Y (m0) (m1) (m2) (m3) (m4) (m5) (m6) (p1) (p2) sz) glV_RL_270 ⟨rfl, rfl⟩ ⟨(Nat.le_of_ble_eq_true rfl), (Nat.le_of_ble_eq_true rfl)⟩ ⟨(Nat.le_of_ble_eq_true rfl), (Nat.le_of_ble_eq_true rfl)⟩ [4, 0] rfl 13 0 rfl rfl rfl rfl (Nat.le_of_ble_eq_true rfl) rfl (fun _ _ _ => rfl) dL_law_1966 (fun r8 u8 w8 => ?_)
    rcases w8 with ⟨k9, k10, rfl⟩ | ⟨k11, k12, rfl⟩ | ⟨k13, rfl⟩ | ⟨k14, rfl⟩
    ·
      refine V_ws [(x0, oC 12 [.ref x1, .ref x30, .ref x59, .ref x88, .ref x117, .ref x126, .ref x127, .ref x129, .ref x132, .long 0]), (x1, oC 2 [.ref x2, .ref x4, .ref x6, .ref x8, .ref x10, .ref x12, .ref x14, .ref x16, .ref x18, .ref x20, .ref x27, .int 0]), (x2, oC 3 [.ref x3, .int 1]), (x4, oC 3 [.ref x5, .int 0]), (m0, oC 13 [.ref m1, .ref m2, .int 1, .ref m3, .ref m4, .int 0, .int 0, .int 0, .int (-1), .int 0, .int 0, .int 0, .long 0, .ref m5, .ref m6, .int 0, .int 0]), (m1, aI Y 3640 (clB 0 (fun _ => 0)))] rfl ?_
      exact absurd k9 (q_neh (b_lt k1 (n := (-1)) (by decide +kernel)) (by decide +kernel))
    ·
      refine V_ws [(x0, oC 12 [.ref x1, .ref x30, .ref x59, .ref x88, .ref x117, .ref x126, .ref x127, .ref x129, .ref x132, .long 0]), (x1, oC 2 [.ref x2, .ref x4, .ref x6, .ref x8, .ref x10, .ref x12, .ref x14, .ref x16, .ref x18, .ref x20, .ref x27, .int 0]), (x2, oC 3 [.ref x3, .int 1]), (x4, oC 3 [.ref x5, .int 0]), (m0, oC 13 [.ref m1, .ref m2, .int 1, .ref m3, .ref m4, .int 0, .int 0, .int 0, .int (-1), .int 0, .int 0, .int 0, .long 0, .ref m5, .ref m6, .int 0, .int 0]), (m1, aI Y 3640 (clB 0 (fun _ => 0)))] rfl ?_
      exact absurd k11 (q_neh (b_lt k1 (n := (-1)) (by decide +kernel)) (by decide +kernel))
    ·
      refine V_ws [(x0, oC 12 [.ref x1, .ref x30, .ref x59, .ref x88, .ref x117, .ref x126, .ref x127, .ref x129, .ref x132, .long 0]), (x1, oC 2 [.ref x2, .ref x4, .ref x6, .ref x8, .ref x10, .ref x12, .ref x14, .ref x16, .ref x18, .ref x20, .ref x27, .int 0]), (x2, oC 3 [.ref x3, .int 1]), (x4, oC 3 [.ref x5, .int 0]), (m0, oC 13 [.ref m1, .ref m2, .int 1, .ref m3, .ref m4, .int 0, .int 0, .int 0, .int (-1), .int 0, .int 0, .int 0, .long 0, .ref m5, .ref m6, .int 0, .int 0]), (m1, aI Y 3640 (clB 0 (fun _ => 0)))] rfl ?_
      refine V_istore 1969 B (lv2 := [(6, .int 0), (5, .int 1), (4, .int 0), (3, .ref o0), (2, .ref m0), (1, .ref x0), (0, .ref b)]) dL_law_1969 (by decide) rfl ?_
      refine V_aload_n 1971 B dL_law_1971 4 rfl ?_
      refine V_cvi 1972 B (st := []) (As := []) (fun sz => mX12_thrown_2 l D Y (m0) (m1) (m2) (m3) (m4) (m5) (m6) sz) glV_RL_182 ⟨rfl, rfl⟩ ⟨(Nat.le_of_ble_eq_true rfl), (Nat.le_of_ble_eq_true rfl)⟩ ⟨(Nat.le_of_ble_eq_true rfl), (Nat.le_of_ble_eq_true rfl)⟩ [4] rfl 13 0 rfl rfl rfl rfl (Nat.le_of_ble_eq_true rfl) rfl (fun _ _ _ => rfl) dL_law_1972 (fun r15 u15 w15 => ?_)
      obtain rfl := w15
      refine V_ws [(x0, oC 12 [.ref x1, .ref x30, .ref x59, .ref x88, .ref x117, .ref x126, .ref x127, .ref x129, .ref x132, .long 0]), (x1, oC 2 [.ref x2, .ref x4, .ref x6, .ref x8, .ref x10, .ref x12, .ref x14, .ref x16, .ref x18, .ref x20, .ref x27, .int 0]), (x2, oC 3 [.ref x3, .int 1]), (x4, oC 3 [.ref x5, .int 0]), (m0, oC 13 [.ref m1, .ref m2, .int 1, .ref m3, .ref m4, .int 0, .int 0, .int 0, .int (-1), .int 0, .int 0, .int 0, .long 0, .ref m5, .ref m6, .int 0, .int 0]), (m1, aI Y 3640 (clB 0 (fun _ => 0)))] rfl ?_
      refine V_iload 1975 B dL_law_1975 1 rfl ?_
      refine V_icmp_eq_t 1977 B 1982 dL_law_1977 (by decide) (by decide +kernel) ?_
      refine V_iload 1982 B dL_law_1982 1 rfl ?_
      refine V_if_ne_t 1984 B 1999 dL_law_1984 (by decide) (by decide +kernel) ?_
      refine V_goto 1999 B 3332 dL_law_1999 (by decide) ?_
      refine V_iinc 3332 B (v := 6) (lv2 := [(4, .int 6), (6, .int 0), (5, .int 1), (3, .ref o0), (2, .ref m0), (1, .ref x0), (0, .ref b)]) dL_law_3332 2 rfl (by decide +kernel) (by decide) rfl ?_
      refine V_goto 3335 B 23 dL_law_3335 (by decide) ?_
      refine V_iload 23 B dL_law_23 0 rfl ?_
      refine V_aload_n 25 B dL_law_25 6 rfl ?_
      refine V_slen 26 B hX hbl hbA (v := 6) (by decide +kernel) dL_law_26 ?_
      refine V_bipush 27 B (v := 6) dL_law_27 (by decide +kernel) ?_
      refine V_isub 29 B (v := 0) dL_law_29 (by decide +kernel) ?_
      refine V_icmp_gt_t 30 B 3338 dL_law_30 (by decide) (by decide +kernel) ?_
      exact law_end B (Nat.le_of_ble_eq_true rfl) (Nat.le_of_ble_eq_true rfl) dL_law_3338 dL_law_3339
    ·
      refine V_ws [(x0, oC 12 [.ref x1, .ref x30, .ref x59, .ref x88, .ref x117, .ref x126, .ref x127, .ref x129, .ref x132, .long 0]), (x1, oC 2 [.ref x2, .ref x4, .ref x6, .ref x8, .ref x10, .ref x12, .ref x14, .ref x16, .ref x18, .ref x20, .ref x27, .int 0]), (x2, oC 3 [.ref x3, .int 1]), (x4, oC 3 [.ref x5, .int 0]), (m0, oC 13 [.ref m1, .ref m2, .int 1, .ref m3, .ref m4, .int 0, .int 0, .int 0, .int (-1), .int 0, .int 0, .int 0, .long 0, .ref m5, .ref m6, .int 0, .int 0]), (m1, aI Y 3640 (clB 0 (fun _ => 0)))] rfl ?_
      exact (q_abs (b_gt k14 (n := 1) (by decide +kernel)) (b_lt k1 (n := (-1)) (by decide +kernel)) (by decide +kernel)).elim
  ·
    refine V_ws [(x0, oC 12 [.ref x1, .ref x30, .ref x59, .ref x88, .ref x117, .ref x126, .ref x127, .ref x129, .ref x132, .long 0]), (x1, oC 2 [.ref x2, .ref x4, .ref x6, .ref x8, .ref x10, .ref x12, .ref x14, .ref x16, .ref x18, .ref x20, .ref x27, .int 0]), (x2, oC 3 [.ref x3, .int 1]), (x4, oC 3 [.ref x5, .int 0]), (m0, oC 13 [.ref m1, .ref m2, .int 0, .ref m3, .ref m4, .int 0, .int 0, .int 0, .int (-1), .int 0, .int 0, .int 0, .long 0, .ref m5, .ref m6, .int 0, .int 0]), (m1, aI Y 3640 (clB 0 (fun _ => 0)))] rfl ?_
    refine V_istore 1951 B (lv2 := [(5, .int 1), (4, .int 0), (3, .ref o0), (2, .ref m0), (1, .ref x0), (0, .ref b)]) dL_law_1951 (by decide) rfl ?_
    refine V_aload_n 1953 B dL_law_1953 3 rfl ?_
    refine V_aload_n 1954 B dL_law_1954 5 rfl ?_
    refine V_iload 1955 B dL_law_1955 1 rfl ?_
    refine V_iconst 1957 B (v := 1) dL_law_1957 (by decide +kernel) ?_
    refine V_iadd 1958 B (v := 1) dL_law_1958 (by decide +kernel) ?_
    refine V_sld 1959 B hX hbl hbA (v := p1) (vpin _ _ (by decide +kernel)) dL_law_1959 e1 ?_
    refine V_aload_n 1960 B dL_law_1960 5 rfl ?_
    refine V_iload 1961 B dL_law_1961 1 rfl ?_
    refine V_iconst 1963 B (v := 2) dL_law_1963 (by decide +kernel) ?_
    refine V_iadd 1964 B (v := 2) dL_law_1964 (by decide +kernel) ?_
    refine V_sld 1965 B hX hbl hbA (v := p2) (vpin _ _ (by decide +kernel)) dL_law_1965 e2 ?_
    refine V_cvi 1966 B (st := []) (As := [.int p1, .int p2]) (fun sz => mX12_bestFor_1 l D Y (m0) (m1) (m2) (m3) (m4) (m5) (m6) (p1) (p2) sz) glV_RL_270 ⟨rfl, rfl⟩ ⟨(Nat.le_of_ble_eq_true rfl), (Nat.le_of_ble_eq_true rfl)⟩ ⟨(Nat.le_of_ble_eq_true rfl), (Nat.le_of_ble_eq_true rfl)⟩ [4, 0] rfl 13 0 rfl rfl rfl rfl (Nat.le_of_ble_eq_true rfl) rfl (fun _ _ _ => rfl) dL_law_1966 (fun r16 u16 w16 => ?_)
    rcases w16 with ⟨k17, k18, rfl⟩ | ⟨k19, k20, rfl⟩ | ⟨k21, rfl⟩ | ⟨k22, rfl⟩
    ·
      refine V_ws [(x0, oC 12 [.ref x1, .ref x30, .ref x59, .ref x88, .ref x117, .ref x126, .ref x127, .ref x129, .ref x132, .long 0]), (x1, oC 2 [.ref x2, .ref x4, .ref x6, .ref x8, .ref x10, .ref x12, .ref x14, .ref x16, .ref x18, .ref x20, .ref x27, .int 0]), (x2, oC 3 [.ref x3, .int 1]), (x4, oC 3 [.ref x5, .int 0]), (m0, oC 13 [.ref m1, .ref m2, .int 1, .ref m3, .ref m4, .int 0, .int 0, .int 0, .int (-1), .int 0, .int 0, .int 0, .long 0, .ref m5, .ref m6, .int 0, .int 0]), (m1, aI Y 3640 (clB 0 (fun _ => 0)))] rfl ?_
      exact absurd k17 (q_nel (b_ge k3 (n := 1) (by decide +kernel)) (by decide +kernel))
    ·
      refine V_ws [(x0, oC 12 [.ref x1, .ref x30, .ref x59, .ref x88, .ref x117, .ref x126, .ref x127, .ref x129, .ref x132, .long 0]), (x1, oC 2 [.ref x2, .ref x4, .ref x6, .ref x8, .ref x10, .ref x12, .ref x14, .ref x16, .ref x18, .ref x20, .ref x27, .int 0]), (x2, oC 3 [.ref x3, .int 1]), (x4, oC 3 [.ref x5, .int 0]), (m0, oC 13 [.ref m1, .ref m2, .int 1, .ref m3, .ref m4, .int 0, .int 0, .int 0, .int (-1), .int 0, .int 0, .int 0, .long 0, .ref m5, .ref m6, .int 0, .int 0]), (m1, aI Y 3640 (clB 0 (fun _ => 0)))] rfl ?_
      exact absurd k19 (q_nel (b_ge k3 (n := 1) (by decide +kernel)) (by decide +kernel))
    ·
      refine V_ws [(x0, oC 12 [.ref x1, .ref x30, .ref x59, .ref x88, .ref x117, .ref x126, .ref x127, .ref x129, .ref x132, .long 0]), (x1, oC 2 [.ref x2, .ref x4, .ref x6, .ref x8, .ref x10, .ref x12, .ref x14, .ref x16, .ref x18, .ref x20, .ref x27, .int 0]), (x2, oC 3 [.ref x3, .int 1]), (x4, oC 3 [.ref x5, .int 0]), (m0, oC 13 [.ref m1, .ref m2, .int 1, .ref m3, .ref m4, .int 0, .int 0, .int 0, .int (-1), .int 0, .int 0, .int 0, .long 0, .ref m5, .ref m6, .int 0, .int 0]), (m1, aI Y 3640 (clB 0 (fun _ => 0)))] rfl ?_
      exact (q_abs (b_ge k3 (n := 1) (by decide +kernel)) (b_lt k21 (n := (-1)) (by decide +kernel)) (by decide +kernel)).elim
    ·
      refine V_ws [(x0, oC 12 [.ref x1, .ref x30, .ref x59, .ref x88, .ref x117, .ref x126, .ref x127, .ref x129, .ref x132, .long 0]), (x1, oC 2 [.ref x2, .ref x4, .ref x6, .ref x8, .ref x10, .ref x12, .ref x14, .ref x16, .ref x18, .ref x20, .ref x27, .int 0]), (x2, oC 3 [.ref x3, .int 1]), (x4, oC 3 [.ref x5, .int 0]), (m0, oC 13 [.ref m1, .ref m2, .int 1, .ref m3, .ref m4, .int 0, .int 0, .int 0, .int (-1), .int 0, .int 0, .int 0, .long 0, .ref m5, .ref m6, .int 0, .int 0]), (m1, aI Y 3640 (clB 0 (fun _ => 0)))] rfl ?_
      refine V_istore 1969 B (lv2 := [(6, .int 0), (5, .int 1), (4, .int 0), (3, .ref o0), (2, .ref m0), (1, .ref x0), (0, .ref b)]) dL_law_1969 (by decide) rfl ?_
      refine V_aload_n 1971 B dL_law_1971 4 rfl ?_
      refine V_cvi 1972 B (st := []) (As := []) (fun sz => mX12_thrown_2 l D Y (m0) (m1) (m2) (m3) (m4) (m5) (m6) sz) glV_RL_182 ⟨rfl, rfl⟩ ⟨(Nat.le_of_ble_eq_true rfl), (Nat.le_of_ble_eq_true rfl)⟩ ⟨(Nat.le_of_ble_eq_true rfl), (Nat.le_of_ble_eq_true rfl)⟩ [4] rfl 13 0 rfl rfl rfl rfl (Nat.le_of_ble_eq_true rfl) rfl (fun _ _ _ => rfl) dL_law_1972 (fun r23 u23 w23 => ?_)
      obtain rfl := w23
      refine V_ws [(x0, oC 12 [.ref x1, .ref x30, .ref x59, .ref x88, .ref x117, .ref x126, .ref x127, .ref x129, .ref x132, .long 0]), (x1, oC 2 [.ref x2, .ref x4, .ref x6, .ref x8, .ref x10, .ref x12, .ref x14, .ref x16, .ref x18, .ref x20, .ref x27, .int 0]), (x2, oC 3 [.ref x3, .int 1]), (x4, oC 3 [.ref x5, .int 0]), (m0, oC 13 [.ref m1, .ref m2, .int 1, .ref m3, .ref m4, .int 0, .int 0, .int 0, .int (-1), .int 0, .int 0, .int 0, .long 0, .ref m5, .ref m6, .int 0, .int 0]), (m1, aI Y 3640 (clB 0 (fun _ => 0)))] rfl ?_
      refine V_iload 1975 B dL_law_1975 1 rfl ?_
      refine V_icmp_eq_t 1977 B 1982 dL_law_1977 (by decide) (by decide +kernel) ?_
      refine V_iload 1982 B dL_law_1982 1 rfl ?_
      refine V_if_ne_t 1984 B 1999 dL_law_1984 (by decide) (by decide +kernel) ?_
      refine V_goto 1999 B 3332 dL_law_1999 (by decide) ?_
      refine V_iinc 3332 B (v := 6) (lv2 := [(4, .int 6), (6, .int 0), (5, .int 1), (3, .ref o0), (2, .ref m0), (1, .ref x0), (0, .ref b)]) dL_law_3332 2 rfl (by decide +kernel) (by decide) rfl ?_
      refine V_goto 3335 B 23 dL_law_3335 (by decide) ?_
      refine V_iload 23 B dL_law_23 0 rfl ?_
      refine V_aload_n 25 B dL_law_25 6 rfl ?_
      refine V_slen 26 B hX hbl hbA (v := 6) (by decide +kernel) dL_law_26 ?_
      refine V_bipush 27 B (v := 6) dL_law_27 (by decide +kernel) ?_
      refine V_isub 29 B (v := 0) dL_law_29 (by decide +kernel) ?_
      refine V_icmp_gt_t 30 B 3338 dL_law_30 (by decide) (by decide +kernel) ?_
      exact law_end B (Nat.le_of_ble_eq_true rfl) (Nat.le_of_ble_eq_true rfl) dL_law_3338 dL_law_3339
  ·
    refine V_ws [(x0, oC 12 [.ref x1, .ref x30, .ref x59, .ref x88, .ref x117, .ref x126, .ref x127, .ref x129, .ref x132, .long 0]), (x1, oC 2 [.ref x2, .ref x4, .ref x6, .ref x8, .ref x10, .ref x12, .ref x14, .ref x16, .ref x18, .ref x20, .ref x27, .int 0]), (x2, oC 3 [.ref x3, .int 1]), (x4, oC 3 [.ref x5, .int 0]), (m0, oC 13 [.ref m1, .ref m2, .int 0, .ref m3, .ref m4, .int 0, .int 0, .int 0, .int (-1), .int 0, .int 0, .int 0, .long 0, .ref m5, .ref m6, .int 0, .int 0]), (m1, aI Y 3640 (clB 0 (fun _ => 0)))] rfl ?_
    obtain rfl : p1 = 0 := k4
    refine V_istore 1951 B (lv2 := [(5, .int 1), (4, .int 0), (3, .ref o0), (2, .ref m0), (1, .ref x0), (0, .ref b)]) dL_law_1951 (by decide) rfl ?_
    refine V_aload_n 1953 B dL_law_1953 3 rfl ?_
    refine V_aload_n 1954 B dL_law_1954 5 rfl ?_
    refine V_iload 1955 B dL_law_1955 1 rfl ?_
    refine V_iconst 1957 B (v := 1) dL_law_1957 (by decide +kernel) ?_
    refine V_iadd 1958 B (v := 1) dL_law_1958 (by decide +kernel) ?_
    refine V_sld 1959 B hX hbl hbA (v := 0) (vpin _ _ (by decide +kernel)) dL_law_1959 e1 ?_
    refine V_aload_n 1960 B dL_law_1960 5 rfl ?_
    refine V_iload 1961 B dL_law_1961 1 rfl ?_
    refine V_iconst 1963 B (v := 2) dL_law_1963 (by decide +kernel) ?_
    refine V_iadd 1964 B (v := 2) dL_law_1964 (by decide +kernel) ?_
    refine V_sld 1965 B hX hbl hbA (v := p2) (vpin _ _ (by decide +kernel)) dL_law_1965 e2 ?_
    refine V_cvi 1966 B (st := []) (As := [.int 0, .int p2]) (fun sz => mX12_bestFor_2 l D Y (m0) (m1) (m2) (m3) (m4) (m5) (m6) (p2) sz) glV_RL_270 ⟨rfl, rfl⟩ ⟨(Nat.le_of_ble_eq_true rfl), (Nat.le_of_ble_eq_true rfl)⟩ ⟨(Nat.le_of_ble_eq_true rfl), (Nat.le_of_ble_eq_true rfl)⟩ [4, 0] rfl 13 0 rfl rfl rfl rfl (Nat.le_of_ble_eq_true rfl) rfl (fun _ _ _ => rfl) dL_law_1966 (fun r24 u24 w24 => ?_)
    rcases w24 with ⟨k25, rfl⟩ | ⟨k26, rfl⟩
    ·
      refine V_ws [(x0, oC 12 [.ref x1, .ref x30, .ref x59, .ref x88, .ref x117, .ref x126, .ref x127, .ref x129, .ref x132, .long 0]), (x1, oC 2 [.ref x2, .ref x4, .ref x6, .ref x8, .ref x10, .ref x12, .ref x14, .ref x16, .ref x18, .ref x20, .ref x27, .int 0]), (x2, oC 3 [.ref x3, .int 1]), (x4, oC 3 [.ref x5, .int 0]), (m0, oC 13 [.ref m1, .ref m2, .int 1, .ref m3, .ref m4, .int 0, .int 0, .int 0, .int (-1), .int 0, .int 0, .int 0, .long 0, .ref m5, .ref m6, .int 0, .int 0]), (m1, aI Y 3640 (clB 0 (fun _ => 0)))] rfl ?_
      refine V_istore 1969 B (lv2 := [(6, .int 0), (5, .int 1), (4, .int 0), (3, .ref o0), (2, .ref m0), (1, .ref x0), (0, .ref b)]) dL_law_1969 (by decide) rfl ?_
      refine V_aload_n 1971 B dL_law_1971 4 rfl ?_
      refine V_cvi 1972 B (st := []) (As := []) (fun sz => mX12_thrown_2 l D Y (m0) (m1) (m2) (m3) (m4) (m5) (m6) sz) glV_RL_182 ⟨rfl, rfl⟩ ⟨(Nat.le_of_ble_eq_true rfl), (Nat.le_of_ble_eq_true rfl)⟩ ⟨(Nat.le_of_ble_eq_true rfl), (Nat.le_of_ble_eq_true rfl)⟩ [4] rfl 13 0 rfl rfl rfl rfl (Nat.le_of_ble_eq_true rfl) rfl (fun _ _ _ => rfl) dL_law_1972 (fun r27 u27 w27 => ?_)
      obtain rfl := w27
      refine V_ws [(x0, oC 12 [.ref x1, .ref x30, .ref x59, .ref x88, .ref x117, .ref x126, .ref x127, .ref x129, .ref x132, .long 0]), (x1, oC 2 [.ref x2, .ref x4, .ref x6, .ref x8, .ref x10, .ref x12, .ref x14, .ref x16, .ref x18, .ref x20, .ref x27, .int 0]), (x2, oC 3 [.ref x3, .int 1]), (x4, oC 3 [.ref x5, .int 0]), (m0, oC 13 [.ref m1, .ref m2, .int 1, .ref m3, .ref m4, .int 0, .int 0, .int 0, .int (-1), .int 0, .int 0, .int 0, .long 0, .ref m5, .ref m6, .int 0, .int 0]), (m1, aI Y 3640 (clB 0 (fun _ => 0)))] rfl ?_
      refine V_iload 1975 B dL_law_1975 1 rfl ?_
      refine V_icmp_eq_t 1977 B 1982 dL_law_1977 (by decide) (by decide +kernel) ?_
      refine V_iload 1982 B dL_law_1982 1 rfl ?_
      refine V_if_ne_t 1984 B 1999 dL_law_1984 (by decide) (by decide +kernel) ?_
      refine V_goto 1999 B 3332 dL_law_1999 (by decide) ?_
      refine V_iinc 3332 B (v := 6) (lv2 := [(4, .int 6), (6, .int 0), (5, .int 1), (3, .ref o0), (2, .ref m0), (1, .ref x0), (0, .ref b)]) dL_law_3332 2 rfl (by decide +kernel) (by decide) rfl ?_
      refine V_goto 3335 B 23 dL_law_3335 (by decide) ?_
      refine V_iload 23 B dL_law_23 0 rfl ?_
      refine V_aload_n 25 B dL_law_25 6 rfl ?_
      refine V_slen 26 B hX hbl hbA (v := 6) (by decide +kernel) dL_law_26 ?_
      refine V_bipush 27 B (v := 6) dL_law_27 (by decide +kernel) ?_
      refine V_isub 29 B (v := 0) dL_law_29 (by decide +kernel) ?_
      refine V_icmp_gt_t 30 B 3338 dL_law_30 (by decide) (by decide +kernel) ?_
      exact law_end B (Nat.le_of_ble_eq_true rfl) (Nat.le_of_ble_eq_true rfl) dL_law_3338 dL_law_3339
    ·
      refine V_ws [(x0, oC 12 [.ref x1, .ref x30, .ref x59, .ref x88, .ref x117, .ref x126, .ref x127, .ref x129, .ref x132, .long 0]), (x1, oC 2 [.ref x2, .ref x4, .ref x6, .ref x8, .ref x10, .ref x12, .ref x14, .ref x16, .ref x18, .ref x20, .ref x27, .int 0]), (x2, oC 3 [.ref x3, .int 1]), (x4, oC 3 [.ref x5, .int 0]), (m0, oC 13 [.ref m1, .ref m2, .int 1, .ref m3, .ref m4, .int 0, .int 0, .int 0, .int (-1), .int 0, .int 0, .int 0, .long 0, .ref m5, .ref m6, .int 0, .int 0]), (m1, aI Y 3640 (clB 0 (fun _ => 0)))] rfl ?_
      exact (q_abs (b_gt k26 (n := 0) (by decide +kernel)) (b_lt k5 (n := (-1)) (by decide +kernel)) (by decide +kernel)).elim
  ·
    refine V_ws [(x0, oC 12 [.ref x1, .ref x30, .ref x59, .ref x88, .ref x117, .ref x126, .ref x127, .ref x129, .ref x132, .long 0]), (x1, oC 2 [.ref x2, .ref x4, .ref x6, .ref x8, .ref x10, .ref x12, .ref x14, .ref x16, .ref x18, .ref x20, .ref x27, .int 0]), (x2, oC 3 [.ref x3, .int 1]), (x4, oC 3 [.ref x5, .int 0]), (m0, oC 13 [.ref m1, .ref m2, .int 0, .ref m3, .ref m4, .int 0, .int 0, .int 0, .int (-1), .int 0, .int 0, .int 0, .long 0, .ref m5, .ref m6, .int 0, .int 0]), (m1, aI Y 3640 (clB 0 (fun _ => 0)))] rfl ?_
    obtain rfl : p1 = 0 := k6
    refine V_istore 1951 B (lv2 := [(5, .int 1), (4, .int 0), (3, .ref o0), (2, .ref m0), (1, .ref x0), (0, .ref b)]) dL_law_1951 (by decide) rfl ?_
    refine V_aload_n 1953 B dL_law_1953 3 rfl ?_
    refine V_aload_n 1954 B dL_law_1954 5 rfl ?_
    refine V_iload 1955 B dL_law_1955 1 rfl ?_
    refine V_iconst 1957 B (v := 1) dL_law_1957 (by decide +kernel) ?_
    refine V_iadd 1958 B (v := 1) dL_law_1958 (by decide +kernel) ?_
    refine V_sld 1959 B hX hbl hbA (v := 0) (vpin _ _ (by decide +kernel)) dL_law_1959 e1 ?_
    refine V_aload_n 1960 B dL_law_1960 5 rfl ?_
    refine V_iload 1961 B dL_law_1961 1 rfl ?_
    refine V_iconst 1963 B (v := 2) dL_law_1963 (by decide +kernel) ?_
    refine V_iadd 1964 B (v := 2) dL_law_1964 (by decide +kernel) ?_
    refine V_sld 1965 B hX hbl hbA (v := p2) (vpin _ _ (by decide +kernel)) dL_law_1965 e2 ?_
    refine V_cvi 1966 B (st := []) (As := [.int 0, .int p2]) (fun sz => mX12_bestFor_2 l D Y (m0) (m1) (m2) (m3) (m4) (m5) (m6) (p2) sz) glV_RL_270 ⟨rfl, rfl⟩ ⟨(Nat.le_of_ble_eq_true rfl), (Nat.le_of_ble_eq_true rfl)⟩ ⟨(Nat.le_of_ble_eq_true rfl), (Nat.le_of_ble_eq_true rfl)⟩ [4, 0] rfl 13 0 rfl rfl rfl rfl (Nat.le_of_ble_eq_true rfl) rfl (fun _ _ _ => rfl) dL_law_1966 (fun r28 u28 w28 => ?_)
    rcases w28 with ⟨k29, rfl⟩ | ⟨k30, rfl⟩
    ·
      refine V_ws [(x0, oC 12 [.ref x1, .ref x30, .ref x59, .ref x88, .ref x117, .ref x126, .ref x127, .ref x129, .ref x132, .long 0]), (x1, oC 2 [.ref x2, .ref x4, .ref x6, .ref x8, .ref x10, .ref x12, .ref x14, .ref x16, .ref x18, .ref x20, .ref x27, .int 0]), (x2, oC 3 [.ref x3, .int 1]), (x4, oC 3 [.ref x5, .int 0]), (m0, oC 13 [.ref m1, .ref m2, .int 1, .ref m3, .ref m4, .int 0, .int 0, .int 0, .int (-1), .int 0, .int 0, .int 0, .long 0, .ref m5, .ref m6, .int 0, .int 0]), (m1, aI Y 3640 (clB 0 (fun _ => 0)))] rfl ?_
      exact (q_abs (b_nlt k7 (n := 0) (by decide +kernel)) (b_lt k29 (n := (-1)) (by decide +kernel)) (by decide +kernel)).elim
    ·
      refine V_ws [(x0, oC 12 [.ref x1, .ref x30, .ref x59, .ref x88, .ref x117, .ref x126, .ref x127, .ref x129, .ref x132, .long 0]), (x1, oC 2 [.ref x2, .ref x4, .ref x6, .ref x8, .ref x10, .ref x12, .ref x14, .ref x16, .ref x18, .ref x20, .ref x27, .int 0]), (x2, oC 3 [.ref x3, .int 1]), (x4, oC 3 [.ref x5, .int 0]), (m0, oC 13 [.ref m1, .ref m2, .int 1, .ref m3, .ref m4, .int 0, .int 0, .int 0, .int (-1), .int 0, .int 0, .int 0, .long 0, .ref m5, .ref m6, .int 0, .int 0]), (m1, aI Y 3640 (clB 0 (fun _ => 0)))] rfl ?_
      refine V_istore 1969 B (lv2 := [(6, .int 0), (5, .int 1), (4, .int 0), (3, .ref o0), (2, .ref m0), (1, .ref x0), (0, .ref b)]) dL_law_1969 (by decide) rfl ?_
      refine V_aload_n 1971 B dL_law_1971 4 rfl ?_
      refine V_cvi 1972 B (st := []) (As := []) (fun sz => mX12_thrown_2 l D Y (m0) (m1) (m2) (m3) (m4) (m5) (m6) sz) glV_RL_182 ⟨rfl, rfl⟩ ⟨(Nat.le_of_ble_eq_true rfl), (Nat.le_of_ble_eq_true rfl)⟩ ⟨(Nat.le_of_ble_eq_true rfl), (Nat.le_of_ble_eq_true rfl)⟩ [4] rfl 13 0 rfl rfl rfl rfl (Nat.le_of_ble_eq_true rfl) rfl (fun _ _ _ => rfl) dL_law_1972 (fun r31 u31 w31 => ?_)
      obtain rfl := w31
      refine V_ws [(x0, oC 12 [.ref x1, .ref x30, .ref x59, .ref x88, .ref x117, .ref x126, .ref x127, .ref x129, .ref x132, .long 0]), (x1, oC 2 [.ref x2, .ref x4, .ref x6, .ref x8, .ref x10, .ref x12, .ref x14, .ref x16, .ref x18, .ref x20, .ref x27, .int 0]), (x2, oC 3 [.ref x3, .int 1]), (x4, oC 3 [.ref x5, .int 0]), (m0, oC 13 [.ref m1, .ref m2, .int 1, .ref m3, .ref m4, .int 0, .int 0, .int 0, .int (-1), .int 0, .int 0, .int 0, .long 0, .ref m5, .ref m6, .int 0, .int 0]), (m1, aI Y 3640 (clB 0 (fun _ => 0)))] rfl ?_
      refine V_iload 1975 B dL_law_1975 1 rfl ?_
      refine V_icmp_eq_t 1977 B 1982 dL_law_1977 (by decide) (by decide +kernel) ?_
      refine V_iload 1982 B dL_law_1982 1 rfl ?_
      refine V_if_ne_t 1984 B 1999 dL_law_1984 (by decide) (by decide +kernel) ?_
      refine V_goto 1999 B 3332 dL_law_1999 (by decide) ?_
      refine V_iinc 3332 B (v := 6) (lv2 := [(4, .int 6), (6, .int 0), (5, .int 1), (3, .ref o0), (2, .ref m0), (1, .ref x0), (0, .ref b)]) dL_law_3332 2 rfl (by decide +kernel) (by decide) rfl ?_
      refine V_goto 3335 B 23 dL_law_3335 (by decide) ?_
      refine V_iload 23 B dL_law_23 0 rfl ?_
      refine V_aload_n 25 B dL_law_25 6 rfl ?_
      refine V_slen 26 B hX hbl hbA (v := 6) (by decide +kernel) dL_law_26 ?_
      refine V_bipush 27 B (v := 6) dL_law_27 (by decide +kernel) ?_
      refine V_isub 29 B (v := 0) dL_law_29 (by decide +kernel) ?_
      refine V_icmp_gt_t 30 B 3338 dL_law_30 (by decide) (by decide +kernel) ?_
      exact law_end B (Nat.le_of_ble_eq_true rfl) (Nat.le_of_ble_eq_true rfl) dL_law_3338 dL_law_3339
theorem dL_clashPairs_0 : decode cL_clashPairs 0 = .ok (.aload_n 3, 1) := by decide +kernel
theorem dL_clashPairs_1 : decode cL_clashPairs 1 = .ok (.iconst 0, 1) := by decide +kernel
theorem dL_clashPairs_2 : decode cL_clashPairs 2 = .ok (.aload_n 0, 1) := by decide +kernel
theorem dL_clashPairs_3 : decode cL_clashPairs 3 = .ok (.iload_n 1, 1) := by decide +kernel
theorem dL_clashPairs_4 : decode cL_clashPairs 4 = .ok (.iload_n 2, 1) := by decide +kernel
theorem dL_clashPairs_5 : decode cL_clashPairs 5 = .ok (.invokevirtual 87, 3) := by decide +kernel
theorem glV_RL_87 : GLV RL 87 yX11_clashPairs RX11 cX11_clashPairs 5 (some .int) 2 := ⟨⟨(mT6 141 rfl rfl), (mT6 142 rfl rfl), (mT6 143 rfl rfl), (mT1 1 rfl rfl), (mT6 144 rfl rfl)⟩, by decide +kernel⟩
theorem dL_clashPairs_13 : decode cL_clashPairs 13 = .ok (.astore 4, 2) := by decide +kernel
theorem dL_clashPairs_15 : decode cL_clashPairs 15 = .ok (.iconst 1, 1) := by decide +kernel
theorem dL_clashPairs_16 : decode cL_clashPairs 16 = .ok (.ireturn, 1) := by decide +kernel
theorem dL_clashPairs_17 : decode cL_clashPairs 17 = .ok (.astore 4, 2) := by decide +kernel
theorem dL_clashPairs_19 : decode cL_clashPairs 19 = .ok (.iconst 2, 1) := by decide +kernel
theorem dL_clashPairs_20 : decode cL_clashPairs 20 = .ok (.ireturn, 1) := by decide +kernel
set_option maxRecDepth 100000 in
set_option maxHeartbeats 4000000 in
theorem mL_clashPairs_1 (l : Launch) (hl9 : l.stackTraces = false) (D : va_G) (Y : Nat → ClassId) (h0 : Nat) (g0 : Nat) (h1 : Nat) (g1 : Nat) (g2 : Nat) (g3 : Nat) (g4 : Nat) (g5 : Nat) (g6 : Nat) (g7 : Nat) (g8 : Nat) (h2 : Nat) (g9 : Nat) (g10 : Nat) (g11 : Nat) (g12 : Nat) (g13 : Nat) (g14 : Nat) (g15 : Nat) (g16 : Nat) (g17 : Nat) (g18 : Nat) (g19 : Nat) (p0 : Int32) (p1 : Int32) (sz : Nat) : Met l yL_clashPairs (Cond.codeWith yL_clashPairs cL_clashPairs 5 (some .int) [(0, 10, 13, 18), (0, 10, 17, 13)] :: lw_good) (mkR 8 3 18 127) (PreX D Y [.ref h0, .int p0, .int p1, .ref g0] [(h0, oC 12 [.ref h1, .ref g1, .ref g2, .ref g3, .ref g4, .ref g5, .ref g6, .ref g7, .ref g8, .long 0]), (h1, oC 2 [.ref h2, .ref g9, .ref g10, .ref g11, .ref g12, .ref g13, .ref g14, .ref g15, .ref g16, .ref g17, .ref g18, .int 0]), (h2, oC 3 [.ref g19, .int 1])] sz) (QI D (fun (r : Int32) (u : Unit) => (p0 < 0 ∧ 1 = r) ∨ (¬ p0 < 0 ∧ 1 ≤ p0 ∧ 1 = r) ∨ (p0 = 0 ∧ p1 < 0 ∧ 1 = r) ∨ (p0 = 0 ∧ ¬ p1 < 0 ∧ 1 ≤ p1 ∧ 1 = r) ∨ (p0 = 0 ∧ p1 = 0 ∧ 2 = r)) (fun (_ : Unit) => [(h0, oC 12 [.ref h1, .ref g1, .ref g2, .ref g3, .ref g4, .ref g5, .ref g6, .ref g7, .ref g8, .long 0]), (h1, oC 2 [.ref h2, .ref g9, .ref g10, .ref g11, .ref g12, .ref g13, .ref g14, .ref g15, .ref g16, .ref g17, .ref g18, .int 0]), (h2, oC 3 [.ref g19, .int 1])]) (va_A [(h0, oC 12 [.ref h1, .ref g1, .ref g2, .ref g3, .ref g4, .ref g5, .ref g6, .ref g7, .ref g8, .long 0]), (h1, oC 2 [.ref h2, .ref g9, .ref g10, .ref g11, .ref g12, .ref g13, .ref g14, .ref g15, .ref g16, .ref g17, .ref g18, .int 0]), (h2, oC 3 [.ref g19, .int 1])] sz)) 3 18 (va_A [(h0, oC 12 [.ref h1, .ref g1, .ref g2, .ref g3, .ref g4, .ref g5, .ref g6, .ref g7, .ref g8, .long 0]), (h1, oC 2 [.ref h2, .ref g9, .ref g10, .ref g11, .ref g12, .ref g13, .ref g14, .ref g15, .ref g16, .ref g17, .ref g18, .int 0]), (h2, oC 3 [.ref g19, .int 1])] sz) :=
  metH_of (by decide +kernel) (Nat.le_of_ble_eq_true rfl) (fun p e s m args below meth c B EB htab hsz => by
    have B : VB p s m args meth c D Y (va_A [(h0, oC 12 [.ref h1, .ref g1, .ref g2, .ref g3, .ref g4, .ref g5, .ref g6, .ref g7, .ref g8, .long 0]), (h1, oC 2 [.ref h2, .ref g9, .ref g10, .ref g11, .ref g12, .ref g13, .ref g14, .ref g15, .ref g16, .ref g17, .ref g18, .int 0]), (h2, oC 3 [.ref g19, .int 1])] sz) cL_clashPairs 5 RL (some .int) := B
    refine V_aload_n 0 B dL_clashPairs_0 3 rfl ?_
    refine V_iconst 1 B (v := 0) dL_clashPairs_1 (by decide +kernel) ?_
    refine V_aload_n 2 B dL_clashPairs_2 0 rfl ?_
    refine V_iload_n 3 B dL_clashPairs_3 1 rfl ?_
    refine V_iload_n 4 B dL_clashPairs_4 2 rfl ?_
    refine V_xvi 5 B EB (st := [.int 0, .ref g0]) (As := [.int p0, .int p1]) (fun sz => mX11_clashPairs_1 l hl9 D Y (h0) (h1) (g1) (g2) (g3) (g4) (g5) (g6) (g7) (g8) (h2) (g9) (g10) (g11) (g12) (g13) (g14) (g15) (g16) (g17) (g18) (g19) (p0) (p1) sz) glV_RL_87 ⟨rfl, rfl⟩ ⟨(Nat.le_of_ble_eq_true rfl), (Nat.le_of_ble_eq_true rfl)⟩ ⟨(Nat.le_of_ble_eq_true rfl), (Nat.le_of_ble_eq_true rfl)⟩ [0, 0, 0] rfl 12 0 rfl rfl rfl rfl (Nat.le_of_ble_eq_true rfl) rfl (fun _ _ _ => rfl) (fun _ _ _ => rfl) dL_clashPairs_5 (fun E u0 w0 => ?_) (fun r0 u0 w0 => ?_)
    ·
      rcases w0 with ⟨rfl, k1⟩ | ⟨rfl, k2, k3⟩ | ⟨rfl, k4, k5⟩ | ⟨rfl, k6, k7, k8⟩ | ⟨rfl, k9, k10⟩
      ·
        refine VX_catch 5 B htab [] (0, 10, 13, 18) [(0, 10, 17, 13)] rfl "java/lang/IndexOutOfBoundsException" (fun z hz => nomatch hz) rfl (by decide) (mT5 103 rfl rfl) (EB.2.2.2.1 _ (List.mem_of_getElem? (i := 1) rfl)) 13 rfl (fun q9 => ?_)
        refine V_ws [(h0, oC 12 [.ref h1, .ref g1, .ref g2, .ref g3, .ref g4, .ref g5, .ref g6, .ref g7, .ref g8, .long 0]), (h1, oC 2 [.ref h2, .ref g9, .ref g10, .ref g11, .ref g12, .ref g13, .ref g14, .ref g15, .ref g16, .ref g17, .ref g18, .int 0]), (h2, oC 3 [.ref g19, .int 1])] rfl ?_
        refine V_astore 13 B (lv2 := [(4, .ref q9), (0, .ref h0), (1, .int p0), (2, .int p1), (3, .ref g0)]) dL_clashPairs_13 (by decide) rfl ?_
        refine V_iconst 15 B (v := 1) dL_clashPairs_15 (by decide +kernel) ?_
        exact V_iret 16 B dL_clashPairs_16 () (Or.inl ⟨k1, rfl⟩) rfl
      ·
        refine VX_catch 5 B htab [] (0, 10, 13, 18) [(0, 10, 17, 13)] rfl "java/lang/IndexOutOfBoundsException" (fun z hz => nomatch hz) rfl (by decide) (mT5 103 rfl rfl) (EB.2.2.2.1 _ (List.mem_of_getElem? (i := 1) rfl)) 13 rfl (fun q9 => ?_)
        refine V_ws [(h0, oC 12 [.ref h1, .ref g1, .ref g2, .ref g3, .ref g4, .ref g5, .ref g6, .ref g7, .ref g8, .long 0]), (h1, oC 2 [.ref h2, .ref g9, .ref g10, .ref g11, .ref g12, .ref g13, .ref g14, .ref g15, .ref g16, .ref g17, .ref g18, .int 0]), (h2, oC 3 [.ref g19, .int 1])] rfl ?_
        refine V_astore 13 B (lv2 := [(4, .ref q9), (0, .ref h0), (1, .int p0), (2, .int p1), (3, .ref g0)]) dL_clashPairs_13 (by decide) rfl ?_
        refine V_iconst 15 B (v := 1) dL_clashPairs_15 (by decide +kernel) ?_
        exact V_iret 16 B dL_clashPairs_16 () (Or.inr (Or.inl ⟨k2, k3, rfl⟩)) rfl
      ·
        obtain rfl : p0 = 0 := k4
        refine VX_catch 5 B htab [] (0, 10, 13, 18) [(0, 10, 17, 13)] rfl "java/lang/IndexOutOfBoundsException" (fun z hz => nomatch hz) rfl (by decide) (mT5 103 rfl rfl) (EB.2.2.2.1 _ (List.mem_of_getElem? (i := 1) rfl)) 13 rfl (fun q9 => ?_)
        refine V_ws [(h0, oC 12 [.ref h1, .ref g1, .ref g2, .ref g3, .ref g4, .ref g5, .ref g6, .ref g7, .ref g8, .long 0]), (h1, oC 2 [.ref h2, .ref g9, .ref g10, .ref g11, .ref g12, .ref g13, .ref g14, .ref g15, .ref g16, .ref g17, .ref g18, .int 0]), (h2, oC 3 [.ref g19, .int 1])] rfl ?_
        refine V_astore 13 B (lv2 := [(4, .ref q9), (0, .ref h0), (1, .int 0), (2, .int p1), (3, .ref g0)]) dL_clashPairs_13 (by decide) rfl ?_
        refine V_iconst 15 B (v := 1) dL_clashPairs_15 (by decide +kernel) ?_
        exact V_iret 16 B dL_clashPairs_16 () (Or.inr (Or.inr (Or.inl ⟨rfl, k5, rfl⟩))) rfl
      ·
        obtain rfl : p0 = 0 := k6
        refine VX_catch 5 B htab [] (0, 10, 13, 18) [(0, 10, 17, 13)] rfl "java/lang/IndexOutOfBoundsException" (fun z hz => nomatch hz) rfl (by decide) (mT5 103 rfl rfl) (EB.2.2.2.1 _ (List.mem_of_getElem? (i := 1) rfl)) 13 rfl (fun q9 => ?_)
        refine V_ws [(h0, oC 12 [.ref h1, .ref g1, .ref g2, .ref g3, .ref g4, .ref g5, .ref g6, .ref g7, .ref g8, .long 0]), (h1, oC 2 [.ref h2, .ref g9, .ref g10, .ref g11, .ref g12, .ref g13, .ref g14, .ref g15, .ref g16, .ref g17, .ref g18, .int 0]), (h2, oC 3 [.ref g19, .int 1])] rfl ?_
        refine V_astore 13 B (lv2 := [(4, .ref q9), (0, .ref h0), (1, .int 0), (2, .int p1), (3, .ref g0)]) dL_clashPairs_13 (by decide) rfl ?_
        refine V_iconst 15 B (v := 1) dL_clashPairs_15 (by decide +kernel) ?_
        exact V_iret 16 B dL_clashPairs_16 () (Or.inr (Or.inr (Or.inr (Or.inl ⟨rfl, k7, k8, rfl⟩)))) rfl
      ·
        obtain rfl : p0 = 0 := k9
        obtain rfl : p1 = 0 := k10
        refine VX_catch 5 B htab [(0, 10, 13, 18)] (0, 10, 17, 13) [] rfl "java/lang/IllegalArgumentException" (fun z hz => by
        obtain rfl := List.mem_singleton.mp hz
        exact Or.inr ⟨by decide, _, B.1.2.2.2.2 _ (mT5 103 rfl rfl), EB.2.2.2.2.1 _ (List.mem_of_getElem? (i := 1) rfl)⟩) rfl (by decide) (mT5 20 rfl rfl) (EB.2.2.2.1 _ (List.mem_of_getElem? (i := 0) rfl)) 17 rfl (fun q9 => ?_)
        refine V_ws [(h0, oC 12 [.ref h1, .ref g1, .ref g2, .ref g3, .ref g4, .ref g5, .ref g6, .ref g7, .ref g8, .long 0]), (h1, oC 2 [.ref h2, .ref g9, .ref g10, .ref g11, .ref g12, .ref g13, .ref g14, .ref g15, .ref g16, .ref g17, .ref g18, .int 0]), (h2, oC 3 [.ref g19, .int 1])] rfl ?_
        refine V_astore 17 B (lv2 := [(4, .ref q9), (0, .ref h0), (1, .int 0), (2, .int 0), (3, .ref g0)]) dL_clashPairs_17 (by decide) rfl ?_
        refine V_iconst 19 B (v := 2) dL_clashPairs_19 (by decide +kernel) ?_
        exact V_iret 20 B dL_clashPairs_20 () (Or.inr (Or.inr (Or.inr (Or.inr ⟨rfl, rfl, rfl⟩)))) rfl
    ·
      exact w0.elim)
set_option maxRecDepth 100000 in
set_option maxHeartbeats 4000000 in
theorem mX12_clashPairs_2 (l : Launch) (D : va_G) (Y : Nat → ClassId) (h0 : Nat) (h1 : Nat) (g0 : Nat) (g1 : Nat) (g2 : Nat) (g3 : Nat) (g4 : Nat) (p0 : Int32) (sz : Nat) : Met l yX12_clashPairs (WSm yX12_clashPairs cX12_clashPairs 5 (some .int)) (mkR 2 0 0 46) (PreC D Y [.ref h0, .int 0, .int p0] [(h0, oC 13 [.ref h1, .ref g0, .int 0, .ref g1, .ref g2, .int 0, .int 0, .int 0, .int (-1), .int 0, .int 0, .int 0, .long 0, .ref g3, .ref g4, .int 0, .int 0]), (h1, aI Y 3640 (clB 0 (fun _ => 0)))] sz) (QI D (fun (r : Int32) (u : Nat) => (u = 0 ∧ p0 = 0 ∧ 0 = r) ∨ (u = 1 ∧ p0 < 0 ∧ 0 = r) ∨ (u = 2 ∧ 0 < p0 ∧ 0 = r)) (fun (u : Nat) => match u with | 0 => [(h0, oC 13 [.ref h1, .ref g0, .int 2, .ref g1, .ref g2, .int 0, .int 0, .int 0, .int (-1), .int 0, .int 0, .int 0, .long 0, .ref g3, .ref g4, .int 0, .int 0]), (h1, aI Y 3640 (clB 0 (fun _ => 0)))] | 1 => [(h0, oC 13 [.ref h1, .ref g0, .int 1, .ref g1, .ref g2, .int 0, .int 0, .int 0, .int (-1), .int 0, .int 0, .int 0, .long 0, .ref g3, .ref g4, .int 0, .int 0]), (h1, aI Y 3640 (clB 0 (fun _ => 0)))] | _ => [(h0, oC 13 [.ref h1, .ref g0, .int 1, .ref g1, .ref g2, .int 0, .int 0, .int 0, .int (-1), .int 0, .int 0, .int 0, .long 0, .ref g3, .ref g4, .int 0, .int 0]), (h1, aI Y 3640 (clB 0 (fun _ => 0)))]) (va_A [(h0, oC 13 [.ref h1, .ref g0, .int 0, .ref g1, .ref g2, .int 0, .int 0, .int 0, .int (-1), .int 0, .int 0, .int 0, .long 0, .ref g3, .ref g4, .int 0, .int 0]), (h1, aI Y 3640 (clB 0 (fun _ => 0)))] sz)) 0 0 (va_A [(h0, oC 13 [.ref h1, .ref g0, .int 0, .ref g1, .ref g2, .int 0, .int 0, .int 0, .int (-1), .int 0, .int 0, .int 0, .long 0, .ref g3, .ref g4, .int 0, .int 0]), (h1, aI Y 3640 (clB 0 (fun _ => 0)))] sz) :=
  met_of (by decide +kernel) (Nat.le_of_ble_eq_true rfl) (fun p e s m args below meth c B hin hsz => by
    have B : VB p s m args meth c D Y (va_A [(h0, oC 13 [.ref h1, .ref g0, .int 0, .ref g1, .ref g2, .int 0, .int 0, .int 0, .int (-1), .int 0, .int 0, .int 0, .long 0, .ref g3, .ref g4, .int 0, .int 0]), (h1, aI Y 3640 (clB 0 (fun _ => 0)))] sz) cX12_clashPairs 5 RX12 (some .int) := B
    refine V_aload_n 0 B dX12_clashPairs_0 0 rfl ?_
    refine V_iconst 1 B (v := 0) dX12_clashPairs_1 (by decide +kernel) ?_
    refine V_put 2 B gp_RX12_38 0 rfl (Nat.le_of_ble_eq_true rfl) rfl rfl dX12_clashPairs_2 [(h0, oC 13 [.ref h1, .ref g0, .int 0, .ref g1, .ref g2, .int 0, .int 0, .int 0, .int (-1), .int 0, .int 0, .int 0, .long 0, .ref g3, .ref g4, .int 0, .int 0]), (h1, aI Y 3640 (clB 0 (fun _ => 0)))] rfl ?_
    refine V_aload_n 5 B dX12_clashPairs_5 0 rfl ?_
    refine V_aload_n 6 B dX12_clashPairs_6 0 rfl ?_
    refine V_iload_n 7 B dX12_clashPairs_7 1 rfl ?_
    refine V_cvi 8 B (st := [.ref h0]) (As := [.int 0]) (fun sz => mX12_isMode_2 l D Y (h0) (h1) (g0) (g1) (g2) (g3) (g4) sz) glV_RX12_91 ⟨rfl, rfl⟩ ⟨(Nat.le_of_ble_eq_true rfl), (Nat.le_of_ble_eq_true rfl)⟩ ⟨(Nat.le_of_ble_eq_true rfl), (Nat.le_of_ble_eq_true rfl)⟩ [0, 0] rfl 13 0 rfl rfl rfl rfl (Nat.le_of_ble_eq_true rfl) rfl (fun _ _ _ => rfl) dX12_clashPairs_8 (fun r0 u0 w0 => ?_)
    obtain rfl := w0
    refine V_ws [(h0, oC 13 [.ref h1, .ref g0, .int 0, .ref g1, .ref g2, .int 0, .int 0, .int 0, .int (-1), .int 0, .int 0, .int 0, .long 0, .ref g3, .ref g4, .int 0, .int 0]), (h1, aI Y 3640 (clB 0 (fun _ => 0)))] rfl ?_
    refine V_if_eq_f 11 B 22 dX12_clashPairs_11 (by decide) (by decide +kernel) ?_
    refine V_aload_n 14 B dX12_clashPairs_14 0 rfl ?_
    refine V_iload_n 15 B dX12_clashPairs_15 2 rfl ?_
    refine V_cvi 16 B (st := [.ref h0]) (As := [.int p0]) (fun sz => mX12_isMode_1 l D Y (h0) (h1) (g0) (g1) (g2) (g3) (g4) (p0) sz) glV_RX12_91 ⟨rfl, rfl⟩ ⟨(Nat.le_of_ble_eq_true rfl), (Nat.le_of_ble_eq_true rfl)⟩ ⟨(Nat.le_of_ble_eq_true rfl), (Nat.le_of_ble_eq_true rfl)⟩ [0, 0] rfl 13 0 rfl rfl rfl rfl (Nat.le_of_ble_eq_true rfl) rfl (fun _ _ _ => rfl) dX12_clashPairs_16 (fun r1 u1 w1 => ?_)
    rcases w1 with ⟨k2, rfl⟩ | ⟨k3, rfl⟩ | ⟨k4, rfl⟩
    ·
      refine V_ws [(h0, oC 13 [.ref h1, .ref g0, .int 0, .ref g1, .ref g2, .int 0, .int 0, .int 0, .int (-1), .int 0, .int 0, .int 0, .long 0, .ref g3, .ref g4, .int 0, .int 0]), (h1, aI Y 3640 (clB 0 (fun _ => 0)))] rfl ?_
      obtain rfl : p0 = 0 := k2
      refine V_if_ne_t 19 B 26 dX12_clashPairs_19 (by decide) (by decide +kernel) ?_
      refine V_iconst 26 B (v := 0) dX12_clashPairs_26 (by decide +kernel) ?_
      refine V_iconst 27 B (v := 1) dX12_clashPairs_27 (by decide +kernel) ?_
      refine V_cvi 28 B (st := []) (As := [.int 0, .int 1]) (fun sz => mX12_throwsIf_2 l D Y (h0) (h1) (g0) (g1) (g2) (g3) (g4) sz) glV_RX12_69 ⟨rfl, rfl⟩ ⟨(Nat.le_of_ble_eq_true rfl), (Nat.le_of_ble_eq_true rfl)⟩ ⟨(Nat.le_of_ble_eq_true rfl), (Nat.le_of_ble_eq_true rfl)⟩ [0] rfl 13 0 rfl rfl rfl rfl (Nat.le_of_ble_eq_true rfl) rfl (fun _ _ _ => rfl) dX12_clashPairs_28 (fun r5 u5 w5 => ?_)
      obtain rfl := w5
      refine V_ws [(h0, oC 13 [.ref h1, .ref g0, .int 0, .ref g1, .ref g2, .int 0, .int 0, .int 0, .int (-1), .int 0, .int 0, .int 0, .long 0, .ref g3, .ref g4, .int 0, .int 0]), (h1, aI Y 3640 (clB 0 (fun _ => 0)))] rfl ?_
      refine V_if_ne_f 31 B 52 dX12_clashPairs_31 (by decide) (by decide +kernel) ?_
      refine V_aload_n 34 B dX12_clashPairs_34 0 rfl ?_
      refine V_iload_n 35 B dX12_clashPairs_35 1 rfl ?_
      refine V_iload_n 36 B dX12_clashPairs_36 2 rfl ?_
      refine V_icmp_ne_f 37 B 44 dX12_clashPairs_37 (by decide) (by decide +kernel) ?_
      refine V_iconst 40 B (v := 1) dX12_clashPairs_40 (by decide +kernel) ?_
      refine V_goto 41 B 45 dX12_clashPairs_41 (by decide) ?_
      refine V_iconst 45 B (v := 2) dX12_clashPairs_45 (by decide +kernel) ?_
      refine V_cvi 46 B (st := []) (As := [.int 1, .int 2]) (fun sz => mX12_throwsIf_4 l D Y (h0) (h1) (g0) (g1) (g2) (g3) (g4) sz) glV_RX12_69 ⟨rfl, rfl⟩ ⟨(Nat.le_of_ble_eq_true rfl), (Nat.le_of_ble_eq_true rfl)⟩ ⟨(Nat.le_of_ble_eq_true rfl), (Nat.le_of_ble_eq_true rfl)⟩ [0] rfl 13 0 rfl rfl rfl rfl (Nat.le_of_ble_eq_true rfl) rfl (fun _ _ _ => rfl) dX12_clashPairs_46 (fun r6 u6 w6 => ?_)
      obtain rfl := w6
      refine V_ws [(h0, oC 13 [.ref h1, .ref g0, .int 2, .ref g1, .ref g2, .int 0, .int 0, .int 0, .int (-1), .int 0, .int 0, .int 0, .long 0, .ref g3, .ref g4, .int 0, .int 0]), (h1, aI Y 3640 (clB 0 (fun _ => 0)))] rfl ?_
      refine V_if_eq_f 49 B 54 dX12_clashPairs_49 (by decide) (by decide +kernel) ?_
      refine V_iconst 52 B (v := 0) dX12_clashPairs_52 (by decide +kernel) ?_
      exact V_iret 53 B dX12_clashPairs_53 0 (Or.inl ⟨rfl, rfl, rfl⟩) rfl
    ·
      refine V_ws [(h0, oC 13 [.ref h1, .ref g0, .int 0, .ref g1, .ref g2, .int 0, .int 0, .int 0, .int (-1), .int 0, .int 0, .int 0, .long 0, .ref g3, .ref g4, .int 0, .int 0]), (h1, aI Y 3640 (clB 0 (fun _ => 0)))] rfl ?_
      refine V_if_ne_f 19 B 26 dX12_clashPairs_19 (by decide) (by decide +kernel) ?_
      refine V_iconst 22 B (v := 1) dX12_clashPairs_22 (by decide +kernel) ?_
      refine V_goto 23 B 27 dX12_clashPairs_23 (by decide) ?_
      refine V_iconst 27 B (v := 1) dX12_clashPairs_27 (by decide +kernel) ?_
      refine V_cvi 28 B (st := []) (As := [.int 1, .int 1]) (fun sz => mX12_throwsIf_1 l D Y (h0) (h1) (g0) (g1) (g2) (g3) (g4) sz) glV_RX12_69 ⟨rfl, rfl⟩ ⟨(Nat.le_of_ble_eq_true rfl), (Nat.le_of_ble_eq_true rfl)⟩ ⟨(Nat.le_of_ble_eq_true rfl), (Nat.le_of_ble_eq_true rfl)⟩ [0] rfl 13 0 rfl rfl rfl rfl (Nat.le_of_ble_eq_true rfl) rfl (fun _ _ _ => rfl) dX12_clashPairs_28 (fun r7 u7 w7 => ?_)
      obtain rfl := w7
      refine V_ws [(h0, oC 13 [.ref h1, .ref g0, .int 1, .ref g1, .ref g2, .int 0, .int 0, .int 0, .int (-1), .int 0, .int 0, .int 0, .long 0, .ref g3, .ref g4, .int 0, .int 0]), (h1, aI Y 3640 (clB 0 (fun _ => 0)))] rfl ?_
      refine V_if_ne_t 31 B 52 dX12_clashPairs_31 (by decide) (by decide +kernel) ?_
      refine V_iconst 52 B (v := 0) dX12_clashPairs_52 (by decide +kernel) ?_
      exact V_iret 53 B dX12_clashPairs_53 1 (Or.inr (Or.inl ⟨rfl, k3, rfl⟩)) rfl
    ·
      refine V_ws [(h0, oC 13 [.ref h1, .ref g0, .int 0, .ref g1, .ref g2, .int 0, .int 0, .int 0, .int (-1), .int 0, .int 0, .int 0, .long 0, .ref g3, .ref g4, .int 0, .int 0]), (h1, aI Y 3640 (clB 0 (fun _ => 0)))] rfl ?_
      refine V_if_ne_f 19 B 26 dX12_clashPairs_19 (by decide) (by decide +kernel) ?_
      refine V_iconst 22 B (v := 1) dX12_clashPairs_22 (by decide +kernel) ?_
      refine V_goto 23 B 27 dX12_clashPairs_23 (by decide) ?_
      refine V_iconst 27 B (v := 1) dX12_clashPairs_27 (by decide +kernel) ?_
      refine V_cvi 28 B (st := []) (As := [.int 1, .int 1]) (fun sz => mX12_throwsIf_1 l D Y (h0) (h1) (g0) (g1) (g2) (g3) (g4) sz) glV_RX12_69 ⟨rfl, rfl⟩ ⟨(Nat.le_of_ble_eq_true rfl), (Nat.le_of_ble_eq_true rfl)⟩ ⟨(Nat.le_of_ble_eq_true rfl), (Nat.le_of_ble_eq_true rfl)⟩ [0] rfl 13 0 rfl rfl rfl rfl (Nat.le_of_ble_eq_true rfl) rfl (fun _ _ _ => rfl) dX12_clashPairs_28 (fun r8 u8 w8 => ?_)
      obtain rfl := w8
      refine V_ws [(h0, oC 13 [.ref h1, .ref g0, .int 1, .ref g1, .ref g2, .int 0, .int 0, .int 0, .int (-1), .int 0, .int 0, .int 0, .long 0, .ref g3, .ref g4, .int 0, .int 0]), (h1, aI Y 3640 (clB 0 (fun _ => 0)))] rfl ?_
      refine V_if_ne_t 31 B 52 dX12_clashPairs_31 (by decide) (by decide +kernel) ?_
      refine V_iconst 52 B (v := 0) dX12_clashPairs_52 (by decide +kernel) ?_
      exact V_iret 53 B dX12_clashPairs_53 2 (Or.inr (Or.inr ⟨rfl, k4, rfl⟩)) rfl)
set_option maxRecDepth 100000 in
set_option maxHeartbeats 4000000 in
theorem mX12_clashPairs_3 (l : Launch) (D : va_G) (Y : Nat → ClassId) (h0 : Nat) (h1 : Nat) (g0 : Nat) (g1 : Nat) (g2 : Nat) (g3 : Nat) (g4 : Nat) (sz : Nat) : Met l yX12_clashPairs (WSm yX12_clashPairs cX12_clashPairs 5 (some .int)) (mkR 2 0 0 46) (PreC D Y [.ref h0, .int 0, .int 0] [(h0, oC 13 [.ref h1, .ref g0, .int 0, .ref g1, .ref g2, .int 0, .int 0, .int 0, .int (-1), .int 0, .int 0, .int 0, .long 0, .ref g3, .ref g4, .int 0, .int 0]), (h1, aI Y 3640 (clB 0 (fun _ => 0)))] sz) (QI D (fun (r : Int32) (u : Unit) => 0 = r) (fun (_ : Unit) => [(h0, oC 13 [.ref h1, .ref g0, .int 2, .ref g1, .ref g2, .int 0, .int 0, .int 0, .int (-1), .int 0, .int 0, .int 0, .long 0, .ref g3, .ref g4, .int 0, .int 0]), (h1, aI Y 3640 (clB 0 (fun _ => 0)))]) (va_A [(h0, oC 13 [.ref h1, .ref g0, .int 0, .ref g1, .ref g2, .int 0, .int 0, .int 0, .int (-1), .int 0, .int 0, .int 0, .long 0, .ref g3, .ref g4, .int 0, .int 0]), (h1, aI Y 3640 (clB 0 (fun _ => 0)))] sz)) 0 0 (va_A [(h0, oC 13 [.ref h1, .ref g0, .int 0, .ref g1, .ref g2, .int 0, .int 0, .int 0, .int (-1), .int 0, .int 0, .int 0, .long 0, .ref g3, .ref g4, .int 0, .int 0]), (h1, aI Y 3640 (clB 0 (fun _ => 0)))] sz) :=
  met_of (by decide +kernel) (Nat.le_of_ble_eq_true rfl) (fun p e s m args below meth c B hin hsz => by
    have B : VB p s m args meth c D Y (va_A [(h0, oC 13 [.ref h1, .ref g0, .int 0, .ref g1, .ref g2, .int 0, .int 0, .int 0, .int (-1), .int 0, .int 0, .int 0, .long 0, .ref g3, .ref g4, .int 0, .int 0]), (h1, aI Y 3640 (clB 0 (fun _ => 0)))] sz) cX12_clashPairs 5 RX12 (some .int) := B
    refine V_aload_n 0 B dX12_clashPairs_0 0 rfl ?_
    refine V_iconst 1 B (v := 0) dX12_clashPairs_1 (by decide +kernel) ?_
    refine V_put 2 B gp_RX12_38 0 rfl (Nat.le_of_ble_eq_true rfl) rfl rfl dX12_clashPairs_2 [(h0, oC 13 [.ref h1, .ref g0, .int 0, .ref g1, .ref g2, .int 0, .int 0, .int 0, .int (-1), .int 0, .int 0, .int 0, .long 0, .ref g3, .ref g4, .int 0, .int 0]), (h1, aI Y 3640 (clB 0 (fun _ => 0)))] rfl ?_
    refine V_aload_n 5 B dX12_clashPairs_5 0 rfl ?_
    refine V_aload_n 6 B dX12_clashPairs_6 0 rfl ?_
    refine V_iload_n 7 B dX12_clashPairs_7 1 rfl ?_
    refine V_cvi 8 B (st := [.ref h0]) (As := [.int 0]) (fun sz => mX12_isMode_2 l D Y (h0) (h1) (g0) (g1) (g2) (g3) (g4) sz) glV_RX12_91 ⟨rfl, rfl⟩ ⟨(Nat.le_of_ble_eq_true rfl), (Nat.le_of_ble_eq_true rfl)⟩ ⟨(Nat.le_of_ble_eq_true rfl), (Nat.le_of_ble_eq_true rfl)⟩ [0, 0] rfl 13 0 rfl rfl rfl rfl (Nat.le_of_ble_eq_true rfl) rfl (fun _ _ _ => rfl) dX12_clashPairs_8 (fun r0 u0 w0 => ?_)
    obtain rfl := w0
    refine V_ws [(h0, oC 13 [.ref h1, .ref g0, .int 0, .ref g1, .ref g2, .int 0, .int 0, .int 0, .int (-1), .int 0, .int 0, .int 0, .long 0, .ref g3, .ref g4, .int 0, .int 0]), (h1, aI Y 3640 (clB 0 (fun _ => 0)))] rfl ?_
    refine V_if_eq_f 11 B 22 dX12_clashPairs_11 (by decide) (by decide +kernel) ?_
    refine V_aload_n 14 B dX12_clashPairs_14 0 rfl ?_
    refine V_iload_n 15 B dX12_clashPairs_15 2 rfl ?_
    refine V_cvi 16 B (st := [.ref h0]) (As := [.int 0]) (fun sz => mX12_isMode_2 l D Y (h0) (h1) (g0) (g1) (g2) (g3) (g4) sz) glV_RX12_91 ⟨rfl, rfl⟩ ⟨(Nat.le_of_ble_eq_true rfl), (Nat.le_of_ble_eq_true rfl)⟩ ⟨(Nat.le_of_ble_eq_true rfl), (Nat.le_of_ble_eq_true rfl)⟩ [0, 0] rfl 13 0 rfl rfl rfl rfl (Nat.le_of_ble_eq_true rfl) rfl (fun _ _ _ => rfl) dX12_clashPairs_16 (fun r1 u1 w1 => ?_)
    obtain rfl := w1
    refine V_ws [(h0, oC 13 [.ref h1, .ref g0, .int 0, .ref g1, .ref g2, .int 0, .int 0, .int 0, .int (-1), .int 0, .int 0, .int 0, .long 0, .ref g3, .ref g4, .int 0, .int 0]), (h1, aI Y 3640 (clB 0 (fun _ => 0)))] rfl ?_
    refine V_if_ne_t 19 B 26 dX12_clashPairs_19 (by decide) (by decide +kernel) ?_
    refine V_iconst 26 B (v := 0) dX12_clashPairs_26 (by decide +kernel) ?_
    refine V_iconst 27 B (v := 1) dX12_clashPairs_27 (by decide +kernel) ?_
    refine V_cvi 28 B (st := []) (As := [.int 0, .int 1]) (fun sz => mX12_throwsIf_2 l D Y (h0) (h1) (g0) (g1) (g2) (g3) (g4) sz) glV_RX12_69 ⟨rfl, rfl⟩ ⟨(Nat.le_of_ble_eq_true rfl), (Nat.le_of_ble_eq_true rfl)⟩ ⟨(Nat.le_of_ble_eq_true rfl), (Nat.le_of_ble_eq_true rfl)⟩ [0] rfl 13 0 rfl rfl rfl rfl (Nat.le_of_ble_eq_true rfl) rfl (fun _ _ _ => rfl) dX12_clashPairs_28 (fun r2 u2 w2 => ?_)
    obtain rfl := w2
    refine V_ws [(h0, oC 13 [.ref h1, .ref g0, .int 0, .ref g1, .ref g2, .int 0, .int 0, .int 0, .int (-1), .int 0, .int 0, .int 0, .long 0, .ref g3, .ref g4, .int 0, .int 0]), (h1, aI Y 3640 (clB 0 (fun _ => 0)))] rfl ?_
    refine V_if_ne_f 31 B 52 dX12_clashPairs_31 (by decide) (by decide +kernel) ?_
    refine V_aload_n 34 B dX12_clashPairs_34 0 rfl ?_
    refine V_iload_n 35 B dX12_clashPairs_35 1 rfl ?_
    refine V_iload_n 36 B dX12_clashPairs_36 2 rfl ?_
    refine V_icmp_ne_f 37 B 44 dX12_clashPairs_37 (by decide) (by decide +kernel) ?_
    refine V_iconst 40 B (v := 1) dX12_clashPairs_40 (by decide +kernel) ?_
    refine V_goto 41 B 45 dX12_clashPairs_41 (by decide) ?_
    refine V_iconst 45 B (v := 2) dX12_clashPairs_45 (by decide +kernel) ?_
    refine V_cvi 46 B (st := []) (As := [.int 1, .int 2]) (fun sz => mX12_throwsIf_4 l D Y (h0) (h1) (g0) (g1) (g2) (g3) (g4) sz) glV_RX12_69 ⟨rfl, rfl⟩ ⟨(Nat.le_of_ble_eq_true rfl), (Nat.le_of_ble_eq_true rfl)⟩ ⟨(Nat.le_of_ble_eq_true rfl), (Nat.le_of_ble_eq_true rfl)⟩ [0] rfl 13 0 rfl rfl rfl rfl (Nat.le_of_ble_eq_true rfl) rfl (fun _ _ _ => rfl) dX12_clashPairs_46 (fun r3 u3 w3 => ?_)
    obtain rfl := w3
    refine V_ws [(h0, oC 13 [.ref h1, .ref g0, .int 2, .ref g1, .ref g2, .int 0, .int 0, .int 0, .int (-1), .int 0, .int 0, .int 0, .long 0, .ref g3, .ref g4, .int 0, .int 0]), (h1, aI Y 3640 (clB 0 (fun _ => 0)))] rfl ?_
    refine V_if_eq_f 49 B 54 dX12_clashPairs_49 (by decide) (by decide +kernel) ?_
    refine V_iconst 52 B (v := 0) dX12_clashPairs_52 (by decide +kernel) ?_
    exact V_iret 53 B dX12_clashPairs_53 () rfl rfl)
theorem dL_law_2002 : decode cL_law 2002 = .ok (.aload_n 1, 1) := by decide +kernel
theorem dL_law_2003 : decode cL_law 2003 = .ok (.aload_n 0, 1) := by decide +kernel
theorem dL_law_2004 : decode cL_law 2004 = .ok (.iload 4, 2) := by decide +kernel
theorem dL_law_2006 : decode cL_law 2006 = .ok (.iconst 1, 1) := by decide +kernel
theorem dL_law_2007 : decode cL_law 2007 = .ok (.iadd, 1) := by decide +kernel
theorem dL_law_2008 : decode cL_law 2008 = .ok (.iaload, 1) := by decide +kernel
theorem dL_law_2009 : decode cL_law 2009 = .ok (.aload_n 0, 1) := by decide +kernel
theorem dL_law_2010 : decode cL_law 2010 = .ok (.iload 4, 2) := by decide +kernel
theorem dL_law_2012 : decode cL_law 2012 = .ok (.iconst 2, 1) := by decide +kernel
theorem dL_law_2013 : decode cL_law 2013 = .ok (.iadd, 1) := by decide +kernel
theorem dL_law_2014 : decode cL_law 2014 = .ok (.iaload, 1) := by decide +kernel
theorem dL_law_2015 : decode cL_law 2015 = .ok (.aload_n 3, 1) := by decide +kernel
theorem dL_law_2016 : decode cL_law 2016 = .ok (.invokestatic 271, 3) := by decide +kernel
theorem glH_RL_271 : GLH RL 271 yL_clashPairs cL_clashPairs 5 (some .int) [(0, 10, 13, 18), (0, 10, 17, 13)] 4 := ⟨⟨(mT6 138 rfl rfl), (mT6 139 rfl rfl), (mT1 0 rfl rfl), (mT6 140 rfl rfl)⟩, by decide +kernel⟩
theorem dL_law_2019 : decode cL_law 2019 = .ok (.istore 5, 2) := by decide +kernel
theorem dL_law_2021 : decode cL_law 2021 = .ok (.aload_n 2, 1) := by decide +kernel
theorem dL_law_2022 : decode cL_law 2022 = .ok (.aload_n 0, 1) := by decide +kernel
theorem dL_law_2023 : decode cL_law 2023 = .ok (.iload 4, 2) := by decide +kernel
theorem dL_law_2025 : decode cL_law 2025 = .ok (.iconst 1, 1) := by decide +kernel
theorem dL_law_2026 : decode cL_law 2026 = .ok (.iadd, 1) := by decide +kernel
theorem dL_law_2027 : decode cL_law 2027 = .ok (.iaload, 1) := by decide +kernel
theorem dL_law_2028 : decode cL_law 2028 = .ok (.aload_n 0, 1) := by decide +kernel
theorem dL_law_2029 : decode cL_law 2029 = .ok (.iload 4, 2) := by decide +kernel
theorem dL_law_2031 : decode cL_law 2031 = .ok (.iconst 2, 1) := by decide +kernel
theorem dL_law_2032 : decode cL_law 2032 = .ok (.iadd, 1) := by decide +kernel
theorem dL_law_2033 : decode cL_law 2033 = .ok (.iaload, 1) := by decide +kernel
theorem dL_law_2034 : decode cL_law 2034 = .ok (.invokevirtual 273, 3) := by decide +kernel
theorem glV_RL_273 : GLV RL 273 yX12_clashPairs RX12 cX12_clashPairs 5 (some .int) 2 := ⟨⟨(mT9 14 rfl rfl), (mT9 15 rfl rfl), (mT9 16 rfl rfl), (mT1 13 rfl rfl), (mT9 17 rfl rfl)⟩, by decide +kernel⟩
theorem dL_law_2037 : decode cL_law 2037 = .ok (.istore 6, 2) := by decide +kernel
theorem dL_law_2039 : decode cL_law 2039 = .ok (.aload_n 2, 1) := by decide +kernel
theorem dL_law_2040 : decode cL_law 2040 = .ok (.invokevirtual 182, 3) := by decide +kernel
theorem dL_law_2043 : decode cL_law 2043 = .ok (.iload 5, 2) := by decide +kernel
theorem dL_law_2045 : decode cL_law 2045 = .ok (.if_icmp .eq 5, 3) := by decide +kernel
theorem dL_law_2050 : decode cL_law 2050 = .ok (.iload 5, 2) := by decide +kernel
theorem dL_law_2052 : decode cL_law 2052 = .ok (.ifCond .ne 15, 3) := by decide +kernel
theorem dL_law_2067 : decode cL_law 2067 = .ok (.goto 1265, 3) := by decide +kernel
set_option maxRecDepth 100000 in
set_option maxHeartbeats 4000000 in
theorem law_c34 {p : Program} {l : Launch} {e : Env} {s : State} {m : MethodId} {below : List Frame} {meth : Method} {c : Code} {b : Nat} {xs : Nat → Int32} {D : va_G} {Y : Nat → ClassId} (B : VB p s m #[Value.ref b] meth c D Y (fun q => s.heap.size ≤ q) cL_law 8 RL ret) (EB : EX (fun q => s.heap.size ≤ q) s s.heap) (hl9 : l.stackTraces = false) (hX : va_X b 6 xs s s.heap) (hbl : b < s.heap.size) (hbA : ¬ (fun q => s.heap.size ≤ q) b) (x0 x1 x30 x59 x88 x117 x126 x127 x129 x132 x2 x4 x6 x8 x10 x12 x14 x16 x18 x20 x27 x3 m0 m1 m2 m3 m4 m5 m6 o0 : Nat) (p1 p2 : Int32) (e1 : xs 1 = p1) (e2 : xs 2 = p2) : V p l e room_1 s m #[Value.ref b] below meth c D (fun q => s.heap.size ≤ q) 8 149 10574 (lw_Z below #[Value.ref b] s) 2002 [(4, .int 0), (3, .ref o0), (2, .ref m0), (1, .ref x0), (0, .ref b)] [] [(x0, oC 12 [.ref x1, .ref x30, .ref x59, .ref x88, .ref x117, .ref x126, .ref x127, .ref x129, .ref x132, .long 0]), (x1, oC 2 [.ref x2, .ref x4, .ref x6, .ref x8, .ref x10, .ref x12, .ref x14, .ref x16, .ref x18, .ref x20, .ref x27, .int 0]), (x2, oC 3 [.ref x3, .int 1]), (m0, oC 13 [.ref m1, .ref m2, .int 0, .ref m3, .ref m4, .int 0, .int 0, .int 0, .int (-1), .int 0, .int 0, .int 0, .long 0, .ref m5, .ref m6, .int 0, .int 0]), (m1, aI Y 3640 (clB 0 (fun _ => 0)))] := by
  refine V_aload_n 2002 B dL_law_2002 3 rfl ?_
  refine V_aload_n 2003 B dL_law_2003 4 rfl ?_
  refine V_iload 2004 B dL_law_2004 0 rfl ?_
  refine V_iconst 2006 B (v := 1) dL_law_2006 (by decide +kernel) ?_
  refine V_iadd 2007 B (v := 1) dL_law_2007 (by decide +kernel) ?_
  refine V_sld 2008 B hX hbl hbA (v := p1) (vpin _ _ (by decide +kernel)) dL_law_2008 e1 ?_
  refine V_aload_n 2009 B dL_law_2009 4 rfl ?_
  refine V_iload 2010 B dL_law_2010 0 rfl ?_
  refine V_iconst 2012 B (v := 2) dL_law_2012 (by decide +kernel) ?_
  refine V_iadd 2013 B (v := 2) dL_law_2013 (by decide +kernel) ?_
  refine V_sld 2014 B hX hbl hbA (v := p2) (vpin _ _ (by decide +kernel)) dL_law_2014 e2 ?_
  refine V_aload_n 2015 B dL_law_2015 1 rfl ?_
  refine V_hsi 2016 B EB (st := []) (As := [.ref x0, .int p1, .int p2, .ref o0]) (fun sz => mL_clashPairs_1 l hl9 D Y (x0) (o0) (x1) (x30) (x59) (x88) (x117) (x126) (x127) (x129) (x132) (x2) (x4) (x6) (x8) (x10) (x12) (x14) (x16) (x18) (x20) (x27) (x3) (p1) (p2) sz) glH_RL_271 ⟨rfl, rfl⟩ ⟨(Nat.le_of_ble_eq_true rfl), (Nat.le_of_ble_eq_true rfl)⟩ ⟨(Nat.le_of_ble_eq_true rfl), (Nat.le_of_ble_eq_true rfl)⟩ [0, 0, 0] rfl rfl (Nat.le_of_ble_eq_true rfl) rfl (fun _ _ _ => rfl) dL_law_2016 (fun r0 u0 w0 => ?_)
  rcases w0 with ⟨k1, rfl⟩ | ⟨k2, k3, rfl⟩ | ⟨k4, k5, rfl⟩ | ⟨k6, k7, k8, rfl⟩ | ⟨k9, k10, rfl⟩
  ·
    refine V_ws [(x0, oC 12 [.ref x1, .ref x30, .ref x59, .ref x88, .ref x117, .ref x126, .ref x127, .ref x129, .ref x132, .long 0]), (x1, oC 2 [.ref x2, .ref x4, .ref x6, .ref x8, .ref x10, .ref x12, .ref x14, .ref x16, .ref x18, .ref x20, .ref x27, .int 0]), (x2, oC 3 [.ref x3, .int 1]), (m0, oC 13 [.ref m1, .ref m2, .int 0, .ref m3, .ref m4, .int 0, .int 0, .int 0, .int (-1), .int 0, .int 0, .int 0, .long 0, .ref m5, .ref m6, .int 0, .int 0]), (m1, aI Y 3640 (clB 0 (fun _ => 0)))] rfl ?_
    refine V_istore 2019 B (lv2 := [(5, .int 1), (4, .int 0), (3, .ref o0), (2, .ref m0), (1, .ref x0), (0, .ref b)]) dL_law_2019 (by decide) rfl ?_
    refine V_aload_n 2021 B dL_law_2021 3 rfl ?_
    refine V_aload_n 2022 B dL_law_2022 5 rfl ?_
    refine V_iload 2023 B dL_law_2023 1 rfl ?_
    refine V_iconst 2025 B (v := 1) dL_law_2025 (by decide +kernel) ?_
    refine V_iadd 2026 B (v := 1) dL_law_2026 (by decide +kernel) ?_
    refine V_sld 2027 B hX hbl hbA (v := p1) (vpin _ _ (by decide +kernel)) dL_law_2027 e1 ?_
    refine V_aload_n 2028 B dL_law_2028 5 rfl ?_
    refine V_iload 2029 B dL_law_2029 1 rfl ?_
    refine V_iconst 2031 B (v := 2) dL_law_2031 (by decide +kernel) ?_
    refine V_iadd 2032 B (v := 2) dL_law_2032 (by decide +kernel) ?_
    refine V_sld 2033 B hX hbl hbA (v := p2) (vpin _ _ (by decide +kernel)) dL_law_2033 e2 ?_
    refine V_cvi 2034 B (st := []) (As := [.int p1, .int p2]) (fun sz => mX12_clashPairs_1 l D Y (m0) (m1) (m2) (m3) (m4) (m5) (m6) (p1) (p2) sz) glV_RL_273 ⟨rfl, rfl⟩ ⟨(Nat.le_of_ble_eq_true rfl), (Nat.le_of_ble_eq_true rfl)⟩ ⟨(Nat.le_of_ble_eq_true rfl), (Nat.le_of_ble_eq_true rfl)⟩ [3, 0] rfl 13 0 rfl rfl rfl rfl (Nat.le_of_ble_eq_true rfl) rfl (fun _ u _ => by
        first | rfl | (split <;> rfl) | (dsimp only; split <;> rfl)) dL_law_2034 (fun r11 u11 w11 => ?_)
    rcases w11 with ⟨rfl, k12, k13, rfl⟩ | ⟨rfl, k14, k15, rfl⟩ | ⟨rfl, k16, k17, rfl⟩ | ⟨rfl, k18, rfl⟩ | ⟨rfl, k19, rfl⟩
    ·
      refine V_ws [(x0, oC 12 [.ref x1, .ref x30, .ref x59, .ref x88, .ref x117, .ref x126, .ref x127, .ref x129, .ref x132, .long 0]), (x1, oC 2 [.ref x2, .ref x4, .ref x6, .ref x8, .ref x10, .ref x12, .ref x14, .ref x16, .ref x18, .ref x20, .ref x27, .int 0]), (x2, oC 3 [.ref x3, .int 1]), (m0, oC 13 [.ref m1, .ref m2, .int 2, .ref m3, .ref m4, .int 0, .int 0, .int 0, .int (-1), .int 0, .int 0, .int 0, .long 0, .ref m5, .ref m6, .int 0, .int 0]), (m1, aI Y 3640 (clB 0 (fun _ => 0)))] rfl ?_
      exact absurd k12 (q_neh (b_lt k1 (n := (-1)) (by decide +kernel)) (by decide +kernel))
    ·
      refine V_ws [(x0, oC 12 [.ref x1, .ref x30, .ref x59, .ref x88, .ref x117, .ref x126, .ref x127, .ref x129, .ref x132, .long 0]), (x1, oC 2 [.ref x2, .ref x4, .ref x6, .ref x8, .ref x10, .ref x12, .ref x14, .ref x16, .ref x18, .ref x20, .ref x27, .int 0]), (x2, oC 3 [.ref x3, .int 1]), (m0, oC 13 [.ref m1, .ref m2, .int 1, .ref m3, .ref m4, .int 0, .int 0, .int 0, .int (-1), .int 0, .int 0, .int 0, .long 0, .ref m5, .ref m6, .int 0, .int 0]), (m1, aI Y 3640 (clB 0 (fun _ => 0)))] rfl ?_
      exact absurd k14 (q_neh (b_lt k1 (n := (-1)) (by decide +kernel)) (by decide +kernel))
    ·
      refine V_ws [(x0, oC 12 [.ref x1, .ref x30, .ref x59, .ref x88, .ref x117, .ref x126, .ref x127, .ref x129, .ref x132, .long 0]), (x1, oC 2 [.ref x2, .ref x4, .ref x6, .ref x8, .ref x10, .ref x12, .ref x14, .ref x16, .ref x18, .ref x20, .ref x27, .int 0]), (x2, oC 3 [.ref x3, .int 1]), (m0, oC 13 [.ref m1, .ref m2, .int 1, .ref m3, .ref m4, .int 0, .int 0, .int 0, .int (-1), .int 0, .int 0, .int 0, .long 0, .ref m5, .ref m6, .int 0, .int 0]), (m1, aI Y 3640 (clB 0 (fun _ => 0)))] rfl ?_
      exact absurd k16 (q_neh (b_lt k1 (n := (-1)) (by decide +kernel)) (by decide +kernel))
    ·
      refine V_ws [(x0, oC 12 [.ref x1, .ref x30, .ref x59, .ref x88, .ref x117, .ref x126, .ref x127, .ref x129, .ref x132, .long 0]), (x1, oC 2 [.ref x2, .ref x4, .ref x6, .ref x8, .ref x10, .ref x12, .ref x14, .ref x16, .ref x18, .ref x20, .ref x27, .int 0]), (x2, oC 3 [.ref x3, .int 1]), (m0, oC 13 [.ref m1, .ref m2, .int 1, .ref m3, .ref m4, .int 0, .int 0, .int 0, .int (-1), .int 0, .int 0, .int 0, .long 0, .ref m5, .ref m6, .int 0, .int 0]), (m1, aI Y 3640 (clB 0 (fun _ => 0)))] rfl ?_
      refine V_istore 2037 B (lv2 := [(6, .int 0), (5, .int 1), (4, .int 0), (3, .ref o0), (2, .ref m0), (1, .ref x0), (0, .ref b)]) dL_law_2037 (by decide) rfl ?_
      refine V_aload_n 2039 B dL_law_2039 4 rfl ?_
      refine V_cvi 2040 B (st := []) (As := []) (fun sz => mX12_thrown_2 l D Y (m0) (m1) (m2) (m3) (m4) (m5) (m6) sz) glV_RL_182 ⟨rfl, rfl⟩ ⟨(Nat.le_of_ble_eq_true rfl), (Nat.le_of_ble_eq_true rfl)⟩ ⟨(Nat.le_of_ble_eq_true rfl), (Nat.le_of_ble_eq_true rfl)⟩ [3] rfl 13 0 rfl rfl rfl rfl (Nat.le_of_ble_eq_true rfl) rfl (fun _ _ _ => rfl) dL_law_2040 (fun r20 u20 w20 => ?_)
      obtain rfl := w20
      refine V_ws [(x0, oC 12 [.ref x1, .ref x30, .ref x59, .ref x88, .ref x117, .ref x126, .ref x127, .ref x129, .ref x132, .long 0]), (x1, oC 2 [.ref x2, .ref x4, .ref x6, .ref x8, .ref x10, .ref x12, .ref x14, .ref x16, .ref x18, .ref x20, .ref x27, .int 0]), (x2, oC 3 [.ref x3, .int 1]), (m0, oC 13 [.ref m1, .ref m2, .int 1, .ref m3, .ref m4, .int 0, .int 0, .int 0, .int (-1), .int 0, .int 0, .int 0, .long 0, .ref m5, .ref m6, .int 0, .int 0]), (m1, aI Y 3640 (clB 0 (fun _ => 0)))] rfl ?_
      refine V_iload 2043 B dL_law_2043 1 rfl ?_
      refine V_icmp_eq_t 2045 B 2050 dL_law_2045 (by decide) (by decide +kernel) ?_
      refine V_iload 2050 B dL_law_2050 1 rfl ?_
      refine V_if_ne_t 2052 B 2067 dL_law_2052 (by decide) (by decide +kernel) ?_
      refine V_goto 2067 B 3332 dL_law_2067 (by decide) ?_
      refine V_iinc 3332 B (v := 6) (lv2 := [(4, .int 6), (6, .int 0), (5, .int 1), (3, .ref o0), (2, .ref m0), (1, .ref x0), (0, .ref b)]) dL_law_3332 2 rfl (by decide +kernel) (by decide) rfl ?_
      refine V_goto 3335 B 23 dL_law_3335 (by decide) ?_
      refine V_iload 23 B dL_law_23 0 rfl ?_
      refine V_aload_n 25 B dL_law_25 6 rfl ?_
      refine V_slen 26 B hX hbl hbA (v := 6) (by decide +kernel) dL_law_26 ?_
      refine V_bipush 27 B (v := 6) dL_law_27 (by decide +kernel) ?_
      refine V_isub 29 B (v := 0) dL_law_29 (by decide +kernel) ?_
      refine V_icmp_gt_t 30 B 3338 dL_law_30 (by decide) (by decide +kernel) ?_
      exact law_end B (Nat.le_of_ble_eq_true rfl) (Nat.le_of_ble_eq_true rfl) dL_law_3338 dL_law_3339
    ·
      refine V_ws [(x0, oC 12 [.ref x1, .ref x30, .ref x59, .ref x88, .ref x117, .ref x126, .ref x127, .ref x129, .ref x132, .long 0]), (x1, oC 2 [.ref x2, .ref x4, .ref x6, .ref x8, .ref x10, .ref x12, .ref x14, .ref x16, .ref x18, .ref x20, .ref x27, .int 0]), (x2, oC 3 [.ref x3, .int 1]), (m0, oC 13 [.ref m1, .ref m2, .int 1, .ref m3, .ref m4, .int 0, .int 0, .int 0, .int (-1), .int 0, .int 0, .int 0, .long 0, .ref m5, .ref m6, .int 0, .int 0]), (m1, aI Y 3640 (clB 0 (fun _ => 0)))] rfl ?_
      exact (q_abs (b_gt k19 (n := 1) (by decide +kernel)) (b_lt k1 (n := (-1)) (by decide +kernel)) (by decide +kernel)).elim
  ·
    refine V_ws [(x0, oC 12 [.ref x1, .ref x30, .ref x59, .ref x88, .ref x117, .ref x126, .ref x127, .ref x129, .ref x132, .long 0]), (x1, oC 2 [.ref x2, .ref x4, .ref x6, .ref x8, .ref x10, .ref x12, .ref x14, .ref x16, .ref x18, .ref x20, .ref x27, .int 0]), (x2, oC 3 [.ref x3, .int 1]), (m0, oC 13 [.ref m1, .ref m2, .int 0, .ref m3, .ref m4, .int 0, .int 0, .int 0, .int (-1), .int 0, .int 0, .int 0, .long 0, .ref m5, .ref m6, .int 0, .int 0]), (m1, aI Y 3640 (clB 0 (fun _ => 0)))] rfl ?_
    refine V_istore 2019 B (lv2 := [(5, .int 1), (4, .int 0), (3, .ref o0), (2, .ref m0), (1, .ref x0), (0, .ref b)]) dL_law_2019 (by decide) rfl ?_
    refine V_aload_n 2021 B dL_law_2021 3 rfl ?_
    refine V_aload_n 2022 B dL_law_2022 5 rfl ?_
    refine V_iload 2023 B dL_law_2023 1 rfl ?_
    refine V_iconst 2025 B (v := 1) dL_law_2025 (by decide +kernel) ?_
    refine V_iadd 2026 B (v := 1) dL_law_2026 (by decide +kernel) ?_
    refine V_sld 2027 B hX hbl hbA (v := p1) (vpin _ _ (by decide +kernel)) dL_law_2027 e1 ?_
    refine V_aload_n 2028 B dL_law_2028 5 rfl ?_
    refine V_iload 2029 B dL_law_2029 1 rfl ?_
    refine V_iconst 2031 B (v := 2) dL_law_2031 (by decide +kernel) ?_
    refine V_iadd 2032 B (v := 2) dL_law_2032 (by decide +kernel) ?_
    refine V_sld 2033 B hX hbl hbA (v := p2) (vpin _ _ (by decide +kernel)) dL_law_2033 e2 ?_
    refine V_cvi 2034 B (st := []) (As := [.int p1, .int p2]) (fun sz => mX12_clashPairs_1 l D Y (m0) (m1) (m2) (m3) (m4) (m5) (m6) (p1) (p2) sz) glV_RL_273 ⟨rfl, rfl⟩ ⟨(Nat.le_of_ble_eq_true rfl), (Nat.le_of_ble_eq_true rfl)⟩ ⟨(Nat.le_of_ble_eq_true rfl), (Nat.le_of_ble_eq_true rfl)⟩ [3, 0] rfl 13 0 rfl rfl rfl rfl (Nat.le_of_ble_eq_true rfl) rfl (fun _ u _ => by
        first | rfl | (split <;> rfl) | (dsimp only; split <;> rfl)) dL_law_2034 (fun r21 u21 w21 => ?_)
    rcases w21 with ⟨rfl, k22, k23, rfl⟩ | ⟨rfl, k24, k25, rfl⟩ | ⟨rfl, k26, k27, rfl⟩ | ⟨rfl, k28, rfl⟩ | ⟨rfl, k29, rfl⟩
    ·
      refine V_ws [(x0, oC 12 [.ref x1, .ref x30, .ref x59, .ref x88, .ref x117, .ref x126, .ref x127, .ref x129, .ref x132, .long 0]), (x1, oC 2 [.ref x2, .ref x4, .ref x6, .ref x8, .ref x10, .ref x12, .ref x14, .ref x16, .ref x18, .ref x20, .ref x27, .int 0]), (x2, oC 3 [.ref x3, .int 1]), (m0, oC 13 [.ref m1, .ref m2, .int 2, .ref m3, .ref m4, .int 0, .int 0, .int 0, .int (-1), .int 0, .int 0, .int 0, .long 0, .ref m5, .ref m6, .int 0, .int 0]), (m1, aI Y 3640 (clB 0 (fun _ => 0)))] rfl ?_
      exact absurd k22 (q_nel (b_ge k3 (n := 1) (by decide +kernel)) (by decide +kernel))
    ·
      refine V_ws [(x0, oC 12 [.ref x1, .ref x30, .ref x59, .ref x88, .ref x117, .ref x126, .ref x127, .ref x129, .ref x132, .long 0]), (x1, oC 2 [.ref x2, .ref x4, .ref x6, .ref x8, .ref x10, .ref x12, .ref x14, .ref x16, .ref x18, .ref x20, .ref x27, .int 0]), (x2, oC 3 [.ref x3, .int 1]), (m0, oC 13 [.ref m1, .ref m2, .int 1, .ref m3, .ref m4, .int 0, .int 0, .int 0, .int (-1), .int 0, .int 0, .int 0, .long 0, .ref m5, .ref m6, .int 0, .int 0]), (m1, aI Y 3640 (clB 0 (fun _ => 0)))] rfl ?_
      exact absurd k24 (q_nel (b_ge k3 (n := 1) (by decide +kernel)) (by decide +kernel))
    ·
      refine V_ws [(x0, oC 12 [.ref x1, .ref x30, .ref x59, .ref x88, .ref x117, .ref x126, .ref x127, .ref x129, .ref x132, .long 0]), (x1, oC 2 [.ref x2, .ref x4, .ref x6, .ref x8, .ref x10, .ref x12, .ref x14, .ref x16, .ref x18, .ref x20, .ref x27, .int 0]), (x2, oC 3 [.ref x3, .int 1]), (m0, oC 13 [.ref m1, .ref m2, .int 1, .ref m3, .ref m4, .int 0, .int 0, .int 0, .int (-1), .int 0, .int 0, .int 0, .long 0, .ref m5, .ref m6, .int 0, .int 0]), (m1, aI Y 3640 (clB 0 (fun _ => 0)))] rfl ?_
      exact absurd k26 (q_nel (b_ge k3 (n := 1) (by decide +kernel)) (by decide +kernel))
    ·
      refine V_ws [(x0, oC 12 [.ref x1, .ref x30, .ref x59, .ref x88, .ref x117, .ref x126, .ref x127, .ref x129, .ref x132, .long 0]), (x1, oC 2 [.ref x2, .ref x4, .ref x6, .ref x8, .ref x10, .ref x12, .ref x14, .ref x16, .ref x18, .ref x20, .ref x27, .int 0]), (x2, oC 3 [.ref x3, .int 1]), (m0, oC 13 [.ref m1, .ref m2, .int 1, .ref m3, .ref m4, .int 0, .int 0, .int 0, .int (-1), .int 0, .int 0, .int 0, .long 0, .ref m5, .ref m6, .int 0, .int 0]), (m1, aI Y 3640 (clB 0 (fun _ => 0)))] rfl ?_
      exact (q_abs (b_ge k3 (n := 1) (by decide +kernel)) (b_lt k28 (n := (-1)) (by decide +kernel)) (by decide +kernel)).elim
    ·
      refine V_ws [(x0, oC 12 [.ref x1, .ref x30, .ref x59, .ref x88, .ref x117, .ref x126, .ref x127, .ref x129, .ref x132, .long 0]), (x1, oC 2 [.ref x2, .ref x4, .ref x6, .ref x8, .ref x10, .ref x12, .ref x14, .ref x16, .ref x18, .ref x20, .ref x27, .int 0]), (x2, oC 3 [.ref x3, .int 1]), (m0, oC 13 [.ref m1, .ref m2, .int 1, .ref m3, .ref m4, .int 0, .int 0, .int 0, .int (-1), .int 0, .int 0, .int 0, .long 0, .ref m5, .ref m6, .int 0, .int 0]), (m1, aI Y 3640 (clB 0 (fun _ => 0)))] rfl ?_
      refine V_istore 2037 B (lv2 := [(6, .int 0), (5, .int 1), (4, .int 0), (3, .ref o0), (2, .ref m0), (1, .ref x0), (0, .ref b)]) dL_law_2037 (by decide) rfl ?_
      refine V_aload_n 2039 B dL_law_2039 4 rfl ?_
      refine V_cvi 2040 B (st := []) (As := []) (fun sz => mX12_thrown_2 l D Y (m0) (m1) (m2) (m3) (m4) (m5) (m6) sz) glV_RL_182 ⟨rfl, rfl⟩ ⟨(Nat.le_of_ble_eq_true rfl), (Nat.le_of_ble_eq_true rfl)⟩ ⟨(Nat.le_of_ble_eq_true rfl), (Nat.le_of_ble_eq_true rfl)⟩ [3] rfl 13 0 rfl rfl rfl rfl (Nat.le_of_ble_eq_true rfl) rfl (fun _ _ _ => rfl) dL_law_2040 (fun r30 u30 w30 => ?_)
      obtain rfl := w30
      refine V_ws [(x0, oC 12 [.ref x1, .ref x30, .ref x59, .ref x88, .ref x117, .ref x126, .ref x127, .ref x129, .ref x132, .long 0]), (x1, oC 2 [.ref x2, .ref x4, .ref x6, .ref x8, .ref x10, .ref x12, .ref x14, .ref x16, .ref x18, .ref x20, .ref x27, .int 0]), (x2, oC 3 [.ref x3, .int 1]), (m0, oC 13 [.ref m1, .ref m2, .int 1, .ref m3, .ref m4, .int 0, .int 0, .int 0, .int (-1), .int 0, .int 0, .int 0, .long 0, .ref m5, .ref m6, .int 0, .int 0]), (m1, aI Y 3640 (clB 0 (fun _ => 0)))] rfl ?_
      refine V_iload 2043 B dL_law_2043 1 rfl ?_
      refine V_icmp_eq_t 2045 B 2050 dL_law_2045 (by decide) (by decide +kernel) ?_
      refine V_iload 2050 B dL_law_2050 1 rfl ?_
      refine V_if_ne_t 2052 B 2067 dL_law_2052 (by decide) (by decide +kernel) ?_
      refine V_goto 2067 B 3332 dL_law_2067 (by decide) ?_
      refine V_iinc 3332 B (v := 6) (lv2 := [(4, .int 6), (6, .int 0), (5, .int 1), (3, .ref o0), (2, .ref m0), (1, .ref x0), (0, .ref b)]) dL_law_3332 2 rfl (by decide +kernel) (by decide) rfl ?_
      refine V_goto 3335 B 23 dL_law_3335 (by decide) ?_
      refine V_iload 23 B dL_law_23 0 rfl ?_
      refine V_aload_n 25 B dL_law_25 6 rfl ?_
      refine V_slen 26 B hX hbl hbA (v := 6) (by decide +kernel) dL_law_26 ?_
      refine V_bipush 27 B (v := 6) dL_law_27 (by decide +kernel) ?_
      refine V_isub 29 B (v := 0) dL_law_29 (by decide +kernel) ?_
      refine V_icmp_gt_t 30 B 3338 dL_law_30 (by decide) (by decide +kernel) ?_
      exact law_end B (Nat.le_of_ble_eq_true rfl) (Nat.le_of_ble_eq_true rfl) dL_law_3338 dL_law_3339
  ·
    refine V_ws [(x0, oC 12 [.ref x1, .ref x30, .ref x59, .ref x88, .ref x117, .ref x126, .ref x127, .ref x129, .ref x132, .long 0]), (x1, oC 2 [.ref x2, .ref x4, .ref x6, .ref x8, .ref x10, .ref x12, .ref x14, .ref x16, .ref x18, .ref x20, .ref x27, .int 0]), (x2, oC 3 [.ref x3, .int 1]), (m0, oC 13 [.ref m1, .ref m2, .int 0, .ref m3, .ref m4, .int 0, .int 0, .int 0, .int (-1), .int 0, .int 0, .int 0, .long 0, .ref m5, .ref m6, .int 0, .int 0]), (m1, aI Y 3640 (clB 0 (fun _ => 0)))] rfl ?_
    obtain rfl : p1 = 0 := k4
    refine V_istore 2019 B (lv2 := [(5, .int 1), (4, .int 0), (3, .ref o0), (2, .ref m0), (1, .ref x0), (0, .ref b)]) dL_law_2019 (by decide) rfl ?_
    refine V_aload_n 2021 B dL_law_2021 3 rfl ?_
    refine V_aload_n 2022 B dL_law_2022 5 rfl ?_
    refine V_iload 2023 B dL_law_2023 1 rfl ?_
    refine V_iconst 2025 B (v := 1) dL_law_2025 (by decide +kernel) ?_
    refine V_iadd 2026 B (v := 1) dL_law_2026 (by decide +kernel) ?_
    refine V_sld 2027 B hX hbl hbA (v := 0) (vpin _ _ (by decide +kernel)) dL_law_2027 e1 ?_
    refine V_aload_n 2028 B dL_law_2028 5 rfl ?_
    refine V_iload 2029 B dL_law_2029 1 rfl ?_
    refine V_iconst 2031 B (v := 2) dL_law_2031 (by decide +kernel) ?_
    refine V_iadd 2032 B (v := 2) dL_law_2032 (by decide +kernel) ?_
    refine V_sld 2033 B hX hbl hbA (v := p2) (vpin _ _ (by decide +kernel)) dL_law_2033 e2 ?_
    refine V_cvi 2034 B (st := []) (As := [.int 0, .int p2]) (fun sz => mX12_clashPairs_2 l D Y (m0) (m1) (m2) (m3) (m4) (m5) (m6) (p2) sz) glV_RL_273 ⟨rfl, rfl⟩ ⟨(Nat.le_of_ble_eq_true rfl), (Nat.le_of_ble_eq_true rfl)⟩ ⟨(Nat.le_of_ble_eq_true rfl), (Nat.le_of_ble_eq_true rfl)⟩ [3, 0] rfl 13 0 rfl rfl rfl rfl (Nat.le_of_ble_eq_true rfl) rfl (fun _ u _ => by
        first | rfl | (split <;> rfl) | (dsimp only; split <;> rfl)) dL_law_2034 (fun r31 u31 w31 => ?_)
    rcases w31 with ⟨rfl, k32, rfl⟩ | ⟨rfl, k33, rfl⟩ | ⟨rfl, k34, rfl⟩
    ·
      refine V_ws [(x0, oC 12 [.ref x1, .ref x30, .ref x59, .ref x88, .ref x117, .ref x126, .ref x127, .ref x129, .ref x132, .long 0]), (x1, oC 2 [.ref x2, .ref x4, .ref x6, .ref x8, .ref x10, .ref x12, .ref x14, .ref x16, .ref x18, .ref x20, .ref x27, .int 0]), (x2, oC 3 [.ref x3, .int 1]), (m0, oC 13 [.ref m1, .ref m2, .int 2, .ref m3, .ref m4, .int 0, .int 0, .int 0, .int (-1), .int 0, .int 0, .int 0, .long 0, .ref m5, .ref m6, .int 0, .int 0]), (m1, aI Y 3640 (clB 0 (fun _ => 0)))] rfl ?_
      exact absurd k32 (q_neh (b_lt k5 (n := (-1)) (by decide +kernel)) (by decide +kernel))
    ·
      refine V_ws [(x0, oC 12 [.ref x1, .ref x30, .ref x59, .ref x88, .ref x117, .ref x126, .ref x127, .ref x129, .ref x132, .long 0]), (x1, oC 2 [.ref x2, .ref x4, .ref x6, .ref x8, .ref x10, .ref x12, .ref x14, .ref x16, .ref x18, .ref x20, .ref x27, .int 0]), (x2, oC 3 [.ref x3, .int 1]), (m0, oC 13 [.ref m1, .ref m2, .int 1, .ref m3, .ref m4, .int 0, .int 0, .int 0, .int (-1), .int 0, .int 0, .int 0, .long 0, .ref m5, .ref m6, .int 0, .int 0]), (m1, aI Y 3640 (clB 0 (fun _ => 0)))] rfl ?_
      refine V_istore 2037 B (lv2 := [(6, .int 0), (5, .int 1), (4, .int 0), (3, .ref o0), (2, .ref m0), (1, .ref x0), (0, .ref b)]) dL_law_2037 (by decide) rfl ?_
      refine V_aload_n 2039 B dL_law_2039 4 rfl ?_
      refine V_cvi 2040 B (st := []) (As := []) (fun sz => mX12_thrown_2 l D Y (m0) (m1) (m2) (m3) (m4) (m5) (m6) sz) glV_RL_182 ⟨rfl, rfl⟩ ⟨(Nat.le_of_ble_eq_true rfl), (Nat.le_of_ble_eq_true rfl)⟩ ⟨(Nat.le_of_ble_eq_true rfl), (Nat.le_of_ble_eq_true rfl)⟩ [3] rfl 13 0 rfl rfl rfl rfl (Nat.le_of_ble_eq_true rfl) rfl (fun _ _ _ => rfl) dL_law_2040 (fun r35 u35 w35 => ?_)
      obtain rfl := w35
      refine V_ws [(x0, oC 12 [.ref x1, .ref x30, .ref x59, .ref x88, .ref x117, .ref x126, .ref x127, .ref x129, .ref x132, .long 0]), (x1, oC 2 [.ref x2, .ref x4, .ref x6, .ref x8, .ref x10, .ref x12, .ref x14, .ref x16, .ref x18, .ref x20, .ref x27, .int 0]), (x2, oC 3 [.ref x3, .int 1]), (m0, oC 13 [.ref m1, .ref m2, .int 1, .ref m3, .ref m4, .int 0, .int 0, .int 0, .int (-1), .int 0, .int 0, .int 0, .long 0, .ref m5, .ref m6, .int 0, .int 0]), (m1, aI Y 3640 (clB 0 (fun _ => 0)))] rfl ?_
      refine V_iload 2043 B dL_law_2043 1 rfl ?_
      refine V_icmp_eq_t 2045 B 2050 dL_law_2045 (by decide) (by decide +kernel) ?_
      refine V_iload 2050 B dL_law_2050 1 rfl ?_
      refine V_if_ne_t 2052 B 2067 dL_law_2052 (by decide) (by decide +kernel) ?_
      refine V_goto 2067 B 3332 dL_law_2067 (by decide) ?_
      refine V_iinc 3332 B (v := 6) (lv2 := [(4, .int 6), (6, .int 0), (5, .int 1), (3, .ref o0), (2, .ref m0), (1, .ref x0), (0, .ref b)]) dL_law_3332 2 rfl (by decide +kernel) (by decide) rfl ?_
      refine V_goto 3335 B 23 dL_law_3335 (by decide) ?_
      refine V_iload 23 B dL_law_23 0 rfl ?_
      refine V_aload_n 25 B dL_law_25 6 rfl ?_
      refine V_slen 26 B hX hbl hbA (v := 6) (by decide +kernel) dL_law_26 ?_
      refine V_bipush 27 B (v := 6) dL_law_27 (by decide +kernel) ?_
      refine V_isub 29 B (v := 0) dL_law_29 (by decide +kernel) ?_
      refine V_icmp_gt_t 30 B 3338 dL_law_30 (by decide) (by decide +kernel) ?_
      exact law_end B (Nat.le_of_ble_eq_true rfl) (Nat.le_of_ble_eq_true rfl) dL_law_3338 dL_law_3339
    ·
      refine V_ws [(x0, oC 12 [.ref x1, .ref x30, .ref x59, .ref x88, .ref x117, .ref x126, .ref x127, .ref x129, .ref x132, .long 0]), (x1, oC 2 [.ref x2, .ref x4, .ref x6, .ref x8, .ref x10, .ref x12, .ref x14, .ref x16, .ref x18, .ref x20, .ref x27, .int 0]), (x2, oC 3 [.ref x3, .int 1]), (m0, oC 13 [.ref m1, .ref m2, .int 1, .ref m3, .ref m4, .int 0, .int 0, .int 0, .int (-1), .int 0, .int 0, .int 0, .long 0, .ref m5, .ref m6, .int 0, .int 0]), (m1, aI Y 3640 (clB 0 (fun _ => 0)))] rfl ?_
      exact (q_abs (b_gt k34 (n := 1) (by decide +kernel)) (b_lt k5 (n := (-1)) (by decide +kernel)) (by decide +kernel)).elim
  ·
    refine V_ws [(x0, oC 12 [.ref x1, .ref x30, .ref x59, .ref x88, .ref x117, .ref x126, .ref x127, .ref x129, .ref x132, .long 0]), (x1, oC 2 [.ref x2, .ref x4, .ref x6, .ref x8, .ref x10, .ref x12, .ref x14, .ref x16, .ref x18, .ref x20, .ref x27, .int 0]), (x2, oC 3 [.ref x3, .int 1]), (m0, oC 13 [.ref m1, .ref m2, .int 0, .ref m3, .ref m4, .int 0, .int 0, .int 0, .int (-1), .int 0, .int 0, .int 0, .long 0, .ref m5, .ref m6, .int 0, .int 0]), (m1, aI Y 3640 (clB 0 (fun _ => 0)))] rfl ?_
    obtain rfl : p1 = 0 := k6
    refine V_istore 2019 B (lv2 := [(5, .int 1), (4, .int 0), (3, .ref o0), (2, .ref m0), (1, .ref x0), (0, .ref b)]) dL_law_2019 (by decide) rfl ?_
    refine V_aload_n 2021 B dL_law_2021 3 rfl ?_
    refine V_aload_n 2022 B dL_law_2022 5 rfl ?_
    refine V_iload 2023 B dL_law_2023 1 rfl ?_
    refine V_iconst 2025 B (v := 1) dL_law_2025 (by decide +kernel) ?_
    refine V_iadd 2026 B (v := 1) dL_law_2026 (by decide +kernel) ?_
    refine V_sld 2027 B hX hbl hbA (v := 0) (vpin _ _ (by decide +kernel)) dL_law_2027 e1 ?_
    refine V_aload_n 2028 B dL_law_2028 5 rfl ?_
    refine V_iload 2029 B dL_law_2029 1 rfl ?_
    refine V_iconst 2031 B (v := 2) dL_law_2031 (by decide +kernel) ?_
    refine V_iadd 2032 B (v := 2) dL_law_2032 (by decide +kernel) ?_
    refine V_sld 2033 B hX hbl hbA (v := p2) (vpin _ _ (by decide +kernel)) dL_law_2033 e2 ?_
    refine V_cvi 2034 B (st := []) (As := [.int 0, .int p2]) (fun sz => mX12_clashPairs_2 l D Y (m0) (m1) (m2) (m3) (m4) (m5) (m6) (p2) sz) glV_RL_273 ⟨rfl, rfl⟩ ⟨(Nat.le_of_ble_eq_true rfl), (Nat.le_of_ble_eq_true rfl)⟩ ⟨(Nat.le_of_ble_eq_true rfl), (Nat.le_of_ble_eq_true rfl)⟩ [3, 0] rfl 13 0 rfl rfl rfl rfl (Nat.le_of_ble_eq_true rfl) rfl (fun _ u _ => by
        first | rfl | (split <;> rfl) | (dsimp only; split <;> rfl)) dL_law_2034 (fun r36 u36 w36 => ?_)
    rcases w36 with ⟨rfl, k37, rfl⟩ | ⟨rfl, k38, rfl⟩ | ⟨rfl, k39, rfl⟩
    ·
      refine V_ws [(x0, oC 12 [.ref x1, .ref x30, .ref x59, .ref x88, .ref x117, .ref x126, .ref x127, .ref x129, .ref x132, .long 0]), (x1, oC 2 [.ref x2, .ref x4, .ref x6, .ref x8, .ref x10, .ref x12, .ref x14, .ref x16, .ref x18, .ref x20, .ref x27, .int 0]), (x2, oC 3 [.ref x3, .int 1]), (m0, oC 13 [.ref m1, .ref m2, .int 2, .ref m3, .ref m4, .int 0, .int 0, .int 0, .int (-1), .int 0, .int 0, .int 0, .long 0, .ref m5, .ref m6, .int 0, .int 0]), (m1, aI Y 3640 (clB 0 (fun _ => 0)))] rfl ?_
      exact absurd k37 (q_nel (b_ge k8 (n := 1) (by decide +kernel)) (by decide +kernel))
    ·
      refine V_ws [(x0, oC 12 [.ref x1, .ref x30, .ref x59, .ref x88, .ref x117, .ref x126, .ref x127, .ref x129, .ref x132, .long 0]), (x1, oC 2 [.ref x2, .ref x4, .ref x6, .ref x8, .ref x10, .ref x12, .ref x14, .ref x16, .ref x18, .ref x20, .ref x27, .int 0]), (x2, oC 3 [.ref x3, .int 1]), (m0, oC 13 [.ref m1, .ref m2, .int 1, .ref m3, .ref m4, .int 0, .int 0, .int 0, .int (-1), .int 0, .int 0, .int 0, .long 0, .ref m5, .ref m6, .int 0, .int 0]), (m1, aI Y 3640 (clB 0 (fun _ => 0)))] rfl ?_
      exact (q_abs (b_ge k8 (n := 1) (by decide +kernel)) (b_lt k38 (n := (-1)) (by decide +kernel)) (by decide +kernel)).elim
    ·
      refine V_ws [(x0, oC 12 [.ref x1, .ref x30, .ref x59, .ref x88, .ref x117, .ref x126, .ref x127, .ref x129, .ref x132, .long 0]), (x1, oC 2 [.ref x2, .ref x4, .ref x6, .ref x8, .ref x10, .ref x12, .ref x14, .ref x16, .ref x18, .ref x20, .ref x27, .int 0]), (x2, oC 3 [.ref x3, .int 1]), (m0, oC 13 [.ref m1, .ref m2, .int 1, .ref m3, .ref m4, .int 0, .int 0, .int 0, .int (-1), .int 0, .int 0, .int 0, .long 0, .ref m5, .ref m6, .int 0, .int 0]), (m1, aI Y 3640 (clB 0 (fun _ => 0)))] rfl ?_
      refine V_istore 2037 B (lv2 := [(6, .int 0), (5, .int 1), (4, .int 0), (3, .ref o0), (2, .ref m0), (1, .ref x0), (0, .ref b)]) dL_law_2037 (by decide) rfl ?_
      refine V_aload_n 2039 B dL_law_2039 4 rfl ?_
      refine V_cvi 2040 B (st := []) (As := []) (fun sz => mX12_thrown_2 l D Y (m0) (m1) (m2) (m3) (m4) (m5) (m6) sz) glV_RL_182 ⟨rfl, rfl⟩ ⟨(Nat.le_of_ble_eq_true rfl), (Nat.le_of_ble_eq_true rfl)⟩ ⟨(Nat.le_of_ble_eq_true rfl), (Nat.le_of_ble_eq_true rfl)⟩ [3] rfl 13 0 rfl rfl rfl rfl (Nat.le_of_ble_eq_true rfl) rfl (fun _ _ _ => rfl) dL_law_2040 (fun r40 u40 w40 => ?_)
      obtain rfl := w40
      refine V_ws [(x0, oC 12 [.ref x1, .ref x30, .ref x59, .ref x88, .ref x117, .ref x126, .ref x127, .ref x129, .ref x132, .long 0]), (x1, oC 2 [.ref x2, .ref x4, .ref x6, .ref x8, .ref x10, .ref x12, .ref x14, .ref x16, .ref x18, .ref x20, .ref x27, .int 0]), (x2, oC 3 [.ref x3, .int 1]), (m0, oC 13 [.ref m1, .ref m2, .int 1, .ref m3, .ref m4, .int 0, .int 0, .int 0, .int (-1), .int 0, .int 0, .int 0, .long 0, .ref m5, .ref m6, .int 0, .int 0]), (m1, aI Y 3640 (clB 0 (fun _ => 0)))] rfl ?_
      refine V_iload 2043 B dL_law_2043 1 rfl ?_
      refine V_icmp_eq_t 2045 B 2050 dL_law_2045 (by decide) (by decide +kernel) ?_
      refine V_iload 2050 B dL_law_2050 1 rfl ?_
      refine V_if_ne_t 2052 B 2067 dL_law_2052 (by decide) (by decide +kernel) ?_
      refine V_goto 2067 B 3332 dL_law_2067 (by decide) ?_
      refine V_iinc 3332 B (v := 6) (lv2 := [(4, .int 6), (6, .int 0), (5, .int 1), (3, .ref o0), (2, .ref m0), (1, .ref x0), (0, .ref b)]) dL_law_3332 2 rfl (by decide +kernel) (by decide) rfl ?_
      refine V_goto 3335 B 23 dL_law_3335 (by decide) ?_
      refine V_iload 23 B dL_law_23 0 rfl ?_
      refine V_aload_n 25 B dL_law_25 6 rfl ?_
      refine V_slen 26 B hX hbl hbA (v := 6) (by decide +kernel) dL_law_26 ?_
      refine V_bipush 27 B (v := 6) dL_law_27 (by decide +kernel) ?_
      refine V_isub 29 B (v := 0) dL_law_29 (by decide +kernel) ?_
      refine V_icmp_gt_t 30 B 3338 dL_law_30 (by decide) (by decide +kernel) ?_
      exact law_end B (Nat.le_of_ble_eq_true rfl) (Nat.le_of_ble_eq_true rfl) dL_law_3338 dL_law_3339
  ·
    refine V_ws [(x0, oC 12 [.ref x1, .ref x30, .ref x59, .ref x88, .ref x117, .ref x126, .ref x127, .ref x129, .ref x132, .long 0]), (x1, oC 2 [.ref x2, .ref x4, .ref x6, .ref x8, .ref x10, .ref x12, .ref x14, .ref x16, .ref x18, .ref x20, .ref x27, .int 0]), (x2, oC 3 [.ref x3, .int 1]), (m0, oC 13 [.ref m1, .ref m2, .int 0, .ref m3, .ref m4, .int 0, .int 0, .int 0, .int (-1), .int 0, .int 0, .int 0, .long 0, .ref m5, .ref m6, .int 0, .int 0]), (m1, aI Y 3640 (clB 0 (fun _ => 0)))] rfl ?_
    obtain rfl : p1 = 0 := k9
    obtain rfl : p2 = 0 := k10
    refine V_istore 2019 B (lv2 := [(5, .int 2), (4, .int 0), (3, .ref o0), (2, .ref m0), (1, .ref x0), (0, .ref b)]) dL_law_2019 (by decide) rfl ?_
    refine V_aload_n 2021 B dL_law_2021 3 rfl ?_
    refine V_aload_n 2022 B dL_law_2022 5 rfl ?_
    refine V_iload 2023 B dL_law_2023 1 rfl ?_
    refine V_iconst 2025 B (v := 1) dL_law_2025 (by decide +kernel) ?_
    refine V_iadd 2026 B (v := 1) dL_law_2026 (by decide +kernel) ?_
    refine V_sld 2027 B hX hbl hbA (v := 0) (vpin _ _ (by decide +kernel)) dL_law_2027 e1 ?_
    refine V_aload_n 2028 B dL_law_2028 5 rfl ?_
    refine V_iload 2029 B dL_law_2029 1 rfl ?_
    refine V_iconst 2031 B (v := 2) dL_law_2031 (by decide +kernel) ?_
    refine V_iadd 2032 B (v := 2) dL_law_2032 (by decide +kernel) ?_
    refine V_sld 2033 B hX hbl hbA (v := 0) (vpin _ _ (by decide +kernel)) dL_law_2033 e2 ?_
    refine V_cvi 2034 B (st := []) (As := [.int 0, .int 0]) (fun sz => mX12_clashPairs_3 l D Y (m0) (m1) (m2) (m3) (m4) (m5) (m6) sz) glV_RL_273 ⟨rfl, rfl⟩ ⟨(Nat.le_of_ble_eq_true rfl), (Nat.le_of_ble_eq_true rfl)⟩ ⟨(Nat.le_of_ble_eq_true rfl), (Nat.le_of_ble_eq_true rfl)⟩ [3, 0] rfl 13 0 rfl rfl rfl rfl (Nat.le_of_ble_eq_true rfl) rfl (fun _ _ _ => rfl) dL_law_2034 (fun r41 u41 w41 => ?_)
    obtain rfl := w41
    refine V_ws [(x0, oC 12 [.ref x1, .ref x30, .ref x59, .ref x88, .ref x117, .ref x126, .ref x127, .ref x129, .ref x132, .long 0]), (x1, oC 2 [.ref x2, .ref x4, .ref x6, .ref x8, .ref x10, .ref x12, .ref x14, .ref x16, .ref x18, .ref x20, .ref x27, .int 0]), (x2, oC 3 [.ref x3, .int 1]), (m0, oC 13 [.ref m1, .ref m2, .int 2, .ref m3, .ref m4, .int 0, .int 0, .int 0, .int (-1), .int 0, .int 0, .int 0, .long 0, .ref m5, .ref m6, .int 0, .int 0]), (m1, aI Y 3640 (clB 0 (fun _ => 0)))] rfl ?_
    refine V_istore 2037 B (lv2 := [(6, .int 0), (5, .int 2), (4, .int 0), (3, .ref o0), (2, .ref m0), (1, .ref x0), (0, .ref b)]) dL_law_2037 (by decide) rfl ?_
    refine V_aload_n 2039 B dL_law_2039 4 rfl ?_
    refine V_cvi 2040 B (st := []) (As := []) (fun sz => mX12_thrown_3 l D Y (m0) (m1) (m2) (m3) (m4) (m5) (m6) sz) glV_RL_182 ⟨rfl, rfl⟩ ⟨(Nat.le_of_ble_eq_true rfl), (Nat.le_of_ble_eq_true rfl)⟩ ⟨(Nat.le_of_ble_eq_true rfl), (Nat.le_of_ble_eq_true rfl)⟩ [3] rfl 13 0 rfl rfl rfl rfl (Nat.le_of_ble_eq_true rfl) rfl (fun _ _ _ => rfl) dL_law_2040 (fun r42 u42 w42 => ?_)
    obtain rfl := w42
    refine V_ws [(x0, oC 12 [.ref x1, .ref x30, .ref x59, .ref x88, .ref x117, .ref x126, .ref x127, .ref x129, .ref x132, .long 0]), (x1, oC 2 [.ref x2, .ref x4, .ref x6, .ref x8, .ref x10, .ref x12, .ref x14, .ref x16, .ref x18, .ref x20, .ref x27, .int 0]), (x2, oC 3 [.ref x3, .int 1]), (m0, oC 13 [.ref m1, .ref m2, .int 2, .ref m3, .ref m4, .int 0, .int 0, .int 0, .int (-1), .int 0, .int 0, .int 0, .long 0, .ref m5, .ref m6, .int 0, .int 0]), (m1, aI Y 3640 (clB 0 (fun _ => 0)))] rfl ?_
    refine V_iload 2043 B dL_law_2043 1 rfl ?_
    refine V_icmp_eq_t 2045 B 2050 dL_law_2045 (by decide) (by decide +kernel) ?_
    refine V_iload 2050 B dL_law_2050 1 rfl ?_
    refine V_if_ne_t 2052 B 2067 dL_law_2052 (by decide) (by decide +kernel) ?_
    refine V_goto 2067 B 3332 dL_law_2067 (by decide) ?_
    refine V_iinc 3332 B (v := 6) (lv2 := [(4, .int 6), (6, .int 0), (5, .int 2), (3, .ref o0), (2, .ref m0), (1, .ref x0), (0, .ref b)]) dL_law_3332 2 rfl (by decide +kernel) (by decide) rfl ?_
    refine V_goto 3335 B 23 dL_law_3335 (by decide) ?_
    refine V_iload 23 B dL_law_23 0 rfl ?_
    refine V_aload_n 25 B dL_law_25 6 rfl ?_
    refine V_slen 26 B hX hbl hbA (v := 6) (by decide +kernel) dL_law_26 ?_
    refine V_bipush 27 B (v := 6) dL_law_27 (by decide +kernel) ?_
    refine V_isub 29 B (v := 0) dL_law_29 (by decide +kernel) ?_
    refine V_icmp_gt_t 30 B 3338 dL_law_30 (by decide) (by decide +kernel) ?_
    exact law_end B (Nat.le_of_ble_eq_true rfl) (Nat.le_of_ble_eq_true rfl) dL_law_3338 dL_law_3339
