theorem dL_law_885 : decode cL_law 885 = .ok (.aload_n 1, 1) := by decide +kernel
theorem dL_law_886 : decode cL_law 886 = .ok (.aload_n 0, 1) := by decide +kernel
theorem dL_law_887 : decode cL_law 887 = .ok (.iload 4, 2) := by decide +kernel
theorem dL_law_889 : decode cL_law 889 = .ok (.iconst 1, 1) := by decide +kernel
theorem dL_law_890 : decode cL_law 890 = .ok (.iadd, 1) := by decide +kernel
theorem dL_law_891 : decode cL_law 891 = .ok (.iaload, 1) := by decide +kernel
theorem dL_law_892 : decode cL_law 892 = .ok (.aload_n 0, 1) := by decide +kernel
theorem dL_law_893 : decode cL_law 893 = .ok (.iload 4, 2) := by decide +kernel
theorem dL_law_895 : decode cL_law 895 = .ok (.iconst 2, 1) := by decide +kernel
theorem dL_law_896 : decode cL_law 896 = .ok (.iadd, 1) := by decide +kernel
theorem dL_law_897 : decode cL_law 897 = .ok (.iaload, 1) := by decide +kernel
theorem dL_law_898 : decode cL_law 898 = .ok (.aload_n 3, 1) := by decide +kernel
theorem dL_law_899 : decode cL_law 899 = .ok (.invokestatic 213, 3) := by decide +kernel
theorem glH_RL_213 : GLH RL 213 yL_reservedStroke cL_reservedStroke 5 (some .int) [(0, 10, 13, 18)] 4 := ⟨⟨(mT5 193 rfl rfl), (mT5 194 rfl rfl), (mT1 0 rfl rfl), (mT5 195 rfl rfl)⟩, by decide +kernel⟩
theorem dL_law_902 : decode cL_law 902 = .ok (.istore 5, 2) := by decide +kernel
theorem dL_law_904 : decode cL_law 904 = .ok (.aload_n 2, 1) := by decide +kernel
theorem dL_law_905 : decode cL_law 905 = .ok (.aload_n 0, 1) := by decide +kernel
theorem dL_law_906 : decode cL_law 906 = .ok (.iload 4, 2) := by decide +kernel
theorem dL_law_908 : decode cL_law 908 = .ok (.iconst 1, 1) := by decide +kernel
theorem dL_law_909 : decode cL_law 909 = .ok (.iadd, 1) := by decide +kernel
theorem dL_law_910 : decode cL_law 910 = .ok (.iaload, 1) := by decide +kernel
theorem dL_law_911 : decode cL_law 911 = .ok (.aload_n 0, 1) := by decide +kernel
theorem dL_law_912 : decode cL_law 912 = .ok (.iload 4, 2) := by decide +kernel
theorem dL_law_914 : decode cL_law 914 = .ok (.iconst 2, 1) := by decide +kernel
theorem dL_law_915 : decode cL_law 915 = .ok (.iadd, 1) := by decide +kernel
theorem dL_law_916 : decode cL_law 916 = .ok (.iaload, 1) := by decide +kernel
theorem dL_law_917 : decode cL_law 917 = .ok (.invokevirtual 215, 3) := by decide +kernel
theorem glV_RL_215 : GLV RL 215 yX12_reservedStroke RX12 cX12_reservedStroke 3 (some .int) 2 := ⟨⟨(mT8 96 rfl rfl), (mT8 97 rfl rfl), (mT8 98 rfl rfl), (mT1 13 rfl rfl), (mT8 99 rfl rfl)⟩, by decide +kernel⟩
theorem dL_law_920 : decode cL_law 920 = .ok (.istore 6, 2) := by decide +kernel
theorem dL_law_922 : decode cL_law 922 = .ok (.aload_n 2, 1) := by decide +kernel
theorem dL_law_923 : decode cL_law 923 = .ok (.invokevirtual 182, 3) := by decide +kernel
theorem dL_law_926 : decode cL_law 926 = .ok (.iload 5, 2) := by decide +kernel
theorem dL_law_928 : decode cL_law 928 = .ok (.if_icmp .eq 5, 3) := by decide +kernel
theorem dL_law_933 : decode cL_law 933 = .ok (.iload 5, 2) := by decide +kernel
theorem dL_law_935 : decode cL_law 935 = .ok (.ifCond .ne 15, 3) := by decide +kernel
theorem dL_law_950 : decode cL_law 950 = .ok (.goto 2382, 3) := by decide +kernel
set_option maxRecDepth 100000 in
set_option maxHeartbeats 4000000 in
theorem law_c15 {p : Program} {l : Launch} {e : Env} {s : State} {m : MethodId} {below : List Frame} {meth : Method} {c : Code} {b : Nat} {xs : Nat → Int32} {D : va_G} {Y : Nat → ClassId} (B : VB p s m #[Value.ref b] meth c D Y (fun q => s.heap.size ≤ q) cL_law 8 RL ret) (EB : EX (fun q => s.heap.size ≤ q) s s.heap) (hl9 : l.stackTraces = false) (hX : va_X b 6 xs s s.heap) (hbl : b < s.heap.size) (hbA : ¬ (fun q => s.heap.size ≤ q) b) (x0 x1 x30 x59 x88 x117 x126 x127 x129 x132 x2 x4 x6 x8 x10 x12 x14 x16 x18 x20 x27 x11 m0 m1 m2 m3 m4 m5 m6 o0 : Nat) (p1 p2 : Int32) (e1 : xs 1 = p1) (e2 : xs 2 = p2) : V p l e room_1 s m #[Value.ref b] below meth c D (fun q => s.heap.size ≤ q) 8 149 10574 (lw_Z below #[Value.ref b] s) 885 [(4, .int 0), (3, .ref o0), (2, .ref m0), (1, .ref x0), (0, .ref b)] [] [(x0, oC 12 [.ref x1, .ref x30, .ref x59, .ref x88, .ref x117, .ref x126, .ref x127, .ref x129, .ref x132, .long 0]), (x1, oC 2 [.ref x2, .ref x4, .ref x6, .ref x8, .ref x10, .ref x12, .ref x14, .ref x16, .ref x18, .ref x20, .ref x27, .int 0]), (x10, oC 7 [.ref x11, .int 0]), (m0, oC 13 [.ref m1, .ref m2, .int 0, .ref m3, .ref m4, .int 0, .int 0, .int 0, .int (-1), .int 0, .int 0, .int 0, .long 0, .ref m5, .ref m6, .int 0, .int 0]), (m1, aI Y 3640 (clB 0 (fun _ => 0)))] := by
  refine V_aload_n 885 B dL_law_885 3 rfl ?_
  refine V_aload_n 886 B dL_law_886 4 rfl ?_
  refine V_iload 887 B dL_law_887 0 rfl ?_
  refine V_iconst 889 B (v := 1) dL_law_889 (by decide +kernel) ?_
  refine V_iadd 890 B (v := 1) dL_law_890 (by decide +kernel) ?_
  refine V_sld 891 B hX hbl hbA (v := p1) (vpin _ _ (by decide +kernel)) dL_law_891 e1 ?_
  refine V_aload_n 892 B dL_law_892 4 rfl ?_
  refine V_iload 893 B dL_law_893 0 rfl ?_
  refine V_iconst 895 B (v := 2) dL_law_895 (by decide +kernel) ?_
  refine V_iadd 896 B (v := 2) dL_law_896 (by decide +kernel) ?_
  refine V_sld 897 B hX hbl hbA (v := p2) (vpin _ _ (by decide +kernel)) dL_law_897 e2 ?_
  refine V_aload_n 898 B dL_law_898 1 rfl ?_
  refine V_hsi 899 B EB (st := []) (As := [.ref x0, .int p1, .int p2, .ref o0]) (fun sz => mL_reservedStroke_1 l hl9 D Y (x0) (o0) (x1) (x30) (x59) (x88) (x117) (x126) (x127) (x129) (x132) (x2) (x4) (x6) (x8) (x10) (x12) (x14) (x16) (x18) (x20) (x27) (x11) (p1) (p2) sz) glH_RL_213 ⟨rfl, rfl⟩ ⟨(Nat.le_of_ble_eq_true rfl), (Nat.le_of_ble_eq_true rfl)⟩ ⟨(Nat.le_of_ble_eq_true rfl), (Nat.le_of_ble_eq_true rfl)⟩ [0, 0, 0] rfl rfl (Nat.le_of_ble_eq_true rfl) rfl (fun _ _ _ => rfl) dL_law_899 (fun r0 u0 w0 => ?_)
  rcases w0 with ⟨k1, rfl⟩ | ⟨k2, rfl⟩
  ·
    refine V_ws [(x0, oC 12 [.ref x1, .ref x30, .ref x59, .ref x88, .ref x117, .ref x126, .ref x127, .ref x129, .ref x132, .long 0]), (x1, oC 2 [.ref x2, .ref x4, .ref x6, .ref x8, .ref x10, .ref x12, .ref x14, .ref x16, .ref x18, .ref x20, .ref x27, .int 0]), (x10, oC 7 [.ref x11, .int 0]), (m0, oC 13 [.ref m1, .ref m2, .int 0, .ref m3, .ref m4, .int 0, .int 0, .int 0, .int (-1), .int 0, .int 0, .int 0, .long 0, .ref m5, .ref m6, .int 0, .int 0]), (m1, aI Y 3640 (clB 0 (fun _ => 0)))] rfl ?_
    refine V_istore 902 B (lv2 := [(5, .int 1), (4, .int 0), (3, .ref o0), (2, .ref m0), (1, .ref x0), (0, .ref b)]) dL_law_902 (by decide) rfl ?_
    refine V_aload_n 904 B dL_law_904 3 rfl ?_
    refine V_aload_n 905 B dL_law_905 5 rfl ?_
    refine V_iload 906 B dL_law_906 1 rfl ?_
    refine V_iconst 908 B (v := 1) dL_law_908 (by decide +kernel) ?_
    refine V_iadd 909 B (v := 1) dL_law_909 (by decide +kernel) ?_
    refine V_sld 910 B hX hbl hbA (v := p1) (vpin _ _ (by decide +kernel)) dL_law_910 e1 ?_
    refine V_aload_n 911 B dL_law_911 5 rfl ?_
    refine V_iload 912 B dL_law_912 1 rfl ?_
    refine V_iconst 914 B (v := 2) dL_law_914 (by decide +kernel) ?_
    refine V_iadd 915 B (v := 2) dL_law_915 (by decide +kernel) ?_
    refine V_sld 916 B hX hbl hbA (v := p2) (vpin _ _ (by decide +kernel)) dL_law_916 e2 ?_
    refine V_cvi 917 B (st := []) (As := [.int p1, .int p2]) (fun sz => mX12_reservedStroke_1 l D Y (m0) (m1) (m2) (m3) (m4) (m5) (m6) (p1) (p2) sz) glV_RL_215 ⟨rfl, rfl⟩ ⟨(Nat.le_of_ble_eq_true rfl), (Nat.le_of_ble_eq_true rfl)⟩ ⟨(Nat.le_of_ble_eq_true rfl), (Nat.le_of_ble_eq_true rfl)⟩ [3, 0] rfl 13 0 rfl rfl rfl rfl (Nat.le_of_ble_eq_true rfl) rfl (fun _ _ _ => rfl) dL_law_917 (fun r3 u3 w3 => ?_)
    rcases w3 with ⟨k4, rfl⟩ | ⟨k5, rfl⟩
    ·
      refine V_ws [(x0, oC 12 [.ref x1, .ref x30, .ref x59, .ref x88, .ref x117, .ref x126, .ref x127, .ref x129, .ref x132, .long 0]), (x1, oC 2 [.ref x2, .ref x4, .ref x6, .ref x8, .ref x10, .ref x12, .ref x14, .ref x16, .ref x18, .ref x20, .ref x27, .int 0]), (x10, oC 7 [.ref x11, .int 0]), (m0, oC 13 [.ref m1, .ref m2, .int 1, .ref m3, .ref m4, .int 0, .int 0, .int 0, .int (-1), .int 0, .int 0, .int 0, .long 0, .ref m5, .ref m6, .int 0, .int 0]), (m1, aI Y 3640 (clB 0 (fun _ => 0)))] rfl ?_
      refine V_istore 920 B (lv2 := [(6, .int 0), (5, .int 1), (4, .int 0), (3, .ref o0), (2, .ref m0), (1, .ref x0), (0, .ref b)]) dL_law_920 (by decide) rfl ?_
      refine V_aload_n 922 B dL_law_922 4 rfl ?_
      refine V_cvi 923 B (st := []) (As := []) (fun sz => mX12_thrown_2 l D Y (m0) (m1) (m2) (m3) (m4) (m5) (m6) sz) glV_RL_182 ⟨rfl, rfl⟩ ⟨(Nat.le_of_ble_eq_true rfl), (Nat.le_of_ble_eq_true rfl)⟩ ⟨(Nat.le_of_ble_eq_true rfl), (Nat.le_of_ble_eq_true rfl)⟩ [3] rfl 13 0 rfl rfl rfl rfl (Nat.le_of_ble_eq_true rfl) rfl (fun _ _ _ => rfl) dL_law_923 (fun r6 u6 w6 => ?_)
      obtain rfl := w6
      refine V_ws [(x0, oC 12 [.ref x1, .ref x30, .ref x59, .ref x88, .ref x117, .ref x126, .ref x127, .ref x129, .ref x132, .long 0]), (x1, oC 2 [.ref x2, .ref x4, .ref x6, .ref x8, .ref x10, .ref x12, .ref x14, .ref x16, .ref x18, .ref x20, .ref x27, .int 0]), (x10, oC 7 [.ref x11, .int 0]), (m0, oC 13 [.ref m1, .ref m2, .int 1, .ref m3, .ref m4, .int 0, .int 0, .int 0, .int (-1), .int 0, .int 0, .int 0, .long 0, .ref m5, .ref m6, .int 0, .int 0]), (m1, aI Y 3640 (clB 0 (fun _ => 0)))] rfl ?_
      refine V_iload 926 B dL_law_926 1 rfl ?_
      refine V_icmp_eq_t 928 B 933 dL_law_928 (by decide) (by decide +kernel) ?_
      refine V_iload 933 B dL_law_933 1 rfl ?_
      refine V_if_ne_t 935 B 950 dL_law_935 (by decide) (by decide +kernel) ?_
      refine V_goto 950 B 3332 dL_law_950 (by decide) ?_
      refine V_iinc 3332 B (v := 6) (lv2 := [(4, .int 6), (6, .int 0), (5, .int 1), (3, .ref o0), (2, .ref m0), (1, .ref x0), (0, .ref b)]) dL_law_3332 2 rfl (by decide +kernel) (by decide) rfl ?_
      refine V_goto 3335 B 23 dL_law_3335 (by decide) ?_
      refine V_iload 23 B dL_law_23 0 rfl ?_
      refine V_aload_n 25 B dL_law_25 6 rfl ?_
      refine V_slen 26 B hX hbl hbA (v := 6) (by decide +kernel) dL_law_26 ?_
      refine V_bipush 27 B (v := 6) dL_law_27 (by decide +kernel) ?_
      refine V_isub 29 B (v := 0) dL_law_29 (by decide +kernel) ?_
      refine V_icmp_gt_t 30 B 3338 dL_law_30 (by decide) (by decide +kernel) ?_
      exact law_end B (Nat.le_of_ble_eq_true rfl) (Nat.le_of_ble_eq_true rfl) dL_law_3338 dL_law_3339
    ·
      refine V_ws [(x0, oC 12 [.ref x1, .ref x30, .ref x59, .ref x88, .ref x117, .ref x126, .ref x127, .ref x129, .ref x132, .long 0]), (x1, oC 2 [.ref x2, .ref x4, .ref x6, .ref x8, .ref x10, .ref x12, .ref x14, .ref x16, .ref x18, .ref x20, .ref x27, .int 0]), (x10, oC 7 [.ref x11, .int 0]), (m0, oC 13 [.ref m1, .ref m2, .int 1, .ref m3, .ref m4, .int 0, .int 0, .int 0, .int (-1), .int 0, .int 0, .int 0, .long 0, .ref m5, .ref m6, .int 0, .int 0]), (m1, aI Y 3640 (clB 0 (fun _ => 0)))] rfl ?_
      exact (q_abs (b_gt k5 (n := 0) (by decide +kernel)) (b_lt k1 (n := (-1)) (by decide +kernel)) (by decide +kernel)).elim
  ·
    refine V_ws [(x0, oC 12 [.ref x1, .ref x30, .ref x59, .ref x88, .ref x117, .ref x126, .ref x127, .ref x129, .ref x132, .long 0]), (x1, oC 2 [.ref x2, .ref x4, .ref x6, .ref x8, .ref x10, .ref x12, .ref x14, .ref x16, .ref x18, .ref x20, .ref x27, .int 0]), (x10, oC 7 [.ref x11, .int 0]), (m0, oC 13 [.ref m1, .ref m2, .int 0, .ref m3, .ref m4, .int 0, .int 0, .int 0, .int (-1), .int 0, .int 0, .int 0, .long 0, .ref m5, .ref m6, .int 0, .int 0]), (m1, aI Y 3640 (clB 0 (fun _ => 0)))] rfl ?_
    refine V_istore 902 B (lv2 := [(5, .int 1), (4, .int 0), (3, .ref o0), (2, .ref m0), (1, .ref x0), (0, .ref b)]) dL_law_902 (by decide) rfl ?_
    refine V_aload_n 904 B dL_law_904 3 rfl ?_
    refine V_aload_n 905 B dL_law_905 5 rfl ?_
    refine V_iload 906 B dL_law_906 1 rfl ?_
    refine V_iconst 908 B (v := 1) dL_law_908 (by decide +kernel) ?_
    refine V_iadd 909 B (v := 1) dL_law_909 (by decide +kernel) ?_
    refine V_sld 910 B hX hbl hbA (v := p1) (vpin _ _ (by decide +kernel)) dL_law_910 e1 ?_
    refine V_aload_n 911 B dL_law_911 5 rfl ?_
    refine V_iload 912 B dL_law_912 1 rfl ?_
    refine V_iconst 914 B (v := 2) dL_law_914 (by decide +kernel) ?_
    refine V_iadd 915 B (v := 2) dL_law_915 (by decide +kernel) ?_
    refine V_sld 916 B hX hbl hbA (v := p2) (vpin _ _ (by decide +kernel)) dL_law_916 e2 ?_
    refine V_cvi 917 B (st := []) (As := [.int p1, .int p2]) (fun sz => mX12_reservedStroke_1 l D Y (m0) (m1) (m2) (m3) (m4) (m5) (m6) (p1) (p2) sz) glV_RL_215 ⟨rfl, rfl⟩ ⟨(Nat.le_of_ble_eq_true rfl), (Nat.le_of_ble_eq_true rfl)⟩ ⟨(Nat.le_of_ble_eq_true rfl), (Nat.le_of_ble_eq_true rfl)⟩ [3, 0] rfl 13 0 rfl rfl rfl rfl (Nat.le_of_ble_eq_true rfl) rfl (fun _ _ _ => rfl) dL_law_917 (fun r7 u7 w7 => ?_)
    rcases w7 with ⟨k8, rfl⟩ | ⟨k9, rfl⟩
    ·
      refine V_ws [(x0, oC 12 [.ref x1, .ref x30, .ref x59, .ref x88, .ref x117, .ref x126, .ref x127, .ref x129, .ref x132, .long 0]), (x1, oC 2 [.ref x2, .ref x4, .ref x6, .ref x8, .ref x10, .ref x12, .ref x14, .ref x16, .ref x18, .ref x20, .ref x27, .int 0]), (x10, oC 7 [.ref x11, .int 0]), (m0, oC 13 [.ref m1, .ref m2, .int 1, .ref m3, .ref m4, .int 0, .int 0, .int 0, .int (-1), .int 0, .int 0, .int 0, .long 0, .ref m5, .ref m6, .int 0, .int 0]), (m1, aI Y 3640 (clB 0 (fun _ => 0)))] rfl ?_
      exact (q_abs (b_nlt k2 (n := 0) (by decide +kernel)) (b_lt k8 (n := (-1)) (by decide +kernel)) (by decide +kernel)).elim
    ·
      refine V_ws [(x0, oC 12 [.ref x1, .ref x30, .ref x59, .ref x88, .ref x117, .ref x126, .ref x127, .ref x129, .ref x132, .long 0]), (x1, oC 2 [.ref x2, .ref x4, .ref x6, .ref x8, .ref x10, .ref x12, .ref x14, .ref x16, .ref x18, .ref x20, .ref x27, .int 0]), (x10, oC 7 [.ref x11, .int 0]), (m0, oC 13 [.ref m1, .ref m2, .int 1, .ref m3, .ref m4, .int 0, .int 0, .int 0, .int (-1), .int 0, .int 0, .int 0, .long 0, .ref m5, .ref m6, .int 0, .int 0]), (m1, aI Y 3640 (clB 0 (fun _ => 0)))] rfl ?_
      refine V_istore 920 B (lv2 := [(6, .int 0), (5, .int 1), (4, .int 0), (3, .ref o0), (2, .ref m0), (1, .ref x0), (0, .ref b)]) dL_law_920 (by decide) rfl ?_
      refine V_aload_n 922 B dL_law_922 4 rfl ?_
      refine V_cvi 923 B (st := []) (As := []) (fun sz => mX12_thrown_2 l D Y (m0) (m1) (m2) (m3) (m4) (m5) (m6) sz) glV_RL_182 ⟨rfl, rfl⟩ ⟨(Nat.le_of_ble_eq_true rfl), (Nat.le_of_ble_eq_true rfl)⟩ ⟨(Nat.le_of_ble_eq_true rfl), (Nat.le_of_ble_eq_true rfl)⟩ [3] rfl 13 0 rfl rfl rfl rfl (Nat.le_of_ble_eq_true rfl) rfl (fun _ _ _ => rfl) dL_law_923 (fun r10 u10 w10 => ?_)
      obtain rfl := w10
      refine V_ws [(x0, oC 12 [.ref x1, .ref x30, .ref x59, .ref x88, .ref x117, .ref x126, .ref x127, .ref x129, .ref x132, .long 0]), (x1, oC 2 [.ref x2, .ref x4, .ref x6, .ref x8, .ref x10, .ref x12, .ref x14, .ref x16, .ref x18, .ref x20, .ref x27, .int 0]), (x10, oC 7 [.ref x11, .int 0]), (m0, oC 13 [.ref m1, .ref m2, .int 1, .ref m3, .ref m4, .int 0, .int 0, .int 0, .int (-1), .int 0, .int 0, .int 0, .long 0, .ref m5, .ref m6, .int 0, .int 0]), (m1, aI Y 3640 (clB 0 (fun _ => 0)))] rfl ?_
      refine V_iload 926 B dL_law_926 1 rfl ?_
      refine V_icmp_eq_t 928 B 933 dL_law_928 (by decide) (by decide +kernel) ?_
      refine V_iload 933 B dL_law_933 1 rfl ?_
      refine V_if_ne_t 935 B 950 dL_law_935 (by decide) (by decide +kernel) ?_
      refine V_goto 950 B 3332 dL_law_950 (by decide) ?_
      refine V_iinc 3332 B (v := 6) (lv2 := [(4, .int 6), (6, .int 0), (5, .int 1), (3, .ref o0), (2, .ref m0), (1, .ref x0), (0, .ref b)]) dL_law_3332 2 rfl (by decide +kernel) (by decide) rfl ?_
      refine V_goto 3335 B 23 dL_law_3335 (by decide) ?_
      refine V_iload 23 B dL_law_23 0 rfl ?_
      refine V_aload_n 25 B dL_law_25 6 rfl ?_
      refine V_slen 26 B hX hbl hbA (v := 6) (by decide +kernel) dL_law_26 ?_
      refine V_bipush 27 B (v := 6) dL_law_27 (by decide +kernel) ?_
      refine V_isub 29 B (v := 0) dL_law_29 (by decide +kernel) ?_
      refine V_icmp_gt_t 30 B 3338 dL_law_30 (by decide) (by decide +kernel) ?_
      exact law_end B (Nat.le_of_ble_eq_true rfl) (Nat.le_of_ble_eq_true rfl) dL_law_3338 dL_law_3339
theorem dL_bind_0 : decode cL_bind 0 = .ok (.aload_n 3, 1) := by decide +kernel
theorem dL_bind_1 : decode cL_bind 1 = .ok (.iconst 0, 1) := by decide +kernel
theorem dL_bind_2 : decode cL_bind 2 = .ok (.aload_n 0, 1) := by decide +kernel
theorem dL_bind_3 : decode cL_bind 3 = .ok (.iload_n 1, 1) := by decide +kernel
theorem dL_bind_4 : decode cL_bind 4 = .ok (.iload_n 2, 1) := by decide +kernel
theorem dL_bind_5 : decode cL_bind 5 = .ok (.invokevirtual 36, 3) := by decide +kernel
theorem glV_RL_36 : GLV RL 36 yX11_bind RX11 cX11_bind 3 (some .int) 2 := ⟨⟨(mT5 204 rfl rfl), (mT5 205 rfl rfl), (mT5 206 rfl rfl), (mT1 1 rfl rfl), (mT5 207 rfl rfl)⟩, by decide +kernel⟩
theorem dL_bind_13 : decode cL_bind 13 = .ok (.astore 4, 2) := by decide +kernel
theorem dL_bind_15 : decode cL_bind 15 = .ok (.iconst 1, 1) := by decide +kernel
theorem dL_bind_16 : decode cL_bind 16 = .ok (.ireturn, 1) := by decide +kernel
set_option maxRecDepth 100000 in
set_option maxHeartbeats 4000000 in
theorem mL_bind_1 (l : Launch) (hl9 : l.stackTraces = false) (D : va_G) (Y : Nat → ClassId) (h0 : Nat) (g0 : Nat) (h1 : Nat) (g1 : Nat) (g2 : Nat) (g3 : Nat) (g4 : Nat) (g5 : Nat) (g6 : Nat) (g7 : Nat) (g8 : Nat) (h2 : Nat) (h3 : Nat) (g9 : Nat) (g10 : Nat) (g11 : Nat) (g12 : Nat) (g13 : Nat) (g14 : Nat) (g15 : Nat) (g16 : Nat) (g17 : Nat) (g18 : Nat) (g19 : Nat) (p0 : Int32) (p1 : Int32) (sz : Nat) : Met l yL_bind (Cond.codeWith yL_bind cL_bind 5 (some .int) [(0, 10, 13, 18)] :: lw_good) (mkR 8 2 12 125) (PreX D Y [.ref h0, .int p0, .int p1, .ref g0] [(h0, oC 12 [.ref h1, .ref g1, .ref g2, .ref g3, .ref g4, .ref g5, .ref g6, .ref g7, .ref g8, .long 0]), (h1, oC 2 [.ref h2, .ref h3, .ref g9, .ref g10, .ref g11, .ref g12, .ref g13, .ref g14, .ref g15, .ref g16, .ref g17, .int 0]), (h2, oC 3 [.ref g18, .int 1]), (h3, oC 3 [.ref g19, .int 0])] sz) (QI D (fun (r : Int32) (u : Unit) => (p0 < 0 ∧ 1 = r) ∨ (¬ p0 < 0 ∧ 1 ≤ p0 ∧ 1 = r) ∨ (p0 = 0 ∧ p1 < 0 ∧ 1 = r) ∨ (p0 = 0 ∧ ¬ p1 < 0 ∧ 1 = r)) (fun (_ : Unit) => [(h0, oC 12 [.ref h1, .ref g1, .ref g2, .ref g3, .ref g4, .ref g5, .ref g6, .ref g7, .ref g8, .long 0]), (h1, oC 2 [.ref h2, .ref h3, .ref g9, .ref g10, .ref g11, .ref g12, .ref g13, .ref g14, .ref g15, .ref g16, .ref g17, .int 0]), (h2, oC 3 [.ref g18, .int 1]), (h3, oC 3 [.ref g19, .int 0])]) (va_A [(h0, oC 12 [.ref h1, .ref g1, .ref g2, .ref g3, .ref g4, .ref g5, .ref g6, .ref g7, .ref g8, .long 0]), (h1, oC 2 [.ref h2, .ref h3, .ref g9, .ref g10, .ref g11, .ref g12, .ref g13, .ref g14, .ref g15, .ref g16, .ref g17, .int 0]), (h2, oC 3 [.ref g18, .int 1]), (h3, oC 3 [.ref g19, .int 0])] sz)) 2 12 (va_A [(h0, oC 12 [.ref h1, .ref g1, .ref g2, .ref g3, .ref g4, .ref g5, .ref g6, .ref g7, .ref g8, .long 0]), (h1, oC 2 [.ref h2, .ref h3, .ref g9, .ref g10, .ref g11, .ref g12, .ref g13, .ref g14, .ref g15, .ref g16, .ref g17, .int 0]), (h2, oC 3 [.ref g18, .int 1]), (h3, oC 3 [.ref g19, .int 0])] sz) :=
  metH_of (by decide +kernel) (Nat.le_of_ble_eq_true rfl) (fun p e s m args below meth c B EB htab hsz => by
    have B : VB p s m args meth c D Y (va_A [(h0, oC 12 [.ref h1, .ref g1, .ref g2, .ref g3, .ref g4, .ref g5, .ref g6, .ref g7, .ref g8, .long 0]), (h1, oC 2 [.ref h2, .ref h3, .ref g9, .ref g10, .ref g11, .ref g12, .ref g13, .ref g14, .ref g15, .ref g16, .ref g17, .int 0]), (h2, oC 3 [.ref g18, .int 1]), (h3, oC 3 [.ref g19, .int 0])] sz) cL_bind 5 RL (some .int) := B
    refine V_aload_n 0 B dL_bind_0 3 rfl ?_
    refine V_iconst 1 B (v := 0) dL_bind_1 (by decide +kernel) ?_
    refine V_aload_n 2 B dL_bind_2 0 rfl ?_
    refine V_iload_n 3 B dL_bind_3 1 rfl ?_
    refine V_iload_n 4 B dL_bind_4 2 rfl ?_
    refine V_xvi 5 B EB (st := [.int 0, .ref g0]) (As := [.int p0, .int p1]) (fun sz => mX11_bind_1 l hl9 D Y (h0) (h1) (g1) (g2) (g3) (g4) (g5) (g6) (g7) (g8) (h2) (h3) (g9) (g10) (g11) (g12) (g13) (g14) (g15) (g16) (g17) (g18) (g19) (p0) (p1) sz) glV_RL_36 ⟨rfl, rfl⟩ ⟨(Nat.le_of_ble_eq_true rfl), (Nat.le_of_ble_eq_true rfl)⟩ ⟨(Nat.le_of_ble_eq_true rfl), (Nat.le_of_ble_eq_true rfl)⟩ [0, 0, 0, 0] rfl 12 0 rfl rfl rfl rfl (Nat.le_of_ble_eq_true rfl) rfl (fun _ _ _ => rfl) (fun _ _ _ => rfl) dL_bind_5 (fun E u0 w0 => ?_) (fun r0 u0 w0 => ?_)
    ·
      rcases w0 with ⟨rfl, k1⟩ | ⟨rfl, k2, k3⟩ | ⟨rfl, k4, k5⟩ | ⟨rfl, k6, k7⟩
      ·
        refine VX_catch 5 B htab [] (0, 10, 13, 18) [] rfl "java/lang/IndexOutOfBoundsException" (fun z hz => nomatch hz) rfl (by decide) (mT5 103 rfl rfl) (EB.2.2.2.1 _ (List.mem_of_getElem? (i := 1) rfl)) 13 rfl (fun q9 => ?_)
        refine V_ws [(h0, oC 12 [.ref h1, .ref g1, .ref g2, .ref g3, .ref g4, .ref g5, .ref g6, .ref g7, .ref g8, .long 0]), (h1, oC 2 [.ref h2, .ref h3, .ref g9, .ref g10, .ref g11, .ref g12, .ref g13, .ref g14, .ref g15, .ref g16, .ref g17, .int 0]), (h2, oC 3 [.ref g18, .int 1]), (h3, oC 3 [.ref g19, .int 0])] rfl ?_
        refine V_astore 13 B (lv2 := [(4, .ref q9), (0, .ref h0), (1, .int p0), (2, .int p1), (3, .ref g0)]) dL_bind_13 (by decide) rfl ?_
        refine V_iconst 15 B (v := 1) dL_bind_15 (by decide +kernel) ?_
        exact V_iret 16 B dL_bind_16 () (Or.inl ⟨k1, rfl⟩) rfl
      ·
        refine VX_catch 5 B htab [] (0, 10, 13, 18) [] rfl "java/lang/IndexOutOfBoundsException" (fun z hz => nomatch hz) rfl (by decide) (mT5 103 rfl rfl) (EB.2.2.2.1 _ (List.mem_of_getElem? (i := 1) rfl)) 13 rfl (fun q9 => ?_)
        refine V_ws [(h0, oC 12 [.ref h1, .ref g1, .ref g2, .ref g3, .ref g4, .ref g5, .ref g6, .ref g7, .ref g8, .long 0]), (h1, oC 2 [.ref h2, .ref h3, .ref g9, .ref g10, .ref g11, .ref g12, .ref g13, .ref g14, .ref g15, .ref g16, .ref g17, .int 0]), (h2, oC 3 [.ref g18, .int 1]), (h3, oC 3 [.ref g19, .int 0])] rfl ?_
        refine V_astore 13 B (lv2 := [(4, .ref q9), (0, .ref h0), (1, .int p0), (2, .int p1), (3, .ref g0)]) dL_bind_13 (by decide) rfl ?_
        refine V_iconst 15 B (v := 1) dL_bind_15 (by decide +kernel) ?_
        exact V_iret 16 B dL_bind_16 () (Or.inr (Or.inl ⟨k2, k3, rfl⟩)) rfl
      ·
        obtain rfl : p0 = 0 := k4
        refine VX_catch 5 B htab [] (0, 10, 13, 18) [] rfl "java/lang/IndexOutOfBoundsException" (fun z hz => nomatch hz) rfl (by decide) (mT5 103 rfl rfl) (EB.2.2.2.1 _ (List.mem_of_getElem? (i := 1) rfl)) 13 rfl (fun q9 => ?_)
        refine V_ws [(h0, oC 12 [.ref h1, .ref g1, .ref g2, .ref g3, .ref g4, .ref g5, .ref g6, .ref g7, .ref g8, .long 0]), (h1, oC 2 [.ref h2, .ref h3, .ref g9, .ref g10, .ref g11, .ref g12, .ref g13, .ref g14, .ref g15, .ref g16, .ref g17, .int 0]), (h2, oC 3 [.ref g18, .int 1]), (h3, oC 3 [.ref g19, .int 0])] rfl ?_
        refine V_astore 13 B (lv2 := [(4, .ref q9), (0, .ref h0), (1, .int 0), (2, .int p1), (3, .ref g0)]) dL_bind_13 (by decide) rfl ?_
        refine V_iconst 15 B (v := 1) dL_bind_15 (by decide +kernel) ?_
        exact V_iret 16 B dL_bind_16 () (Or.inr (Or.inr (Or.inl ⟨rfl, k5, rfl⟩))) rfl
      ·
        obtain rfl : p0 = 0 := k6
        refine VX_catch 5 B htab [] (0, 10, 13, 18) [] rfl "java/lang/IndexOutOfBoundsException" (fun z hz => nomatch hz) rfl (by decide) (mT5 103 rfl rfl) (EB.2.2.2.1 _ (List.mem_of_getElem? (i := 1) rfl)) 13 rfl (fun q9 => ?_)
        refine V_ws [(h0, oC 12 [.ref h1, .ref g1, .ref g2, .ref g3, .ref g4, .ref g5, .ref g6, .ref g7, .ref g8, .long 0]), (h1, oC 2 [.ref h2, .ref h3, .ref g9, .ref g10, .ref g11, .ref g12, .ref g13, .ref g14, .ref g15, .ref g16, .ref g17, .int 0]), (h2, oC 3 [.ref g18, .int 1]), (h3, oC 3 [.ref g19, .int 0])] rfl ?_
        refine V_astore 13 B (lv2 := [(4, .ref q9), (0, .ref h0), (1, .int 0), (2, .int p1), (3, .ref g0)]) dL_bind_13 (by decide) rfl ?_
        refine V_iconst 15 B (v := 1) dL_bind_15 (by decide +kernel) ?_
        exact V_iret 16 B dL_bind_16 () (Or.inr (Or.inr (Or.inr ⟨rfl, k7, rfl⟩))) rfl
    ·
      exact w0.elim)
set_option maxRecDepth 100000 in
set_option maxHeartbeats 4000000 in
theorem mX12_bind_2 (l : Launch) (D : va_G) (Y : Nat → ClassId) (h0 : Nat) (h1 : Nat) (g0 : Nat) (g1 : Nat) (g2 : Nat) (g3 : Nat) (g4 : Nat) (p0 : Int32) (sz : Nat) : Met l yX12_bind (WSm yX12_bind cX12_bind 3 (some .int)) (mkR 2 0 0 46) (PreC D Y [.ref h0, .int 0, .int p0] [(h0, oC 13 [.ref h1, .ref g0, .int 0, .ref g1, .ref g2, .int 0, .int 0, .int 0, .int (-1), .int 0, .int 0, .int 0, .long 0, .ref g3, .ref g4, .int 0, .int 0]), (h1, aI Y 3640 (clB 0 (fun _ => 0)))] sz) (QI D (fun (r : Int32) (u : Unit) => (p0 < 0 ∧ 0 = r) ∨ ((-1) < p0 ∧ 0 = r)) (fun (_ : Unit) => [(h0, oC 13 [.ref h1, .ref g0, .int 1, .ref g1, .ref g2, .int 0, .int 0, .int 0, .int (-1), .int 0, .int 0, .int 0, .long 0, .ref g3, .ref g4, .int 0, .int 0]), (h1, aI Y 3640 (clB 0 (fun _ => 0)))]) (va_A [(h0, oC 13 [.ref h1, .ref g0, .int 0, .ref g1, .ref g2, .int 0, .int 0, .int 0, .int (-1), .int 0, .int 0, .int 0, .long 0, .ref g3, .ref g4, .int 0, .int 0]), (h1, aI Y 3640 (clB 0 (fun _ => 0)))] sz)) 0 0 (va_A [(h0, oC 13 [.ref h1, .ref g0, .int 0, .ref g1, .ref g2, .int 0, .int 0, .int 0, .int (-1), .int 0, .int 0, .int 0, .long 0, .ref g3, .ref g4, .int 0, .int 0]), (h1, aI Y 3640 (clB 0 (fun _ => 0)))] sz) :=
  met_of (by decide +kernel) (Nat.le_of_ble_eq_true rfl) (fun p e s m args below meth c B hin hsz => by
    have B : VB p s m args meth c D Y (va_A [(h0, oC 13 [.ref h1, .ref g0, .int 0, .ref g1, .ref g2, .int 0, .int 0, .int 0, .int (-1), .int 0, .int 0, .int 0, .long 0, .ref g3, .ref g4, .int 0, .int 0]), (h1, aI Y 3640 (clB 0 (fun _ => 0)))] sz) cX12_bind 3 RX12 (some .int) := B
    refine V_aload_n 0 B dX12_bind_0 0 rfl ?_
    refine V_iconst 1 B (v := 0) dX12_bind_1 (by decide +kernel) ?_
    refine V_put 2 B gp_RX12_38 0 rfl (Nat.le_of_ble_eq_true rfl) rfl rfl dX12_bind_2 [(h0, oC 13 [.ref h1, .ref g0, .int 0, .ref g1, .ref g2, .int 0, .int 0, .int 0, .int (-1), .int 0, .int 0, .int 0, .long 0, .ref g3, .ref g4, .int 0, .int 0]), (h1, aI Y 3640 (clB 0 (fun _ => 0)))] rfl ?_
    refine V_aload_n 5 B dX12_bind_5 0 rfl ?_
    refine V_aload_n 6 B dX12_bind_6 0 rfl ?_
    refine V_iload_n 7 B dX12_bind_7 1 rfl ?_
    refine V_cvi 8 B (st := [.ref h0]) (As := [.int 0]) (fun sz => mX12_isMode_2 l D Y (h0) (h1) (g0) (g1) (g2) (g3) (g4) sz) glV_RX12_91 ⟨rfl, rfl⟩ ⟨(Nat.le_of_ble_eq_true rfl), (Nat.le_of_ble_eq_true rfl)⟩ ⟨(Nat.le_of_ble_eq_true rfl), (Nat.le_of_ble_eq_true rfl)⟩ [0, 0] rfl 13 0 rfl rfl rfl rfl (Nat.le_of_ble_eq_true rfl) rfl (fun _ _ _ => rfl) dX12_bind_8 (fun r0 u0 w0 => ?_)
    obtain rfl := w0
    refine V_ws [(h0, oC 13 [.ref h1, .ref g0, .int 0, .ref g1, .ref g2, .int 0, .int 0, .int 0, .int (-1), .int 0, .int 0, .int 0, .long 0, .ref g3, .ref g4, .int 0, .int 0]), (h1, aI Y 3640 (clB 0 (fun _ => 0)))] rfl ?_
    refine V_if_eq_f 11 B 22 dX12_bind_11 (by decide) (by decide +kernel) ?_
    refine V_aload_n 14 B dX12_bind_14 0 rfl ?_
    refine V_iload_n 15 B dX12_bind_15 2 rfl ?_
    refine V_cvi 16 B (st := [.ref h0]) (As := [.int p0]) (fun sz => mX12_isCommand_1 l D Y (h0) (h1) (g0) (g1) (g2) (g3) (g4) (p0) sz) glV_RX12_99 ⟨rfl, rfl⟩ ⟨(Nat.le_of_ble_eq_true rfl), (Nat.le_of_ble_eq_true rfl)⟩ ⟨(Nat.le_of_ble_eq_true rfl), (Nat.le_of_ble_eq_true rfl)⟩ [0, 0] rfl 13 0 rfl rfl rfl rfl (Nat.le_of_ble_eq_true rfl) rfl (fun _ _ _ => rfl) dX12_bind_16 (fun r1 u1 w1 => ?_)
    rcases w1 with ⟨k2, rfl⟩ | ⟨k3, rfl⟩
    ·
      refine V_ws [(h0, oC 13 [.ref h1, .ref g0, .int 0, .ref g1, .ref g2, .int 0, .int 0, .int 0, .int (-1), .int 0, .int 0, .int 0, .long 0, .ref g3, .ref g4, .int 0, .int 0]), (h1, aI Y 3640 (clB 0 (fun _ => 0)))] rfl ?_
      refine V_if_ne_f 19 B 26 dX12_bind_19 (by decide) (by decide +kernel) ?_
      refine V_iconst 22 B (v := 1) dX12_bind_22 (by decide +kernel) ?_
      refine V_goto 23 B 27 dX12_bind_23 (by decide) ?_
      refine V_iconst 27 B (v := 1) dX12_bind_27 (by decide +kernel) ?_
      refine V_cvi 28 B (st := []) (As := [.int 1, .int 1]) (fun sz => mX12_throwsIf_1 l D Y (h0) (h1) (g0) (g1) (g2) (g3) (g4) sz) glV_RX12_69 ⟨rfl, rfl⟩ ⟨(Nat.le_of_ble_eq_true rfl), (Nat.le_of_ble_eq_true rfl)⟩ ⟨(Nat.le_of_ble_eq_true rfl), (Nat.le_of_ble_eq_true rfl)⟩ [0] rfl 13 0 rfl rfl rfl rfl (Nat.le_of_ble_eq_true rfl) rfl (fun _ _ _ => rfl) dX12_bind_28 (fun r4 u4 w4 => ?_)
      obtain rfl := w4
      refine V_ws [(h0, oC 13 [.ref h1, .ref g0, .int 1, .ref g1, .ref g2, .int 0, .int 0, .int 0, .int (-1), .int 0, .int 0, .int 0, .long 0, .ref g3, .ref g4, .int 0, .int 0]), (h1, aI Y 3640 (clB 0 (fun _ => 0)))] rfl ?_
      refine V_if_eq_f 31 B 36 dX12_bind_31 (by decide) (by decide +kernel) ?_
      refine V_iconst 34 B (v := 0) dX12_bind_34 (by decide +kernel) ?_
      exact V_iret 35 B dX12_bind_35 () (Or.inl ⟨k2, rfl⟩) rfl
    ·
      refine V_ws [(h0, oC 13 [.ref h1, .ref g0, .int 0, .ref g1, .ref g2, .int 0, .int 0, .int 0, .int (-1), .int 0, .int 0, .int 0, .long 0, .ref g3, .ref g4, .int 0, .int 0]), (h1, aI Y 3640 (clB 0 (fun _ => 0)))] rfl ?_
      refine V_if_ne_f 19 B 26 dX12_bind_19 (by decide) (by decide +kernel) ?_
      refine V_iconst 22 B (v := 1) dX12_bind_22 (by decide +kernel) ?_
      refine V_goto 23 B 27 dX12_bind_23 (by decide) ?_
      refine V_iconst 27 B (v := 1) dX12_bind_27 (by decide +kernel) ?_
      refine V_cvi 28 B (st := []) (As := [.int 1, .int 1]) (fun sz => mX12_throwsIf_1 l D Y (h0) (h1) (g0) (g1) (g2) (g3) (g4) sz) glV_RX12_69 ⟨rfl, rfl⟩ ⟨(Nat.le_of_ble_eq_true rfl), (Nat.le_of_ble_eq_true rfl)⟩ ⟨(Nat.le_of_ble_eq_true rfl), (Nat.le_of_ble_eq_true rfl)⟩ [0] rfl 13 0 rfl rfl rfl rfl (Nat.le_of_ble_eq_true rfl) rfl (fun _ _ _ => rfl) dX12_bind_28 (fun r5 u5 w5 => ?_)
      obtain rfl := w5
      refine V_ws [(h0, oC 13 [.ref h1, .ref g0, .int 1, .ref g1, .ref g2, .int 0, .int 0, .int 0, .int (-1), .int 0, .int 0, .int 0, .long 0, .ref g3, .ref g4, .int 0, .int 0]), (h1, aI Y 3640 (clB 0 (fun _ => 0)))] rfl ?_
      refine V_if_eq_f 31 B 36 dX12_bind_31 (by decide) (by decide +kernel) ?_
      refine V_iconst 34 B (v := 0) dX12_bind_34 (by decide +kernel) ?_
      exact V_iret 35 B dX12_bind_35 () (Or.inr ⟨k3, rfl⟩) rfl)
theorem dL_law_953 : decode cL_law 953 = .ok (.aload_n 1, 1) := by decide +kernel
theorem dL_law_954 : decode cL_law 954 = .ok (.aload_n 0, 1) := by decide +kernel
theorem dL_law_955 : decode cL_law 955 = .ok (.iload 4, 2) := by decide +kernel
theorem dL_law_957 : decode cL_law 957 = .ok (.iconst 1, 1) := by decide +kernel
theorem dL_law_958 : decode cL_law 958 = .ok (.iadd, 1) := by decide +kernel
theorem dL_law_959 : decode cL_law 959 = .ok (.iaload, 1) := by decide +kernel
theorem dL_law_960 : decode cL_law 960 = .ok (.aload_n 0, 1) := by decide +kernel
theorem dL_law_961 : decode cL_law 961 = .ok (.iload 4, 2) := by decide +kernel
theorem dL_law_963 : decode cL_law 963 = .ok (.iconst 2, 1) := by decide +kernel
theorem dL_law_964 : decode cL_law 964 = .ok (.iadd, 1) := by decide +kernel
theorem dL_law_965 : decode cL_law 965 = .ok (.iaload, 1) := by decide +kernel
theorem dL_law_966 : decode cL_law 966 = .ok (.aload_n 3, 1) := by decide +kernel
theorem dL_law_967 : decode cL_law 967 = .ok (.invokestatic 216, 3) := by decide +kernel
theorem glH_RL_216 : GLH RL 216 yL_bind cL_bind 5 (some .int) [(0, 10, 13, 18)] 4 := ⟨⟨(mT5 201 rfl rfl), (mT5 202 rfl rfl), (mT1 0 rfl rfl), (mT5 203 rfl rfl)⟩, by decide +kernel⟩
theorem dL_law_970 : decode cL_law 970 = .ok (.istore 5, 2) := by decide +kernel
theorem dL_law_972 : decode cL_law 972 = .ok (.aload_n 2, 1) := by decide +kernel
theorem dL_law_973 : decode cL_law 973 = .ok (.aload_n 0, 1) := by decide +kernel
theorem dL_law_974 : decode cL_law 974 = .ok (.iload 4, 2) := by decide +kernel
theorem dL_law_976 : decode cL_law 976 = .ok (.iconst 1, 1) := by decide +kernel
theorem dL_law_977 : decode cL_law 977 = .ok (.iadd, 1) := by decide +kernel
theorem dL_law_978 : decode cL_law 978 = .ok (.iaload, 1) := by decide +kernel
theorem dL_law_979 : decode cL_law 979 = .ok (.aload_n 0, 1) := by decide +kernel
theorem dL_law_980 : decode cL_law 980 = .ok (.iload 4, 2) := by decide +kernel
theorem dL_law_982 : decode cL_law 982 = .ok (.iconst 2, 1) := by decide +kernel
theorem dL_law_983 : decode cL_law 983 = .ok (.iadd, 1) := by decide +kernel
theorem dL_law_984 : decode cL_law 984 = .ok (.iaload, 1) := by decide +kernel
theorem dL_law_985 : decode cL_law 985 = .ok (.invokevirtual 218, 3) := by decide +kernel
theorem glV_RL_218 : GLV RL 218 yX12_bind RX12 cX12_bind 3 (some .int) 2 := ⟨⟨(mT8 100 rfl rfl), (mT8 101 rfl rfl), (mT8 102 rfl rfl), (mT1 13 rfl rfl), (mT8 103 rfl rfl)⟩, by decide +kernel⟩
theorem dL_law_988 : decode cL_law 988 = .ok (.istore 6, 2) := by decide +kernel
theorem dL_law_990 : decode cL_law 990 = .ok (.aload_n 2, 1) := by decide +kernel
theorem dL_law_991 : decode cL_law 991 = .ok (.invokevirtual 182, 3) := by decide +kernel
theorem dL_law_994 : decode cL_law 994 = .ok (.iload 5, 2) := by decide +kernel
theorem dL_law_996 : decode cL_law 996 = .ok (.if_icmp .eq 5, 3) := by decide +kernel
theorem dL_law_1001 : decode cL_law 1001 = .ok (.iload 5, 2) := by decide +kernel
theorem dL_law_1003 : decode cL_law 1003 = .ok (.ifCond .ne 15, 3) := by decide +kernel
theorem dL_law_1018 : decode cL_law 1018 = .ok (.goto 2314, 3) := by decide +kernel
set_option maxRecDepth 100000 in
set_option maxHeartbeats 4000000 in
theorem law_c16 {p : Program} {l : Launch} {e : Env} {s : State} {m : MethodId} {below : List Frame} {meth : Method} {c : Code} {b : Nat} {xs : Nat → Int32} {D : va_G} {Y : Nat → ClassId} (B : VB p s m #[Value.ref b] meth c D Y (fun q => s.heap.size ≤ q) cL_law 8 RL ret) (EB : EX (fun q => s.heap.size ≤ q) s s.heap) (hl9 : l.stackTraces = false) (hX : va_X b 6 xs s s.heap) (hbl : b < s.heap.size) (hbA : ¬ (fun q => s.heap.size ≤ q) b) (x0 x1 x30 x59 x88 x117 x126 x127 x129 x132 x2 x4 x6 x8 x10 x12 x14 x16 x18 x20 x27 x3 x5 m0 m1 m2 m3 m4 m5 m6 o0 : Nat) (p1 p2 : Int32) (e1 : xs 1 = p1) (e2 : xs 2 = p2) : V p l e room_1 s m #[Value.ref b] below meth c D (fun q => s.heap.size ≤ q) 8 149 10574 (lw_Z below #[Value.ref b] s) 953 [(4, .int 0), (3, .ref o0), (2, .ref m0), (1, .ref x0), (0, .ref b)] [] [(x0, oC 12 [.ref x1, .ref x30, .ref x59, .ref x88, .ref x117, .ref x126, .ref x127, .ref x129, .ref x132, .long 0]), (x1, oC 2 [.ref x2, .ref x4, .ref x6, .ref x8, .ref x10, .ref x12, .ref x14, .ref x16, .ref x18, .ref x20, .ref x27, .int 0]), (x2, oC 3 [.ref x3, .int 1]), (x4, oC 3 [.ref x5, .int 0]), (m0, oC 13 [.ref m1, .ref m2, .int 0, .ref m3, .ref m4, .int 0, .int 0, .int 0, .int (-1), .int 0, .int 0, .int 0, .long 0, .ref m5, .ref m6, .int 0, .int 0]), (m1, aI Y 3640 (clB 0 (fun _ => 0)))] := by
  refine V_aload_n 953 B dL_law_953 3 rfl ?_
  refine V_aload_n 954 B dL_law_954 4 rfl ?_
  refine V_iload 955 B dL_law_955 0 rfl ?_
  refine V_iconst 957 B (v := 1) dL_law_957 (by decide +kernel) ?_
  refine V_iadd 958 B (v := 1) dL_law_958 (by decide +kernel) ?_
  refine V_sld 959 B hX hbl hbA (v := p1) (vpin _ _ (by decide +kernel)) dL_law_959 e1 ?_
  refine V_aload_n 960 B dL_law_960 4 rfl ?_
  refine V_iload 961 B dL_law_961 0 rfl ?_
  refine V_iconst 963 B (v := 2) dL_law_963 (by decide +kernel) ?_
  refine V_iadd 964 B (v := 2) dL_law_964 (by decide +kernel) ?_
  refine V_sld 965 B hX hbl hbA (v := p2) (vpin _ _ (by decide +kernel)) dL_law_965 e2 ?_
  refine V_aload_n 966 B dL_law_966 1 rfl ?_
  refine V_hsi 967 B EB (st := []) (As := [.ref x0, .int p1, .int p2, .ref o0]) (fun sz => mL_bind_1 l hl9 D Y (x0) (o0) (x1) (x30) (x59) (x88) (x117) (x126) (x127) (x129) (x132) (x2) (x4) (x6) (x8) (x10) (x12) (x14) (x16) (x18) (x20) (x27) (x3) (x5) (p1) (p2) sz) glH_RL_216 ⟨rfl, rfl⟩ ⟨(Nat.le_of_ble_eq_true rfl), (Nat.le_of_ble_eq_true rfl)⟩ ⟨(Nat.le_of_ble_eq_true rfl), (Nat.le_of_ble_eq_true rfl)⟩ [0, 0, 0, 0] rfl rfl (Nat.le_of_ble_eq_true rfl) rfl (fun _ _ _ => rfl) dL_law_967 (fun r0 u0 w0 => ?_)
  rcases w0 with ⟨k1, rfl⟩ | ⟨k2, k3, rfl⟩ | ⟨k4, k5, rfl⟩ | ⟨k6, k7, rfl⟩
  ·
    refine V_ws [(x0, oC 12 [.ref x1, .ref x30, .ref x59, .ref x88, .ref x117, .ref x126, .ref x127, .ref x129, .ref x132, .long 0]), (x1, oC 2 [.ref x2, .ref x4, .ref x6, .ref x8, .ref x10, .ref x12, .ref x14, .ref x16, .ref x18, .ref x20, .ref x27, .int 0]), (x2, oC 3 [.ref x3, .int 1]), (x4, oC 3 [.ref x5, .int 0]), (m0, oC 13 [.ref m1, .ref m2, .int 0, .ref m3, .ref m4, .int 0, .int 0, .int 0, .int (-1), .int 0, .int 0, .int 0, .long 0, .ref m5, .ref m6, .int 0, .int 0]), (m1, aI Y 3640 (clB 0 (fun _ => 0)))] rfl ?_
    refine V_istore 970 B (lv2 := [(5, .int 1), (4, .int 0), (3, .ref o0), (2, .ref m0), (1, .ref x0), (0, .ref b)]) dL_law_970 (by decide) rfl ?_
    refine V_aload_n 972 B dL_law_972 3 rfl ?_
    refine V_aload_n 973 B dL_law_973 5 rfl ?_
    refine V_iload 974 B dL_law_974 1 rfl ?_
    refine V_iconst 976 B (v := 1) dL_law_976 (by decide +kernel) ?_
    refine V_iadd 977 B (v := 1) dL_law_977 (by decide +kernel) ?_
    refine V_sld 978 B hX hbl hbA (v := p1) (vpin _ _ (by decide +kernel)) dL_law_978 e1 ?_
    refine V_aload_n 979 B dL_law_979 5 rfl ?_
    refine V_iload 980 B dL_law_980 1 rfl ?_
    refine V_iconst 982 B (v := 2) dL_law_982 (by decide +kernel) ?_
    refine V_iadd 983 B (v := 2) dL_law_983 (by decide +kernel) ?_
    refine V_sld 984 B hX hbl hbA (v := p2) (vpin _ _ (by decide +kernel)) dL_law_984 e2 ?_
    refine V_cvi 985 B (st := []) (As := [.int p1, .int p2]) (fun sz => mX12_bind_1 l D Y (m0) (m1) (m2) (m3) (m4) (m5) (m6) (p1) (p2) sz) glV_RL_218 ⟨rfl, rfl⟩ ⟨(Nat.le_of_ble_eq_true rfl), (Nat.le_of_ble_eq_true rfl)⟩ ⟨(Nat.le_of_ble_eq_true rfl), (Nat.le_of_ble_eq_true rfl)⟩ [4, 0] rfl 13 0 rfl rfl rfl rfl (Nat.le_of_ble_eq_true rfl) rfl (fun _ _ _ => rfl) dL_law_985 (fun r8 u8 w8 => ?_)
    rcases w8 with ⟨k9, k10, rfl⟩ | ⟨k11, k12, rfl⟩ | ⟨k13, rfl⟩ | ⟨k14, rfl⟩
    ·
      refine V_ws [(x0, oC 12 [.ref x1, .ref x30, .ref x59, .ref x88, .ref x117, .ref x126, .ref x127, .ref x129, .ref x132, .long 0]), (x1, oC 2 [.ref x2, .ref x4, .ref x6, .ref x8, .ref x10, .ref x12, .ref x14, .ref x16, .ref x18, .ref x20, .ref x27, .int 0]), (x2, oC 3 [.ref x3, .int 1]), (x4, oC 3 [.ref x5, .int 0]), (m0, oC 13 [.ref m1, .ref m2, .int 1, .ref m3, .ref m4, .int 0, .int 0, .int 0, .int (-1), .int 0, .int 0, .int 0, .long 0, .ref m5, .ref m6, .int 0, .int 0]), (m1, aI Y 3640 (clB 0 (fun _ => 0)))] rfl ?_
      exact absurd k9 (q_neh (b_lt k1 (n := (-1)) (by decide +kernel)) (by decide +kernel))
    ·
      refine V_ws [(x0, oC 12 [.ref x1, .ref x30, .ref x59, .ref x88, .ref x117, .ref x126, .ref x127, .ref x129, .ref x132, .long 0]), (x1, oC 2 [.ref x2, .ref x4, .ref x6, .ref x8, .ref x10, .ref x12, .ref x14, .ref x16, .ref x18, .ref x20, .ref x27, .int 0]), (x2, oC 3 [.ref x3, .int 1]), (x4, oC 3 [.ref x5, .int 0]), (m0, oC 13 [.ref m1, .ref m2, .int 1, .ref m3, .ref m4, .int 0, .int 0, .int 0, .int (-1), .int 0, .int 0, .int 0, .long 0, .ref m5, .ref m6, .int 0, .int 0]), (m1, aI Y 3640 (clB 0 (fun _ => 0)))] rfl ?_
      exact absurd k11 (q_neh (b_lt k1 (n := (-1)) (by decide +kernel)) (by decide +kernel))
    ·
      refine V_ws [(x0, oC 12 [.ref x1, .ref x30, .ref x59, .ref x88, .ref x117, .ref x126, .ref x127, .ref x129, .ref x132, .long 0]), (x1, oC 2 [.ref x2, .ref x4, .ref x6, .ref x8, .ref x10, .ref x12, .ref x14, .ref x16, .ref x18, .ref x20, .ref x27, .int 0]), (x2, oC 3 [.ref x3, .int 1]), (x4, oC 3 [.ref x5, .int 0]), (m0, oC 13 [.ref m1, .ref m2, .int 1, .ref m3, .ref m4, .int 0, .int 0, .int 0, .int (-1), .int 0, .int 0, .int 0, .long 0, .ref m5, .ref m6, .int 0, .int 0]), (m1, aI Y 3640 (clB 0 (fun _ => 0)))] rfl ?_
      refine V_istore 988 B (lv2 := [(6, .int 0), (5, .int 1), (4, .int 0), (3, .ref o0), (2, .ref m0), (1, .ref x0), (0, .ref b)]) dL_law_988 (by decide) rfl ?_
      refine V_aload_n 990 B dL_law_990 4 rfl ?_
      refine V_cvi 991 B (st := []) (As := []) (fun sz => mX12_thrown_2 l D Y (m0) (m1) (m2) (m3) (m4) (m5) (m6) sz) glV_RL_182 ⟨rfl, rfl⟩ ⟨(Nat.le_of_ble_eq_true rfl), (Nat.le_of_ble_eq_true rfl)⟩ ⟨(Nat.le_of_ble_eq_true rfl), (Nat.le_of_ble_eq_true rfl)⟩ [4] rfl 13 0 rfl rfl rfl rfl (Nat.le_of_ble_eq_true rfl) rfl (fun _ _ _ => rfl) dL_law_991 (fun r15 u15 w15 => ?_)
      obtain rfl := w15
      refine V_ws [(x0, oC 12 [.ref x1, .ref x30, .ref x59, .ref x88, .ref x117, .ref x126, .ref x127, .ref x129, .ref x132, .long 0]), (x1, oC 2 [.ref x2, .ref x4, .ref x6, .ref x8, .ref x10, .ref x12, .ref x14, .ref x16, .ref x18, .ref x20, .ref x27, .int 0]), (x2, oC 3 [.ref x3, .int 1]), (x4, oC 3 [.ref x5, .int 0]), (m0, oC 13 [.ref m1, .ref m2, .int 1, .ref m3, .ref m4, .int 0, .int 0, .int 0, .int (-1), .int 0, .int 0, .int 0, .long 0, .ref m5, .ref m6, .int 0, .int 0]), (m1, aI Y 3640 (clB 0 (fun _ => 0)))] rfl ?_
      refine V_iload 994 B dL_law_994 1 rfl ?_
      refine V_icmp_eq_t 996 B 1001 dL_law_996 (by decide) (by decide +kernel) ?_
      refine V_iload 1001 B dL_law_1001 1 rfl ?_
      refine V_if_ne_t 1003 B 1018 dL_law_1003 (by decide) (by decide +kernel) ?_
      refine V_goto 1018 B 3332 dL_law_1018 (by decide) ?_
      refine V_iinc 3332 B (v := 6) (lv2 := [(4, .int 6), (6, .int 0), (5, .int 1), (3, .ref o0), (2, .ref m0), (1, .ref x0), (0, .ref b)]) dL_law_3332 2 rfl (by decide +kernel) (by decide) rfl ?_
      refine V_goto 3335 B 23 dL_law_3335 (by decide) ?_
      refine V_iload 23 B dL_law_23 0 rfl ?_
      refine V_aload_n 25 B dL_law_25 6 rfl ?_
      refine V_slen 26 B hX hbl hbA (v := 6) (by decide +kernel) dL_law_26 ?_
      refine V_bipush 27 B (v := 6) dL_law_27 (by decide +kernel) ?_
      refine V_isub 29 B (v := 0) dL_law_29 (by decide +kernel) ?_
      refine V_icmp_gt_t 30 B 3338 dL_law_30 (by decide) (by decide +kernel) ?_
      exact law_end B (Nat.le_of_ble_eq_true rfl) (Nat.le_of_ble_eq_true rfl) dL_law_3338 dL_law_3339
    ·
      refine V_ws [(x0, oC 12 [.ref x1, .ref x30, .ref x59, .ref x88, .ref x117, .ref x126, .ref x127, .ref x129, .ref x132, .long 0]), (x1, oC 2 [.ref x2, .ref x4, .ref x6, .ref x8, .ref x10, .ref x12, .ref x14, .ref x16, .ref x18, .ref x20, .ref x27, .int 0]), (x2, oC 3 [.ref x3, .int 1]), (x4, oC 3 [.ref x5, .int 0]), (m0, oC 13 [.ref m1, .ref m2, .int 1, .ref m3, .ref m4, .int 0, .int 0, .int 0, .int (-1), .int 0, .int 0, .int 0, .long 0, .ref m5, .ref m6, .int 0, .int 0]), (m1, aI Y 3640 (clB 0 (fun _ => 0)))] rfl ?_
      exact (q_abs (b_gt k14 (n := 1) (by decide +kernel)) (b_lt k1 (n := (-1)) (by decide +kernel)) (by decide +kernel)).elim
  ·
    refine V_ws [(x0, oC 12 [.ref x1, .ref x30, .ref x59, .ref x88, .ref x117, .ref x126, .ref x127, .ref x129, .ref x132, .long 0]), (x1, oC 2 [.ref x2, .ref x4, .ref x6, .ref x8, .ref x10, .ref x12, .ref x14, .ref x16, .ref x18, .ref x20, .ref x27, .int 0]), (x2, oC 3 [.ref x3, .int 1]), (x4, oC 3 [.ref x5, .int 0]), (m0, oC 13 [.ref m1, .ref m2, .int 0, .ref m3, .ref m4, .int 0, .int 0, .int 0, .int (-1), .int 0, .int 0, .int 0, .long 0, .ref m5, .ref m6, .int 0, .int 0]), (m1, aI Y 3640 (clB 0 (fun _ => 0)))] rfl ?_
    refine V_istore 970 B (lv2 := [(5, .int 1), (4, .int 0), (3, .ref o0), (2, .ref m0), (1, .ref x0), (0, .ref b)]) dL_law_970 (by decide) rfl ?_
    refine V_aload_n 972 B dL_law_972 3 rfl ?_
    refine V_aload_n 973 B dL_law_973 5 rfl ?_
    refine V_iload 974 B dL_law_974 1 rfl ?_
    refine V_iconst 976 B (v := 1) dL_law_976 (by decide +kernel) ?_
    refine V_iadd 977 B (v := 1) dL_law_977 (by decide +kernel) ?_
    refine V_sld 978 B hX hbl hbA (v := p1) (vpin _ _ (by decide +kernel)) dL_law_978 e1 ?_
    refine V_aload_n 979 B dL_law_979 5 rfl ?_
    refine V_iload 980 B dL_law_980 1 rfl ?_
    refine V_iconst 982 B (v := 2) dL_law_982 (by decide +kernel) ?_
    refine V_iadd 983 B (v := 2) dL_law_983 (by decide +kernel) ?_
    refine V_sld 984 B hX hbl hbA (v := p2) (vpin _ _ (by decide +kernel)) dL_law_984 e2 ?_
    refine V_cvi 985 B (st := []) (As := [.int p1, .int p2]) (fun sz => mX12_bind_1 l D Y (m0) (m1) (m2) (m3) (m4) (m5) (m6) (p1) (p2) sz) glV_RL_218 ⟨rfl, rfl⟩ ⟨(Nat.le_of_ble_eq_true rfl), (Nat.le_of_ble_eq_true rfl)⟩ ⟨(Nat.le_of_ble_eq_true rfl), (Nat.le_of_ble_eq_true rfl)⟩ [4, 0] rfl 13 0 rfl rfl rfl rfl (Nat.le_of_ble_eq_true rfl) rfl (fun _ _ _ => rfl) dL_law_985 (fun r16 u16 w16 => ?_)
    rcases w16 with ⟨k17, k18, rfl⟩ | ⟨k19, k20, rfl⟩ | ⟨k21, rfl⟩ | ⟨k22, rfl⟩
    ·
      refine V_ws [(x0, oC 12 [.ref x1, .ref x30, .ref x59, .ref x88, .ref x117, .ref x126, .ref x127, .ref x129, .ref x132, .long 0]), (x1, oC 2 [.ref x2, .ref x4, .ref x6, .ref x8, .ref x10, .ref x12, .ref x14, .ref x16, .ref x18, .ref x20, .ref x27, .int 0]), (x2, oC 3 [.ref x3, .int 1]), (x4, oC 3 [.ref x5, .int 0]), (m0, oC 13 [.ref m1, .ref m2, .int 1, .ref m3, .ref m4, .int 0, .int 0, .int 0, .int (-1), .int 0, .int 0, .int 0, .long 0, .ref m5, .ref m6, .int 0, .int 0]), (m1, aI Y 3640 (clB 0 (fun _ => 0)))] rfl ?_
      exact absurd k17 (q_nel (b_ge k3 (n := 1) (by decide +kernel)) (by decide +kernel))
    ·
      refine V_ws [(x0, oC 12 [.ref x1, .ref x30, .ref x59, .ref x88, .ref x117, .ref x126, .ref x127, .ref x129, .ref x132, .long 0]), (x1, oC 2 [.ref x2, .ref x4, .ref x6, .ref x8, .ref x10, .ref x12, .ref x14, .ref x16, .ref x18, .ref x20, .ref x27, .int 0]), (x2, oC 3 [.ref x3, .int 1]), (x4, oC 3 [.ref x5, .int 0]), (m0, oC 13 [.ref m1, .ref m2, .int 1, .ref m3, .ref m4, .int 0, .int 0, .int 0, .int (-1), .int 0, .int 0, .int 0, .long 0, .ref m5, .ref m6, .int 0, .int 0]), (m1, aI Y 3640 (clB 0 (fun _ => 0)))] rfl ?_
      exact absurd k19 (q_nel (b_ge k3 (n := 1) (by decide +kernel)) (by decide +kernel))
    ·
      refine V_ws [(x0, oC 12 [.ref x1, .ref x30, .ref x59, .ref x88, .ref x117, .ref x126, .ref x127, .ref x129, .ref x132, .long 0]), (x1, oC 2 [.ref x2, .ref x4, .ref x6, .ref x8, .ref x10, .ref x12, .ref x14, .ref x16, .ref x18, .ref x20, .ref x27, .int 0]), (x2, oC 3 [.ref x3, .int 1]), (x4, oC 3 [.ref x5, .int 0]), (m0, oC 13 [.ref m1, .ref m2, .int 1, .ref m3, .ref m4, .int 0, .int 0, .int 0, .int (-1), .int 0, .int 0, .int 0, .long 0, .ref m5, .ref m6, .int 0, .int 0]), (m1, aI Y 3640 (clB 0 (fun _ => 0)))] rfl ?_
      exact (q_abs (b_ge k3 (n := 1) (by decide +kernel)) (b_lt k21 (n := (-1)) (by decide +kernel)) (by decide +kernel)).elim
    ·
      refine V_ws [(x0, oC 12 [.ref x1, .ref x30, .ref x59, .ref x88, .ref x117, .ref x126, .ref x127, .ref x129, .ref x132, .long 0]), (x1, oC 2 [.ref x2, .ref x4, .ref x6, .ref x8, .ref x10, .ref x12, .ref x14, .ref x16, .ref x18, .ref x20, .ref x27, .int 0]), (x2, oC 3 [.ref x3, .int 1]), (x4, oC 3 [.ref x5, .int 0]), (m0, oC 13 [.ref m1, .ref m2, .int 1, .ref m3, .ref m4, .int 0, .int 0, .int 0, .int (-1), .int 0, .int 0, .int 0, .long 0, .ref m5, .ref m6, .int 0, .int 0]), (m1, aI Y 3640 (clB 0 (fun _ => 0)))] rfl ?_
      refine V_istore 988 B (lv2 := [(6, .int 0), (5, .int 1), (4, .int 0), (3, .ref o0), (2, .ref m0), (1, .ref x0), (0, .ref b)]) dL_law_988 (by decide) rfl ?_
      refine V_aload_n 990 B dL_law_990 4 rfl ?_
      refine V_cvi 991 B (st := []) (As := []) (fun sz => mX12_thrown_2 l D Y (m0) (m1) (m2) (m3) (m4) (m5) (m6) sz) glV_RL_182 ⟨rfl, rfl⟩ ⟨(Nat.le_of_ble_eq_true rfl), (Nat.le_of_ble_eq_true rfl)⟩ ⟨(Nat.le_of_ble_eq_true rfl), (Nat.le_of_ble_eq_true rfl)⟩ [4] rfl 13 0 rfl rfl rfl rfl (Nat.le_of_ble_eq_true rfl) rfl (fun _ _ _ => rfl) dL_law_991 (fun r23 u23 w23 => ?_)
      obtain rfl := w23
      refine V_ws [(x0, oC 12 [.ref x1, .ref x30, .ref x59, .ref x88, .ref x117, .ref x126, .ref x127, .ref x129, .ref x132, .long 0]), (x1, oC 2 [.ref x2, .ref x4, .ref x6, .ref x8, .ref x10, .ref x12, .ref x14, .ref x16, .ref x18, .ref x20, .ref x27, .int 0]), (x2, oC 3 [.ref x3, .int 1]), (x4, oC 3 [.ref x5, .int 0]), (m0, oC 13 [.ref m1, .ref m2, .int 1, .ref m3, .ref m4, .int 0, .int 0, .int 0, .int (-1), .int 0, .int 0, .int 0, .long 0, .ref m5, .ref m6, .int 0, .int 0]), (m1, aI Y 3640 (clB 0 (fun _ => 0)))] rfl ?_
      refine V_iload 994 B dL_law_994 1 rfl ?_
      refine V_icmp_eq_t 996 B 1001 dL_law_996 (by decide) (by decide +kernel) ?_
      refine V_iload 1001 B dL_law_1001 1 rfl ?_
      refine V_if_ne_t 1003 B 1018 dL_law_1003 (by decide) (by decide +kernel) ?_
      refine V_goto 1018 B 3332 dL_law_1018 (by decide) ?_
      refine V_iinc 3332 B (v := 6) (lv2 := [(4, .int 6), (6, .int 0), (5, .int 1), (3, .ref o0), (2, .ref m0), (1, .ref x0), (0, .ref b)]) dL_law_3332 2 rfl (by decide +kernel) (by decide) rfl ?_
      refine V_goto 3335 B 23 dL_law_3335 (by decide) ?_
      refine V_iload 23 B dL_law_23 0 rfl ?_
      refine V_aload_n 25 B dL_law_25 6 rfl ?_
      refine V_slen 26 B hX hbl hbA (v := 6) (by decide +kernel) dL_law_26 ?_
      refine V_bipush 27 B (v := 6) dL_law_27 (by decide +kernel) ?_
      refine V_isub 29 B (v := 0) dL_law_29 (by decide +kernel) ?_
      refine V_icmp_gt_t 30 B 3338 dL_law_30 (by decide) (by decide +kernel) ?_
      exact law_end B (Nat.le_of_ble_eq_true rfl) (Nat.le_of_ble_eq_true rfl) dL_law_3338 dL_law_3339
  ·
    refine V_ws [(x0, oC 12 [.ref x1, .ref x30, .ref x59, .ref x88, .ref x117, .ref x126, .ref x127, .ref x129, .ref x132, .long 0]), (x1, oC 2 [.ref x2, .ref x4, .ref x6, .ref x8, .ref x10, .ref x12, .ref x14, .ref x16, .ref x18, .ref x20, .ref x27, .int 0]), (x2, oC 3 [.ref x3, .int 1]), (x4, oC 3 [.ref x5, .int 0]), (m0, oC 13 [.ref m1, .ref m2, .int 0, .ref m3, .ref m4, .int 0, .int 0, .int 0, .int (-1), .int 0, .int 0, .int 0, .long 0, .ref m5, .ref m6, .int 0, .int 0]), (m1, aI Y 3640 (clB 0 (fun _ => 0)))] rfl ?_
    obtain rfl : p1 = 0 := k4
    refine V_istore 970 B (lv2 := [(5, .int 1), (4, .int 0), (3, .ref o0), (2, .ref m0), (1, .ref x0), (0, .ref b)]) dL_law_970 (by decide) rfl ?_
    refine V_aload_n 972 B dL_law_972 3 rfl ?_
    refine V_aload_n 973 B dL_law_973 5 rfl ?_
    refine V_iload 974 B dL_law_974 1 rfl ?_
    refine V_iconst 976 B (v := 1) dL_law_976 (by decide +kernel) ?_
    refine V_iadd 977 B (v := 1) dL_law_977 (by decide +kernel) ?_
    refine V_sld 978 B hX hbl hbA (v := 0) (vpin _ _ (by decide +kernel)) dL_law_978 e1 ?_
    refine V_aload_n 979 B dL_law_979 5 rfl ?_
    refine V_iload 980 B dL_law_980 1 rfl ?_
    refine V_iconst 982 B (v := 2) dL_law_982 (by decide +kernel) ?_
    refine V_iadd 983 B (v := 2) dL_law_983 (by decide +kernel) ?_
    refine V_sld 984 B hX hbl hbA (v := p2) (vpin _ _ (by decide +kernel)) dL_law_984 e2 ?_
    refine V_cvi 985 B (st := []) (As := [.int 0, .int p2]) (fun sz => mX12_bind_2 l D Y (m0) (m1) (m2) (m3) (m4) (m5) (m6) (p2) sz) glV_RL_218 ⟨rfl, rfl⟩ ⟨(Nat.le_of_ble_eq_true rfl), (Nat.le_of_ble_eq_true rfl)⟩ ⟨(Nat.le_of_ble_eq_true rfl), (Nat.le_of_ble_eq_true rfl)⟩ [4, 0] rfl 13 0 rfl rfl rfl rfl (Nat.le_of_ble_eq_true rfl) rfl (fun _ _ _ => rfl) dL_law_985 (fun r24 u24 w24 => ?_)
    rcases w24 with ⟨k25, rfl⟩ | ⟨k26, rfl⟩
    ·
      refine V_ws [(x0, oC 12 [.ref x1, .ref x30, .ref x59, .ref x88, .ref x117, .ref x126, .ref x127, .ref x129, .ref x132, .long 0]), (x1, oC 2 [.ref x2, .ref x4, .ref x6, .ref x8, .ref x10, .ref x12, .ref x14, .ref x16, .ref x18, .ref x20, .ref x27, .int 0]), (x2, oC 3 [.ref x3, .int 1]), (x4, oC 3 [.ref x5, .int 0]), (m0, oC 13 [.ref m1, .ref m2, .int 1, .ref m3, .ref m4, .int 0, .int 0, .int 0, .int (-1), .int 0, .int 0, .int 0, .long 0, .ref m5, .ref m6, .int 0, .int 0]), (m1, aI Y 3640 (clB 0 (fun _ => 0)))] rfl ?_
      refine V_istore 988 B (lv2 := [(6, .int 0), (5, .int 1), (4, .int 0), (3, .ref o0), (2, .ref m0), (1, .ref x0), (0, .ref b)]) dL_law_988 (by decide) rfl ?_
      refine V_aload_n 990 B dL_law_990 4 rfl ?_
      refine V_cvi 991 B (st := []) (As := []) (fun sz => mX12_thrown_2 l D Y (m0) (m1) (m2) (m3) (m4) (m5) (m6) sz) glV_RL_182 ⟨rfl, rfl⟩ ⟨(Nat.le_of_ble_eq_true rfl), (Nat.le_of_ble_eq_true rfl)⟩ ⟨(Nat.le_of_ble_eq_true rfl), (Nat.le_of_ble_eq_true rfl)⟩ [4] rfl 13 0 rfl rfl rfl rfl (Nat.le_of_ble_eq_true rfl) rfl (fun _ _ _ => rfl) dL_law_991 (fun r27 u27 w27 => ?_)
      obtain rfl := w27
      refine V_ws [(x0, oC 12 [.ref x1, .ref x30, .ref x59, .ref x88, .ref x117, .ref x126, .ref x127, .ref x129, .ref x132, .long 0]), (x1, oC 2 [.ref x2, .ref x4, .ref x6, .ref x8, .ref x10, .ref x12, .ref x14, .ref x16, .ref x18, .ref x20, .ref x27, .int 0]), (x2, oC 3 [.ref x3, .int 1]), (x4, oC 3 [.ref x5, .int 0]), (m0, oC 13 [.ref m1, .ref m2, .int 1, .ref m3, .ref m4, .int 0, .int 0, .int 0, .int (-1), .int 0, .int 0, .int 0, .long 0, .ref m5, .ref m6, .int 0, .int 0]), (m1, aI Y 3640 (clB 0 (fun _ => 0)))] rfl ?_
      refine V_iload 994 B dL_law_994 1 rfl ?_
      refine V_icmp_eq_t 996 B 1001 dL_law_996 (by decide) (by decide +kernel) ?_
      refine V_iload 1001 B dL_law_1001 1 rfl ?_
      refine V_if_ne_t 1003 B 1018 dL_law_1003 (by decide) (by decide +kernel) ?_
      refine V_goto 1018 B 3332 dL_law_1018 (by decide) ?_
      refine V_iinc 3332 B (v := 6) (lv2 := [(4, .int 6), (6, .int 0), (5, .int 1), (3, .ref o0), (2, .ref m0), (1, .ref x0), (0, .ref b)]) dL_law_3332 2 rfl (by decide +kernel) (by decide) rfl ?_
      refine V_goto 3335 B 23 dL_law_3335 (by decide) ?_
      refine V_iload 23 B dL_law_23 0 rfl ?_
      refine V_aload_n 25 B dL_law_25 6 rfl ?_
      refine V_slen 26 B hX hbl hbA (v := 6) (by decide +kernel) dL_law_26 ?_
      refine V_bipush 27 B (v := 6) dL_law_27 (by decide +kernel) ?_
      refine V_isub 29 B (v := 0) dL_law_29 (by decide +kernel) ?_
      refine V_icmp_gt_t 30 B 3338 dL_law_30 (by decide) (by decide +kernel) ?_
      exact law_end B (Nat.le_of_ble_eq_true rfl) (Nat.le_of_ble_eq_true rfl) dL_law_3338 dL_law_3339
    ·
      refine V_ws [(x0, oC 12 [.ref x1, .ref x30, .ref x59, .ref x88, .ref x117, .ref x126, .ref x127, .ref x129, .ref x132, .long 0]), (x1, oC 2 [.ref x2, .ref x4, .ref x6, .ref x8, .ref x10, .ref x12, .ref x14, .ref x16, .ref x18, .ref x20, .ref x27, .int 0]), (x2, oC 3 [.ref x3, .int 1]), (x4, oC 3 [.ref x5, .int 0]), (m0, oC 13 [.ref m1, .ref m2, .int 1, .ref m3, .ref m4, .int 0, .int 0, .int 0, .int (-1), .int 0, .int 0, .int 0, .long 0, .ref m5, .ref m6, .int 0, .int 0]), (m1, aI Y 3640 (clB 0 (fun _ => 0)))] rfl ?_
      exact (q_abs (b_gt k26 (n := 0) (by decide +kernel)) (b_lt k5 (n := (-1)) (by decide +kernel)) (by decide +kernel)).elim
  ·
    refine V_ws [(x0, oC 12 [.ref x1, .ref x30, .ref x59, .ref x88, .ref x117, .ref x126, .ref x127, .ref x129, .ref x132, .long 0]), (x1, oC 2 [.ref x2, .ref x4, .ref x6, .ref x8, .ref x10, .ref x12, .ref x14, .ref x16, .ref x18, .ref x20, .ref x27, .int 0]), (x2, oC 3 [.ref x3, .int 1]), (x4, oC 3 [.ref x5, .int 0]), (m0, oC 13 [.ref m1, .ref m2, .int 0, .ref m3, .ref m4, .int 0, .int 0, .int 0, .int (-1), .int 0, .int 0, .int 0, .long 0, .ref m5, .ref m6, .int 0, .int 0]), (m1, aI Y 3640 (clB 0 (fun _ => 0)))] rfl ?_
    obtain rfl : p1 = 0 := k6
    refine V_istore 970 B (lv2 := [(5, .int 1), (4, .int 0), (3, .ref o0), (2, .ref m0), (1, .ref x0), (0, .ref b)]) dL_law_970 (by decide) rfl ?_
    refine V_aload_n 972 B dL_law_972 3 rfl ?_
    refine V_aload_n 973 B dL_law_973 5 rfl ?_
    refine V_iload 974 B dL_law_974 1 rfl ?_
    refine V_iconst 976 B (v := 1) dL_law_976 (by decide +kernel) ?_
    refine V_iadd 977 B (v := 1) dL_law_977 (by decide +kernel) ?_
    refine V_sld 978 B hX hbl hbA (v := 0) (vpin _ _ (by decide +kernel)) dL_law_978 e1 ?_
    refine V_aload_n 979 B dL_law_979 5 rfl ?_
    refine V_iload 980 B dL_law_980 1 rfl ?_
    refine V_iconst 982 B (v := 2) dL_law_982 (by decide +kernel) ?_
    refine V_iadd 983 B (v := 2) dL_law_983 (by decide +kernel) ?_
    refine V_sld 984 B hX hbl hbA (v := p2) (vpin _ _ (by decide +kernel)) dL_law_984 e2 ?_
    refine V_cvi 985 B (st := []) (As := [.int 0, .int p2]) (fun sz => mX12_bind_2 l D Y (m0) (m1) (m2) (m3) (m4) (m5) (m6) (p2) sz) glV_RL_218 ⟨rfl, rfl⟩ ⟨(Nat.le_of_ble_eq_true rfl), (Nat.le_of_ble_eq_true rfl)⟩ ⟨(Nat.le_of_ble_eq_true rfl), (Nat.le_of_ble_eq_true rfl)⟩ [4, 0] rfl 13 0 rfl rfl rfl rfl (Nat.le_of_ble_eq_true rfl) rfl (fun _ _ _ => rfl) dL_law_985 (fun r28 u28 w28 => ?_)
    rcases w28 with ⟨k29, rfl⟩ | ⟨k30, rfl⟩
    ·
      refine V_ws [(x0, oC 12 [.ref x1, .ref x30, .ref x59, .ref x88, .ref x117, .ref x126, .ref x127, .ref x129, .ref x132, .long 0]), (x1, oC 2 [.ref x2, .ref x4, .ref x6, .ref x8, .ref x10, .ref x12, .ref x14, .ref x16, .ref x18, .ref x20, .ref x27, .int 0]), (x2, oC 3 [.ref x3, .int 1]), (x4, oC 3 [.ref x5, .int 0]), (m0, oC 13 [.ref m1, .ref m2, .int 1, .ref m3, .ref m4, .int 0, .int 0, .int 0, .int (-1), .int 0, .int 0, .int 0, .long 0, .ref m5, .ref m6, .int 0, .int 0]), (m1, aI Y 3640 (clB 0 (fun _ => 0)))] rfl ?_
      exact (q_abs (b_nlt k7 (n := 0) (by decide +kernel)) (b_lt k29 (n := (-1)) (by decide +kernel)) (by decide +kernel)).elim
    ·
      refine V_ws [(x0, oC 12 [.ref x1, .ref x30, .ref x59, .ref x88, .ref x117, .ref x126, .ref x127, .ref x129, .ref x132, .long 0]), (x1, oC 2 [.ref x2, .ref x4, .ref x6, .ref x8, .ref x10, .ref x12, .ref x14, .ref x16, .ref x18, .ref x20, .ref x27, .int 0]), (x2, oC 3 [.ref x3, .int 1]), (x4, oC 3 [.ref x5, .int 0]), (m0, oC 13 [.ref m1, .ref m2, .int 1, .ref m3, .ref m4, .int 0, .int 0, .int 0, .int (-1), .int 0, .int 0, .int 0, .long 0, .ref m5, .ref m6, .int 0, .int 0]), (m1, aI Y 3640 (clB 0 (fun _ => 0)))] rfl ?_
      refine V_istore 988 B (lv2 := [(6, .int 0), (5, .int 1), (4, .int 0), (3, .ref o0), (2, .ref m0), (1, .ref x0), (0, .ref b)]) dL_law_988 (by decide) rfl ?_
      refine V_aload_n 990 B dL_law_990 4 rfl ?_
      refine V_cvi 991 B (st := []) (As := []) (fun sz => mX12_thrown_2 l D Y (m0) (m1) (m2) (m3) (m4) (m5) (m6) sz) glV_RL_182 ⟨rfl, rfl⟩ ⟨(Nat.le_of_ble_eq_true rfl), (Nat.le_of_ble_eq_true rfl)⟩ ⟨(Nat.le_of_ble_eq_true rfl), (Nat.le_of_ble_eq_true rfl)⟩ [4] rfl 13 0 rfl rfl rfl rfl (Nat.le_of_ble_eq_true rfl) rfl (fun _ _ _ => rfl) dL_law_991 (fun r31 u31 w31 => ?_)
      obtain rfl := w31
      refine V_ws [(x0, oC 12 [.ref x1, .ref x30, .ref x59, .ref x88, .ref x117, .ref x126, .ref x127, .ref x129, .ref x132, .long 0]), (x1, oC 2 [.ref x2, .ref x4, .ref x6, .ref x8, .ref x10, .ref x12, .ref x14, .ref x16, .ref x18, .ref x20, .ref x27, .int 0]), (x2, oC 3 [.ref x3, .int 1]), (x4, oC 3 [.ref x5, .int 0]), (m0, oC 13 [.ref m1, .ref m2, .int 1, .ref m3, .ref m4, .int 0, .int 0, .int 0, .int (-1), .int 0, .int 0, .int 0, .long 0, .ref m5, .ref m6, .int 0, .int 0]), (m1, aI Y 3640 (clB 0 (fun _ => 0)))] rfl ?_
      refine V_iload 994 B dL_law_994 1 rfl ?_
      refine V_icmp_eq_t 996 B 1001 dL_law_996 (by decide) (by decide +kernel) ?_
      refine V_iload 1001 B dL_law_1001 1 rfl ?_
      refine V_if_ne_t 1003 B 1018 dL_law_1003 (by decide) (by decide +kernel) ?_
      refine V_goto 1018 B 3332 dL_law_1018 (by decide) ?_
      refine V_iinc 3332 B (v := 6) (lv2 := [(4, .int 6), (6, .int 0), (5, .int 1), (3, .ref o0), (2, .ref m0), (1, .ref x0), (0, .ref b)]) dL_law_3332 2 rfl (by decide +kernel) (by decide) rfl ?_
      refine V_goto 3335 B 23 dL_law_3335 (by decide) ?_
      refine V_iload 23 B dL_law_23 0 rfl ?_
      refine V_aload_n 25 B dL_law_25 6 rfl ?_
      refine V_slen 26 B hX hbl hbA (v := 6) (by decide +kernel) dL_law_26 ?_
      refine V_bipush 27 B (v := 6) dL_law_27 (by decide +kernel) ?_
      refine V_isub 29 B (v := 0) dL_law_29 (by decide +kernel) ?_
      refine V_icmp_gt_t 30 B 3338 dL_law_30 (by decide) (by decide +kernel) ?_
      exact law_end B (Nat.le_of_ble_eq_true rfl) (Nat.le_of_ble_eq_true rfl) dL_law_3338 dL_law_3339
theorem dL_force_0 : decode cL_force 0 = .ok (.aload_n 3, 1) := by decide +kernel
theorem dL_force_1 : decode cL_force 1 = .ok (.iconst 0, 1) := by decide +kernel
theorem dL_force_2 : decode cL_force 2 = .ok (.aload_n 0, 1) := by decide +kernel
theorem dL_force_3 : decode cL_force 3 = .ok (.iload_n 1, 1) := by decide +kernel
theorem dL_force_4 : decode cL_force 4 = .ok (.iload_n 2, 1) := by decide +kernel
theorem dL_force_5 : decode cL_force 5 = .ok (.invokevirtual 39, 3) := by decide +kernel
theorem glV_RL_39 : GLV RL 39 yX11_force RX11 cX11_force 3 (some .int) 2 := ⟨⟨(mT5 212 rfl rfl), (mT5 213 rfl rfl), (mT5 214 rfl rfl), (mT1 1 rfl rfl), (mT5 215 rfl rfl)⟩, by decide +kernel⟩
theorem dL_force_13 : decode cL_force 13 = .ok (.astore 4, 2) := by decide +kernel
theorem dL_force_15 : decode cL_force 15 = .ok (.iconst 1, 1) := by decide +kernel
theorem dL_force_16 : decode cL_force 16 = .ok (.ireturn, 1) := by decide +kernel
set_option maxRecDepth 100000 in
set_option maxHeartbeats 4000000 in
theorem mL_force_1 (l : Launch) (hl9 : l.stackTraces = false) (D : va_G) (Y : Nat → ClassId) (h0 : Nat) (g0 : Nat) (h1 : Nat) (g1 : Nat) (g2 : Nat) (g3 : Nat) (g4 : Nat) (g5 : Nat) (g6 : Nat) (g7 : Nat) (g8 : Nat) (h2 : Nat) (h3 : Nat) (g9 : Nat) (g10 : Nat) (g11 : Nat) (g12 : Nat) (g13 : Nat) (g14 : Nat) (g15 : Nat) (g16 : Nat) (g17 : Nat) (g18 : Nat) (g19 : Nat) (p0 : Int32) (p1 : Int32) (sz : Nat) : Met l yL_force (Cond.codeWith yL_force cL_force 5 (some .int) [(0, 10, 13, 18)] :: lw_good) (mkR 8 2 12 125) (PreX D Y [.ref h0, .int p0, .int p1, .ref g0] [(h0, oC 12 [.ref h1, .ref g1, .ref g2, .ref g3, .ref g4, .ref g5, .ref g6, .ref g7, .ref g8, .long 0]), (h1, oC 2 [.ref h2, .ref h3, .ref g9, .ref g10, .ref g11, .ref g12, .ref g13, .ref g14, .ref g15, .ref g16, .ref g17, .int 0]), (h2, oC 3 [.ref g18, .int 1]), (h3, oC 3 [.ref g19, .int 0])] sz) (QI D (fun (r : Int32) (u : Unit) => (p0 < 0 ∧ 1 = r) ∨ (¬ p0 < 0 ∧ 1 ≤ p0 ∧ 1 = r) ∨ (p0 = 0 ∧ p1 < 0 ∧ 1 = r) ∨ (p0 = 0 ∧ ¬ p1 < 0 ∧ 1 = r)) (fun (_ : Unit) => [(h0, oC 12 [.ref h1, .ref g1, .ref g2, .ref g3, .ref g4, .ref g5, .ref g6, .ref g7, .ref g8, .long 0]), (h1, oC 2 [.ref h2, .ref h3, .ref g9, .ref g10, .ref g11, .ref g12, .ref g13, .ref g14, .ref g15, .ref g16, .ref g17, .int 0]), (h2, oC 3 [.ref g18, .int 1]), (h3, oC 3 [.ref g19, .int 0])]) (va_A [(h0, oC 12 [.ref h1, .ref g1, .ref g2, .ref g3, .ref g4, .ref g5, .ref g6, .ref g7, .ref g8, .long 0]), (h1, oC 2 [.ref h2, .ref h3, .ref g9, .ref g10, .ref g11, .ref g12, .ref g13, .ref g14, .ref g15, .ref g16, .ref g17, .int 0]), (h2, oC 3 [.ref g18, .int 1]), (h3, oC 3 [.ref g19, .int 0])] sz)) 2 12 (va_A [(h0, oC 12 [.ref h1, .ref g1, .ref g2, .ref g3, .ref g4, .ref g5, .ref g6, .ref g7, .ref g8, .long 0]), (h1, oC 2 [.ref h2, .ref h3, .ref g9, .ref g10, .ref g11, .ref g12, .ref g13, .ref g14, .ref g15, .ref g16, .ref g17, .int 0]), (h2, oC 3 [.ref g18, .int 1]), (h3, oC 3 [.ref g19, .int 0])] sz) :=
  metH_of (by decide +kernel) (Nat.le_of_ble_eq_true rfl) (fun p e s m args below meth c B EB htab hsz => by
    have B : VB p s m args meth c D Y (va_A [(h0, oC 12 [.ref h1, .ref g1, .ref g2, .ref g3, .ref g4, .ref g5, .ref g6, .ref g7, .ref g8, .long 0]), (h1, oC 2 [.ref h2, .ref h3, .ref g9, .ref g10, .ref g11, .ref g12, .ref g13, .ref g14, .ref g15, .ref g16, .ref g17, .int 0]), (h2, oC 3 [.ref g18, .int 1]), (h3, oC 3 [.ref g19, .int 0])] sz) cL_force 5 RL (some .int) := B
    refine V_aload_n 0 B dL_force_0 3 rfl ?_
    refine V_iconst 1 B (v := 0) dL_force_1 (by decide +kernel) ?_
    refine V_aload_n 2 B dL_force_2 0 rfl ?_
    refine V_iload_n 3 B dL_force_3 1 rfl ?_
    refine V_iload_n 4 B dL_force_4 2 rfl ?_
    refine V_xvi 5 B EB (st := [.int 0, .ref g0]) (As := [.int p0, .int p1]) (fun sz => mX11_force_1 l hl9 D Y (h0) (h1) (g1) (g2) (g3) (g4) (g5) (g6) (g7) (g8) (h2) (h3) (g9) (g10) (g11) (g12) (g13) (g14) (g15) (g16) (g17) (g18) (g19) (p0) (p1) sz) glV_RL_39 ⟨rfl, rfl⟩ ⟨(Nat.le_of_ble_eq_true rfl), (Nat.le_of_ble_eq_true rfl)⟩ ⟨(Nat.le_of_ble_eq_true rfl), (Nat.le_of_ble_eq_true rfl)⟩ [0, 0, 0, 0] rfl 12 0 rfl rfl rfl rfl (Nat.le_of_ble_eq_true rfl) rfl (fun _ _ _ => rfl) (fun _ _ _ => rfl) dL_force_5 (fun E u0 w0 => ?_) (fun r0 u0 w0 => ?_)
    ·
      rcases w0 with ⟨rfl, k1⟩ | ⟨rfl, k2, k3⟩ | ⟨rfl, k4, k5⟩ | ⟨rfl, k6, k7⟩
      ·
        refine VX_catch 5 B htab [] (0, 10, 13, 18) [] rfl "java/lang/IndexOutOfBoundsException" (fun z hz => nomatch hz) rfl (by decide) (mT5 103 rfl rfl) (EB.2.2.2.1 _ (List.mem_of_getElem? (i := 1) rfl)) 13 rfl (fun q9 => ?_)
        refine V_ws [(h0, oC 12 [.ref h1, .ref g1, .ref g2, .ref g3, .ref g4, .ref g5, .ref g6, .ref g7, .ref g8, .long 0]), (h1, oC 2 [.ref h2, .ref h3, .ref g9, .ref g10, .ref g11, .ref g12, .ref g13, .ref g14, .ref g15, .ref g16, .ref g17, .int 0]), (h2, oC 3 [.ref g18, .int 1]), (h3, oC 3 [.ref g19, .int 0])] rfl ?_
        refine V_astore 13 B (lv2 := [(4, .ref q9), (0, .ref h0), (1, .int p0), (2, .int p1), (3, .ref g0)]) dL_force_13 (by decide) rfl ?_
        refine V_iconst 15 B (v := 1) dL_force_15 (by decide +kernel) ?_
        exact V_iret 16 B dL_force_16 () (Or.inl ⟨k1, rfl⟩) rfl
      ·
        refine VX_catch 5 B htab [] (0, 10, 13, 18) [] rfl "java/lang/IndexOutOfBoundsException" (fun z hz => nomatch hz) rfl (by decide) (mT5 103 rfl rfl) (EB.2.2.2.1 _ (List.mem_of_getElem? (i := 1) rfl)) 13 rfl (fun q9 => ?_)
        refine V_ws [(h0, oC 12 [.ref h1, .ref g1, .ref g2, .ref g3, .ref g4, .ref g5, .ref g6, .ref g7, .ref g8, .long 0]), (h1, oC 2 [.ref h2, .ref h3, .ref g9, .ref g10, .ref g11, .ref g12, .ref g13, .ref g14, .ref g15, .ref g16, .ref g17, .int 0]), (h2, oC 3 [.ref g18, .int 1]), (h3, oC 3 [.ref g19, .int 0])] rfl ?_
        refine V_astore 13 B (lv2 := [(4, .ref q9), (0, .ref h0), (1, .int p0), (2, .int p1), (3, .ref g0)]) dL_force_13 (by decide) rfl ?_
        refine V_iconst 15 B (v := 1) dL_force_15 (by decide +kernel) ?_
        exact V_iret 16 B dL_force_16 () (Or.inr (Or.inl ⟨k2, k3, rfl⟩)) rfl
      ·
        obtain rfl : p0 = 0 := k4
        refine VX_catch 5 B htab [] (0, 10, 13, 18) [] rfl "java/lang/IndexOutOfBoundsException" (fun z hz => nomatch hz) rfl (by decide) (mT5 103 rfl rfl) (EB.2.2.2.1 _ (List.mem_of_getElem? (i := 1) rfl)) 13 rfl (fun q9 => ?_)
        refine V_ws [(h0, oC 12 [.ref h1, .ref g1, .ref g2, .ref g3, .ref g4, .ref g5, .ref g6, .ref g7, .ref g8, .long 0]), (h1, oC 2 [.ref h2, .ref h3, .ref g9, .ref g10, .ref g11, .ref g12, .ref g13, .ref g14, .ref g15, .ref g16, .ref g17, .int 0]), (h2, oC 3 [.ref g18, .int 1]), (h3, oC 3 [.ref g19, .int 0])] rfl ?_
        refine V_astore 13 B (lv2 := [(4, .ref q9), (0, .ref h0), (1, .int 0), (2, .int p1), (3, .ref g0)]) dL_force_13 (by decide) rfl ?_
        refine V_iconst 15 B (v := 1) dL_force_15 (by decide +kernel) ?_
        exact V_iret 16 B dL_force_16 () (Or.inr (Or.inr (Or.inl ⟨rfl, k5, rfl⟩))) rfl
      ·
        obtain rfl : p0 = 0 := k6
        refine VX_catch 5 B htab [] (0, 10, 13, 18) [] rfl "java/lang/IndexOutOfBoundsException" (fun z hz => nomatch hz) rfl (by decide) (mT5 103 rfl rfl) (EB.2.2.2.1 _ (List.mem_of_getElem? (i := 1) rfl)) 13 rfl (fun q9 => ?_)
        refine V_ws [(h0, oC 12 [.ref h1, .ref g1, .ref g2, .ref g3, .ref g4, .ref g5, .ref g6, .ref g7, .ref g8, .long 0]), (h1, oC 2 [.ref h2, .ref h3, .ref g9, .ref g10, .ref g11, .ref g12, .ref g13, .ref g14, .ref g15, .ref g16, .ref g17, .int 0]), (h2, oC 3 [.ref g18, .int 1]), (h3, oC 3 [.ref g19, .int 0])] rfl ?_
        refine V_astore 13 B (lv2 := [(4, .ref q9), (0, .ref h0), (1, .int 0), (2, .int p1), (3, .ref g0)]) dL_force_13 (by decide) rfl ?_
        refine V_iconst 15 B (v := 1) dL_force_15 (by decide +kernel) ?_
        exact V_iret 16 B dL_force_16 () (Or.inr (Or.inr (Or.inr ⟨rfl, k7, rfl⟩))) rfl
    ·
      exact w0.elim)
set_option maxRecDepth 100000 in
set_option maxHeartbeats 4000000 in
theorem mX12_force_2 (l : Launch) (D : va_G) (Y : Nat → ClassId) (h0 : Nat) (h1 : Nat) (g0 : Nat) (g1 : Nat) (g2 : Nat) (g3 : Nat) (g4 : Nat) (p0 : Int32) (sz : Nat) : Met l yX12_force (WSm yX12_force cX12_force 3 (some .int)) (mkR 2 0 0 46) (PreC D Y [.ref h0, .int 0, .int p0] [(h0, oC 13 [.ref h1, .ref g0, .int 0, .ref g1, .ref g2, .int 0, .int 0, .int 0, .int (-1), .int 0, .int 0, .int 0, .long 0, .ref g3, .ref g4, .int 0, .int 0]), (h1, aI Y 3640 (clB 0 (fun _ => 0)))] sz) (QI D (fun (r : Int32) (u : Unit) => (p0 < 0 ∧ 0 = r) ∨ ((-1) < p0 ∧ 0 = r)) (fun (_ : Unit) => [(h0, oC 13 [.ref h1, .ref g0, .int 1, .ref g1, .ref g2, .int 0, .int 0, .int 0, .int (-1), .int 0, .int 0, .int 0, .long 0, .ref g3, .ref g4, .int 0, .int 0]), (h1, aI Y 3640 (clB 0 (fun _ => 0)))]) (va_A [(h0, oC 13 [.ref h1, .ref g0, .int 0, .ref g1, .ref g2, .int 0, .int 0, .int 0, .int (-1), .int 0, .int 0, .int 0, .long 0, .ref g3, .ref g4, .int 0, .int 0]), (h1, aI Y 3640 (clB 0 (fun _ => 0)))] sz)) 0 0 (va_A [(h0, oC 13 [.ref h1, .ref g0, .int 0, .ref g1, .ref g2, .int 0, .int 0, .int 0, .int (-1), .int 0, .int 0, .int 0, .long 0, .ref g3, .ref g4, .int 0, .int 0]), (h1, aI Y 3640 (clB 0 (fun _ => 0)))] sz) :=
  met_of (by decide +kernel) (Nat.le_of_ble_eq_true rfl) (fun p e s m args below meth c B hin hsz => by
    have B : VB p s m args meth c D Y (va_A [(h0, oC 13 [.ref h1, .ref g0, .int 0, .ref g1, .ref g2, .int 0, .int 0, .int 0, .int (-1), .int 0, .int 0, .int 0, .long 0, .ref g3, .ref g4, .int 0, .int 0]), (h1, aI Y 3640 (clB 0 (fun _ => 0)))] sz) cX12_force 3 RX12 (some .int) := B
    refine V_aload_n 0 B dX12_force_0 0 rfl ?_
    refine V_iconst 1 B (v := 0) dX12_force_1 (by decide +kernel) ?_
    refine V_put 2 B gp_RX12_38 0 rfl (Nat.le_of_ble_eq_true rfl) rfl rfl dX12_force_2 [(h0, oC 13 [.ref h1, .ref g0, .int 0, .ref g1, .ref g2, .int 0, .int 0, .int 0, .int (-1), .int 0, .int 0, .int 0, .long 0, .ref g3, .ref g4, .int 0, .int 0]), (h1, aI Y 3640 (clB 0 (fun _ => 0)))] rfl ?_
    refine V_aload_n 5 B dX12_force_5 0 rfl ?_
    refine V_aload_n 6 B dX12_force_6 0 rfl ?_
    refine V_iload_n 7 B dX12_force_7 1 rfl ?_
    refine V_cvi 8 B (st := [.ref h0]) (As := [.int 0]) (fun sz => mX12_isMode_2 l D Y (h0) (h1) (g0) (g1) (g2) (g3) (g4) sz) glV_RX12_91 ⟨rfl, rfl⟩ ⟨(Nat.le_of_ble_eq_true rfl), (Nat.le_of_ble_eq_true rfl)⟩ ⟨(Nat.le_of_ble_eq_true rfl), (Nat.le_of_ble_eq_true rfl)⟩ [0, 0] rfl 13 0 rfl rfl rfl rfl (Nat.le_of_ble_eq_true rfl) rfl (fun _ _ _ => rfl) dX12_force_8 (fun r0 u0 w0 => ?_)
    obtain rfl := w0
    refine V_ws [(h0, oC 13 [.ref h1, .ref g0, .int 0, .ref g1, .ref g2, .int 0, .int 0, .int 0, .int (-1), .int 0, .int 0, .int 0, .long 0, .ref g3, .ref g4, .int 0, .int 0]), (h1, aI Y 3640 (clB 0 (fun _ => 0)))] rfl ?_
    refine V_if_eq_f 11 B 22 dX12_force_11 (by decide) (by decide +kernel) ?_
    refine V_aload_n 14 B dX12_force_14 0 rfl ?_
    refine V_iload_n 15 B dX12_force_15 2 rfl ?_
    refine V_cvi 16 B (st := [.ref h0]) (As := [.int p0]) (fun sz => mX12_isCommand_1 l D Y (h0) (h1) (g0) (g1) (g2) (g3) (g4) (p0) sz) glV_RX12_99 ⟨rfl, rfl⟩ ⟨(Nat.le_of_ble_eq_true rfl), (Nat.le_of_ble_eq_true rfl)⟩ ⟨(Nat.le_of_ble_eq_true rfl), (Nat.le_of_ble_eq_true rfl)⟩ [0, 0] rfl 13 0 rfl rfl rfl rfl (Nat.le_of_ble_eq_true rfl) rfl (fun _ _ _ => rfl) dX12_force_16 (fun r1 u1 w1 => ?_)
    rcases w1 with ⟨k2, rfl⟩ | ⟨k3, rfl⟩
    ·
      refine V_ws [(h0, oC 13 [.ref h1, .ref g0, .int 0, .ref g1, .ref g2, .int 0, .int 0, .int 0, .int (-1), .int 0, .int 0, .int 0, .long 0, .ref g3, .ref g4, .int 0, .int 0]), (h1, aI Y 3640 (clB 0 (fun _ => 0)))] rfl ?_
      refine V_if_ne_f 19 B 26 dX12_force_19 (by decide) (by decide +kernel) ?_
      refine V_iconst 22 B (v := 1) dX12_force_22 (by decide +kernel) ?_
      refine V_goto 23 B 27 dX12_force_23 (by decide) ?_
      refine V_iconst 27 B (v := 1) dX12_force_27 (by decide +kernel) ?_
      refine V_cvi 28 B (st := []) (As := [.int 1, .int 1]) (fun sz => mX12_throwsIf_1 l D Y (h0) (h1) (g0) (g1) (g2) (g3) (g4) sz) glV_RX12_69 ⟨rfl, rfl⟩ ⟨(Nat.le_of_ble_eq_true rfl), (Nat.le_of_ble_eq_true rfl)⟩ ⟨(Nat.le_of_ble_eq_true rfl), (Nat.le_of_ble_eq_true rfl)⟩ [0] rfl 13 0 rfl rfl rfl rfl (Nat.le_of_ble_eq_true rfl) rfl (fun _ _ _ => rfl) dX12_force_28 (fun r4 u4 w4 => ?_)
      obtain rfl := w4
      refine V_ws [(h0, oC 13 [.ref h1, .ref g0, .int 1, .ref g1, .ref g2, .int 0, .int 0, .int 0, .int (-1), .int 0, .int 0, .int 0, .long 0, .ref g3, .ref g4, .int 0, .int 0]), (h1, aI Y 3640 (clB 0 (fun _ => 0)))] rfl ?_
      refine V_if_eq_f 31 B 36 dX12_force_31 (by decide) (by decide +kernel) ?_
      refine V_iconst 34 B (v := 0) dX12_force_34 (by decide +kernel) ?_
      exact V_iret 35 B dX12_force_35 () (Or.inl ⟨k2, rfl⟩) rfl
    ·
      refine V_ws [(h0, oC 13 [.ref h1, .ref g0, .int 0, .ref g1, .ref g2, .int 0, .int 0, .int 0, .int (-1), .int 0, .int 0, .int 0, .long 0, .ref g3, .ref g4, .int 0, .int 0]), (h1, aI Y 3640 (clB 0 (fun _ => 0)))] rfl ?_
      refine V_if_ne_f 19 B 26 dX12_force_19 (by decide) (by decide +kernel) ?_
      refine V_iconst 22 B (v := 1) dX12_force_22 (by decide +kernel) ?_
      refine V_goto 23 B 27 dX12_force_23 (by decide) ?_
      refine V_iconst 27 B (v := 1) dX12_force_27 (by decide +kernel) ?_
      refine V_cvi 28 B (st := []) (As := [.int 1, .int 1]) (fun sz => mX12_throwsIf_1 l D Y (h0) (h1) (g0) (g1) (g2) (g3) (g4) sz) glV_RX12_69 ⟨rfl, rfl⟩ ⟨(Nat.le_of_ble_eq_true rfl), (Nat.le_of_ble_eq_true rfl)⟩ ⟨(Nat.le_of_ble_eq_true rfl), (Nat.le_of_ble_eq_true rfl)⟩ [0] rfl 13 0 rfl rfl rfl rfl (Nat.le_of_ble_eq_true rfl) rfl (fun _ _ _ => rfl) dX12_force_28 (fun r5 u5 w5 => ?_)
      obtain rfl := w5
      refine V_ws [(h0, oC 13 [.ref h1, .ref g0, .int 1, .ref g1, .ref g2, .int 0, .int 0, .int 0, .int (-1), .int 0, .int 0, .int 0, .long 0, .ref g3, .ref g4, .int 0, .int 0]), (h1, aI Y 3640 (clB 0 (fun _ => 0)))] rfl ?_
      refine V_if_eq_f 31 B 36 dX12_force_31 (by decide) (by decide +kernel) ?_
      refine V_iconst 34 B (v := 0) dX12_force_34 (by decide +kernel) ?_
      exact V_iret 35 B dX12_force_35 () (Or.inr ⟨k3, rfl⟩) rfl)
theorem dL_law_1021 : decode cL_law 1021 = .ok (.aload_n 1, 1) := by decide +kernel
theorem dL_law_1022 : decode cL_law 1022 = .ok (.aload_n 0, 1) := by decide +kernel
theorem dL_law_1023 : decode cL_law 1023 = .ok (.iload 4, 2) := by decide +kernel
theorem dL_law_1025 : decode cL_law 1025 = .ok (.iconst 1, 1) := by decide +kernel
theorem dL_law_1026 : decode cL_law 1026 = .ok (.iadd, 1) := by decide +kernel
theorem dL_law_1027 : decode cL_law 1027 = .ok (.iaload, 1) := by decide +kernel
theorem dL_law_1028 : decode cL_law 1028 = .ok (.aload_n 0, 1) := by decide +kernel
theorem dL_law_1029 : decode cL_law 1029 = .ok (.iload 4, 2) := by decide +kernel
theorem dL_law_1031 : decode cL_law 1031 = .ok (.iconst 2, 1) := by decide +kernel
theorem dL_law_1032 : decode cL_law 1032 = .ok (.iadd, 1) := by decide +kernel
theorem dL_law_1033 : decode cL_law 1033 = .ok (.iaload, 1) := by decide +kernel
theorem dL_law_1034 : decode cL_law 1034 = .ok (.aload_n 3, 1) := by decide +kernel
theorem dL_law_1035 : decode cL_law 1035 = .ok (.invokestatic 219, 3) := by decide +kernel
theorem glH_RL_219 : GLH RL 219 yL_force cL_force 5 (some .int) [(0, 10, 13, 18)] 4 := ⟨⟨(mT5 209 rfl rfl), (mT5 210 rfl rfl), (mT1 0 rfl rfl), (mT5 211 rfl rfl)⟩, by decide +kernel⟩
theorem dL_law_1038 : decode cL_law 1038 = .ok (.istore 5, 2) := by decide +kernel
theorem dL_law_1040 : decode cL_law 1040 = .ok (.aload_n 2, 1) := by decide +kernel
theorem dL_law_1041 : decode cL_law 1041 = .ok (.aload_n 0, 1) := by decide +kernel
theorem dL_law_1042 : decode cL_law 1042 = .ok (.iload 4, 2) := by decide +kernel
theorem dL_law_1044 : decode cL_law 1044 = .ok (.iconst 1, 1) := by decide +kernel
theorem dL_law_1045 : decode cL_law 1045 = .ok (.iadd, 1) := by decide +kernel
theorem dL_law_1046 : decode cL_law 1046 = .ok (.iaload, 1) := by decide +kernel
theorem dL_law_1047 : decode cL_law 1047 = .ok (.aload_n 0, 1) := by decide +kernel
theorem dL_law_1048 : decode cL_law 1048 = .ok (.iload 4, 2) := by decide +kernel
theorem dL_law_1050 : decode cL_law 1050 = .ok (.iconst 2, 1) := by decide +kernel
theorem dL_law_1051 : decode cL_law 1051 = .ok (.iadd, 1) := by decide +kernel
theorem dL_law_1052 : decode cL_law 1052 = .ok (.iaload, 1) := by decide +kernel
theorem dL_law_1053 : decode cL_law 1053 = .ok (.invokevirtual 221, 3) := by decide +kernel
theorem glV_RL_221 : GLV RL 221 yX12_force RX12 cX12_force 3 (some .int) 2 := ⟨⟨(mT8 120 rfl rfl), (mT8 121 rfl rfl), (mT8 122 rfl rfl), (mT1 13 rfl rfl), (mT8 123 rfl rfl)⟩, by decide +kernel⟩
theorem dL_law_1056 : decode cL_law 1056 = .ok (.istore 6, 2) := by decide +kernel
theorem dL_law_1058 : decode cL_law 1058 = .ok (.aload_n 2, 1) := by decide +kernel
theorem dL_law_1059 : decode cL_law 1059 = .ok (.invokevirtual 182, 3) := by decide +kernel
theorem dL_law_1062 : decode cL_law 1062 = .ok (.iload 5, 2) := by decide +kernel
theorem dL_law_1064 : decode cL_law 1064 = .ok (.if_icmp .eq 5, 3) := by decide +kernel
theorem dL_law_1069 : decode cL_law 1069 = .ok (.iload 5, 2) := by decide +kernel
theorem dL_law_1071 : decode cL_law 1071 = .ok (.ifCond .ne 15, 3) := by decide +kernel
theorem dL_law_1086 : decode cL_law 1086 = .ok (.goto 2246, 3) := by decide +kernel
set_option maxRecDepth 100000 in
set_option maxHeartbeats 4000000 in
theorem law_c17 {p : Program} {l : Launch} {e : Env} {s : State} {m : MethodId} {below : List Frame} {meth : Method} {c : Code} {b : Nat} {xs : Nat → Int32} {D : va_G} {Y : Nat → ClassId} (B : VB p s m #[Value.ref b] meth c D Y (fun q => s.heap.size ≤ q) cL_law 8 RL ret) (EB : EX (fun q => s.heap.size ≤ q) s s.heap) (hl9 : l.stackTraces = false) (hX : va_X b 6 xs s s.heap) (hbl : b < s.heap.size) (hbA : ¬ (fun q => s.heap.size ≤ q) b) (x0 x1 x30 x59 x88 x117 x126 x127 x129 x132 x2 x4 x6 x8 x10 x12 x14 x16 x18 x20 x27 x3 x5 m0 m1 m2 m3 m4 m5 m6 o0 : Nat) (p1 p2 : Int32) (e1 : xs 1 = p1) (e2 : xs 2 = p2) : V p l e room_1 s m #[Value.ref b] below meth c D (fun q => s.heap.size ≤ q) 8 149 10574 (lw_Z below #[Value.ref b] s) 1021 [(4, .int 0), (3, .ref o0), (2, .ref m0), (1, .ref x0), (0, .ref b)] [] [(x0, oC 12 [.ref x1, .ref x30, .ref x59, .ref x88, .ref x117, .ref x126, .ref x127, .ref x129, .ref x132, .long 0]), (x1, oC 2 [.ref x2, .ref x4, .ref x6, .ref x8, .ref x10, .ref x12, .ref x14, .ref x16, .ref x18, .ref x20, .ref x27, .int 0]), (x2, oC 3 [.ref x3, .int 1]), (x4, oC 3 [.ref x5, .int 0]), (m0, oC 13 [.ref m1, .ref m2, .int 0, .ref m3, .ref m4, .int 0, .int 0, .int 0, .int (-1), .int 0, .int 0, .int 0, .long 0, .ref m5, .ref m6, .int 0, .int 0]), (m1, aI Y 3640 (clB 0 (fun _ => 0)))] := by
  refine V_aload_n 1021 B dL_law_1021 3 rfl ?_
  refine V_aload_n 1022 B dL_law_1022 4 rfl ?_
  refine V_iload 1023 B dL_law_1023 0 rfl ?_
  refine V_iconst 1025 B (v := 1) dL_law_1025 (by decide +kernel) ?_
  refine V_iadd 1026 B (v := 1) dL_law_1026 (by decide +kernel) ?_
  refine V_sld 1027 B hX hbl hbA (v := p1) (vpin _ _ (by decide +kernel)) dL_law_1027 e1 ?_
  refine V_aload_n 1028 B dL_law_1028 4 rfl ?_
  refine V_iload 1029 B dL_law_1029 0 rfl ?_
  refine V_iconst 1031 B (v := 2) dL_law_1031 (by decide +kernel) ?_
  refine V_iadd 1032 B (v := 2) dL_law_1032 (by decide +kernel) ?_
  refine V_sld 1033 B hX hbl hbA (v := p2) (vpin _ _ (by decide +kernel)) dL_law_1033 e2 ?_
  refine V_aload_n 1034 B dL_law_1034 1 rfl ?_
  refine V_hsi 1035 B EB (st := []) (As := [.ref x0, .int p1, .int p2, .ref o0]) (fun sz => mL_force_1 l hl9 D Y (x0) (o0) (x1) (x30) (x59) (x88) (x117) (x126) (x127) (x129) (x132) (x2) (x4) (x6) (x8) (x10) (x12) (x14) (x16) (x18) (x20) (x27) (x3) (x5) (p1) (p2) sz) glH_RL_219 ⟨rfl, rfl⟩ ⟨(Nat.le_of_ble_eq_true rfl), (Nat.le_of_ble_eq_true rfl)⟩ ⟨(Nat.le_of_ble_eq_true rfl), (Nat.le_of_ble_eq_true rfl)⟩ [0, 0, 0, 0] rfl rfl (Nat.le_of_ble_eq_true rfl) rfl (fun _ _ _ => rfl) dL_law_1035 (fun r0 u0 w0 => ?_)
  rcases w0 with ⟨k1, rfl⟩ | ⟨k2, k3, rfl⟩ | ⟨k4, k5, rfl⟩ | ⟨k6, k7, rfl⟩
  ·
    refine V_ws [(x0, oC 12 [.ref x1, .ref x30, .ref x59, .ref x88, .ref x117, .ref x126, .ref x127, .ref x129, .ref x132, .long 0]), (x1, oC 2 [.ref x2, .ref x4, .ref x6, .ref x8, .ref x10, .ref x12, .ref x14, .ref x16, .ref x18, .ref x20, .ref x27, .int 0]), (x2, oC 3 [.ref x3, .int 1]), (x4, oC 3 [.ref x5, .int 0]), (m0, oC 13 [.ref m1, .ref m2, .int 0, .ref m3, .ref m4, .int 0, .int 0, .int 0, .int (-1), .int 0, .int 0, .int 0, .long 0, .ref m5, .ref m6, .int 0, .int 0]), (m1, aI Y 3640 (clB 0 (fun _ => 0)))] rfl ?_
    refine V_istore 1038 B (lv2 := [(5, .int 1), (4, .int 0), (3, .ref o0), (2, .ref m0), (1, .ref x0), (0, .ref b)]) dL_law_1038 (by decide) rfl ?_
    refine V_aload_n 1040 B dL_law_1040 3 rfl ?_
    refine V_aload_n 1041 B dL_law_1041 5 rfl ?_
    refine V_iload 1042 B dL_law_1042 1 rfl ?_
    refine V_iconst 1044 B (v := 1) dL_law_1044 (by decide +kernel) ?_
    refine V_iadd 1045 B (v := 1) dL_law_1045 (by decide +kernel) ?_
    refine V_sld 1046 B hX hbl hbA (v := p1) (vpin _ _ (by decide +kernel)) dL_law_1046 e1 ?_
    refine V_aload_n 1047 B dL_law_1047 5 rfl ?_
    refine V_iload 1048 B dL_law_1048 1 rfl ?_
    refine V_iconst 1050 B (v := 2) dL_law_1050 (by decide +kernel) ?_
    refine V_iadd 1051 B (v := 2) dL_law_1051 (by decide +kernel) ?_
    refine V_sld 1052 B hX hbl hbA (v := p2) (vpin _ _ (by decide +kernel)) dL_law_1052 e2 ?_
    refine V_cvi 1053 B (st := []) (As := [.int p1, .int p2]) (fun sz => mX12_force_1 l D Y (m0) (m1) (m2) (m3) (m4) (m5) (m6) (p1) (p2) sz) glV_RL_221 ⟨rfl, rfl⟩ ⟨(Nat.le_of_ble_eq_true rfl), (Nat.le_of_ble_eq_true rfl)⟩ ⟨(Nat.le_of_ble_eq_true rfl), (Nat.le_of_ble_eq_true rfl)⟩ [4, 0] rfl 13 0 rfl rfl rfl rfl (Nat.le_of_ble_eq_true rfl) rfl (fun _ _ _ => rfl) dL_law_1053 (fun r8 u8 w8 => ?_)
    rcases w8 with ⟨k9, k10, rfl⟩ | ⟨k11, k12, rfl⟩ | ⟨k13, rfl⟩ | ⟨k14, rfl⟩
    ·
      refine V_ws [(x0, oC 12 [.ref x1, .ref x30, .ref x59, .ref x88, .ref x117, .ref x126, .ref x127, .ref x129, .ref x132, .long 0]), (x1, oC 2 [.ref x2, .ref x4, .ref x6, .ref x8, .ref x10, .ref x12, .ref x14, .ref x16, .ref x18, .ref x20, .ref x27, .int 0]), (x2, oC 3 [.ref x3, .int 1]), (x4, oC 3 [.ref x5, .int 0]), (m0, oC 13 [.ref m1, .ref m2, .int 1, .ref m3, .ref m4, .int 0, .int 0, .int 0, .int (-1), .int 0, .int 0, .int 0, .long 0, .ref m5, .ref m6, .int 0, .int 0]), (m1, aI Y 3640 (clB 0 (fun _ => 0)))] rfl ?_
      exact absurd k9 (q_neh (b_lt k1 (n := (-1)) (by decide +kernel)) (by decide +kernel))
    ·
      refine V_ws [(x0, oC 12 [.ref x1, .ref x30, .ref x59, .ref x88, .ref x117, .ref x126, .ref x127, .ref x129, .ref x132, .long 0]), (x1, oC 2 [.ref x2, .ref x4, .ref x6, .ref x8, .ref x10, .ref x12, .ref x14, .ref x16, .ref x18, .ref x20, .ref x27, .int 0]), (x2, oC 3 [.ref x3, .int 1]), (x4, oC 3 [.ref x5, .int 0]), (m0, oC 13 [.ref m1, .ref m2, .int 1, .ref m3, .ref m4, .int 0, .int 0, .int 0, .int (-1), .int 0, .int 0, .int 0, .long 0, .ref m5, .ref m6, .int 0, .int 0]), (m1, aI Y 3640 (clB 0 (fun _ => 0)))] rfl ?_
      exact absurd k11 (q_neh (b_lt k1 (n := (-1)) (by decide +kernel)) (by decide +kernel))
    ·
      refine V_ws [(x0, oC 12 [.ref x1, .ref x30, .ref x59, .ref x88, .ref x117, .ref x126, .ref x127, .ref x129, .ref x132, .long 0]), (x1, oC 2 [.ref x2, .ref x4, .ref x6, .ref x8, .ref x10, .ref x12, .ref x14, .ref x16, .ref x18, .ref x20, .ref x27, .int 0]), (x2, oC 3 [.ref x3, .int 1]), (x4, oC 3 [.ref x5, .int 0]), (m0, oC 13 [.ref m1, .ref m2, .int 1, .ref m3, .ref m4, .int 0, .int 0, .int 0, .int (-1), .int 0, .int 0, .int 0, .long 0, .ref m5, .ref m6, .int 0, .int 0]), (m1, aI Y 3640 (clB 0 (fun _ => 0)))] rfl ?_
      refine V_istore 1056 B (lv2 := [(6, .int 0), (5, .int 1), (4, .int 0), (3, .ref o0), (2, .ref m0), (1, .ref x0), (0, .ref b)]) dL_law_1056 (by decide) rfl ?_
      refine V_aload_n 1058 B dL_law_1058 4 rfl ?_
      refine V_cvi 1059 B (st := []) (As := []) (fun sz => mX12_thrown_2 l D Y (m0) (m1) (m2) (m3) (m4) (m5) (m6) sz) glV_RL_182 ⟨rfl, rfl⟩ ⟨(Nat.le_of_ble_eq_true rfl), (Nat.le_of_ble_eq_true rfl)⟩ ⟨(Nat.le_of_ble_eq_true rfl), (Nat.le_of_ble_eq_true rfl)⟩ [4] rfl 13 0 rfl rfl rfl rfl (Nat.le_of_ble_eq_true rfl) rfl (fun _ _ _ => rfl) dL_law_1059 (fun r15 u15 w15 => ?_)
      obtain rfl := w15
      refine V_ws [(x0, oC 12 [.ref x1, .ref x30, .ref x59, .ref x88, .ref x117, .ref x126, .ref x127, .ref x129, .ref x132, .long 0]), (x1, oC 2 [.ref x2, .ref x4, .ref x6, .ref x8, .ref x10, .ref x12, .ref x14, .ref x16, .ref x18, .ref x20, .ref x27, .int 0]), (x2, oC 3 [.ref x3, .int 1]), (x4, oC 3 [.ref x5, .int 0]), (m0, oC 13 [.ref m1, .ref m2, .int 1, .ref m3, .ref m4, .int 0, .int 0, .int 0, .int (-1), .int 0, .int 0, .int 0, .long 0, .ref m5, .ref m6, .int 0, .int 0]), (m1, aI Y 3640 (clB 0 (fun _ => 0)))] rfl ?_
      refine V_iload 1062 B dL_law_1062 1 rfl ?_
      refine V_icmp_eq_t 1064 B 1069 dL_law_1064 (by decide) (by decide +kernel) ?_
      refine V_iload 1069 B dL_law_1069 1 rfl ?_
      refine V_if_ne_t 1071 B 1086 dL_law_1071 (by decide) (by decide +kernel) ?_
      refine V_goto 1086 B 3332 dL_law_1086 (by decide) ?_
      refine V_iinc 3332 B (v := 6) (lv2 := [(4, .int 6), (6, .int 0), (5, .int 1), (3, .ref o0), (2, .ref m0), (1, .ref x0), (0, .ref b)]) dL_law_3332 2 rfl (by decide +kernel) (by decide) rfl ?_
      refine V_goto 3335 B 23 dL_law_3335 (by decide) ?_
      refine V_iload 23 B dL_law_23 0 rfl ?_
      refine V_aload_n 25 B dL_law_25 6 rfl ?_
      refine V_slen 26 B hX hbl hbA (v := 6) (by decide +kernel) dL_law_26 ?_
      refine V_bipush 27 B (v := 6) dL_law_27 (by decide +kernel) ?_
      refine V_isub 29 B (v := 0) dL_law_29 (by decide +kernel) ?_
      refine V_icmp_gt_t 30 B 3338 dL_law_30 (by decide) (by decide +kernel) ?_
      exact law_end B (Nat.le_of_ble_eq_true rfl) (Nat.le_of_ble_eq_true rfl) dL_law_3338 dL_law_3339
    ·
      refine V_ws [(x0, oC 12 [.ref x1, .ref x30, .ref x59, .ref x88, .ref x117, .ref x126, .ref x127, .ref x129, .ref x132, .long 0]), (x1, oC 2 [.ref x2, .ref x4, .ref x6, .ref x8, .ref x10, .ref x12, .ref x14, .ref x16, .ref x18, .ref x20, .ref x27, .int 0]), (x2, oC 3 [.ref x3, .int 1]), (x4, oC 3 [.ref x5, .int 0]), (m0, oC 13 [.ref m1, .ref m2, .int 1, .ref m3, .ref m4, .int 0, .int 0, .int 0, .int (-1), .int 0, .int 0, .int 0, .long 0, .ref m5, .ref m6, .int 0, .int 0]), (m1, aI Y 3640 (clB 0 (fun _ => 0)))] rfl ?_
      exact (q_abs (b_gt k14 (n := 1) (by decide +kernel)) (b_lt k1 (n := (-1)) (by decide +kernel)) (by decide +kernel)).elim
  ·
    refine V_ws [(x0, oC 12 [.ref x1, .ref x30, .ref x59, .ref x88, .ref x117, .ref x126, .ref x127, .ref x129, .ref x132, .long 0]), (x1, oC 2 [.ref x2, .ref x4, .ref x6, .ref x8, .ref x10, .ref x12, .ref x14, .ref x16, .ref x18, .ref x20, .ref x27, .int 0]), (x2, oC 3 [.ref x3, .int 1]), (x4, oC 3 [.ref x5, .int 0]), (m0, oC 13 [.ref m1, .ref m2, .int 0, .ref m3, .ref m4, .int 0, .int 0, .int 0, .int (-1), .int 0, .int 0, .int 0, .long 0, .ref m5, .ref m6, .int 0, .int 0]), (m1, aI Y 3640 (clB 0 (fun _ => 0)))] rfl ?_
    refine V_istore 1038 B (lv2 := [(5, .int 1), (4, .int 0), (3, .ref o0), (2, .ref m0), (1, .ref x0), (0, .ref b)]) dL_law_1038 (by decide) rfl ?_
    refine V_aload_n 1040 B dL_law_1040 3 rfl ?_
    refine V_aload_n 1041 B dL_law_1041 5 rfl ?_
    refine V_iload 1042 B dL_law_1042 1 rfl ?_
    refine V_iconst 1044 B (v := 1) dL_law_1044 (by decide +kernel) ?_
    refine V_iadd 1045 B (v := 1) dL_law_1045 (by decide +kernel) ?_
    refine V_sld 1046 B hX hbl hbA (v := p1) (vpin _ _ (by decide +kernel)) dL_law_1046 e1 ?_
    refine V_aload_n 1047 B dL_law_1047 5 rfl ?_
    refine V_iload 1048 B dL_law_1048 1 rfl ?_
    refine V_iconst 1050 B (v := 2) dL_law_1050 (by decide +kernel) ?_
    refine V_iadd 1051 B (v := 2) dL_law_1051 (by decide +kernel) ?_
    refine V_sld 1052 B hX hbl hbA (v := p2) (vpin _ _ (by decide +kernel)) dL_law_1052 e2 ?_
    refine V_cvi 1053 B (st := []) (As := [.int p1, .int p2]) (fun sz => mX12_force_1 l D Y (m0) (m1) (m2) (m3) (m4) (m5) (m6) (p1) (p2) sz) glV_RL_221 ⟨rfl, rfl⟩ ⟨(Nat.le_of_ble_eq_true rfl), (Nat.le_of_ble_eq_true rfl)⟩ ⟨(Nat.le_of_ble_eq_true rfl), (Nat.le_of_ble_eq_true rfl)⟩ [4, 0] rfl 13 0 rfl rfl rfl rfl (Nat.le_of_ble_eq_true rfl) rfl (fun _ _ _ => rfl) dL_law_1053 (fun r16 u16 w16 => ?_)
    rcases w16 with ⟨k17, k18, rfl⟩ | ⟨k19, k20, rfl⟩ | ⟨k21, rfl⟩ | ⟨k22, rfl⟩
    ·
      refine V_ws [(x0, oC 12 [.ref x1, .ref x30, .ref x59, .ref x88, .ref x117, .ref x126, .ref x127, .ref x129, .ref x132, .long 0]), (x1, oC 2 [.ref x2, .ref x4, .ref x6, .ref x8, .ref x10, .ref x12, .ref x14, .ref x16, .ref x18, .ref x20, .ref x27, .int 0]), (x2, oC 3 [.ref x3, .int 1]), (x4, oC 3 [.ref x5, .int 0]), (m0, oC 13 [.ref m1, .ref m2, .int 1, .ref m3, .ref m4, .int 0, .int 0, .int 0, .int (-1), .int 0, .int 0, .int 0, .long 0, .ref m5, .ref m6, .int 0, .int 0]), (m1, aI Y 3640 (clB 0 (fun _ => 0)))] rfl ?_
      exact absurd k17 (q_nel (b_ge k3 (n := 1) (by decide +kernel)) (by decide +kernel))
    ·
      refine V_ws [(x0, oC 12 [.ref x1, .ref x30, .ref x59, .ref x88, .ref x117, .ref x126, .ref x127, .ref x129, .ref x132, .long 0]), (x1, oC 2 [.ref x2, .ref x4, .ref x6, .ref x8, .ref x10, .ref x12, .ref x14, .ref x16, .ref x18, .ref x20, .ref x27, .int 0]), (x2, oC 3 [.ref x3, .int 1]), (x4, oC 3 [.ref x5, .int 0]), (m0, oC 13 [.ref m1, .ref m2, .int 1, .ref m3, .ref m4, .int 0, .int 0, .int 0, .int (-1), .int 0, .int 0, .int 0, .long 0, .ref m5, .ref m6, .int 0, .int 0]), (m1, aI Y 3640 (clB 0 (fun _ => 0)))] rfl ?_
      exact absurd k19 (q_nel (b_ge k3 (n := 1) (by decide +kernel)) (by decide +kernel))
    ·
      refine V_ws [(x0, oC 12 [.ref x1, .ref x30, .ref x59, .ref x88, .ref x117, .ref x126, .ref x127, .ref x129, .ref x132, .long 0]), (x1, oC 2 [.ref x2, .ref x4, .ref x6, .ref x8, .ref x10, .ref x12, .ref x14, .ref x16, .ref x18, .ref x20, .ref x27, .int 0]), (x2, oC 3 [.ref x3, .int 1]), (x4, oC 3 [.ref x5, .int 0]), (m0, oC 13 [.ref m1, .ref m2, .int 1, .ref m3, .ref m4, .int 0, .int 0, .int 0, .int (-1), .int 0, .int 0, .int 0, .long 0, .ref m5, .ref m6, .int 0, .int 0]), (m1, aI Y 3640 (clB 0 (fun _ => 0)))] rfl ?_
      exact (q_abs (b_ge k3 (n := 1) (by decide +kernel)) (b_lt k21 (n := (-1)) (by decide +kernel)) (by decide +kernel)).elim
    ·
      refine V_ws [(x0, oC 12 [.ref x1, .ref x30, .ref x59, .ref x88, .ref x117, .ref x126, .ref x127, .ref x129, .ref x132, .long 0]), (x1, oC 2 [.ref x2, .ref x4, .ref x6, .ref x8, .ref x10, .ref x12, .ref x14, .ref x16, .ref x18, .ref x20, .ref x27, .int 0]), (x2, oC 3 [.ref x3, .int 1]), (x4, oC 3 [.ref x5, .int 0]), (m0, oC 13 [.ref m1, .ref m2, .int 1, .ref m3, .ref m4, .int 0, .int 0, .int 0, .int (-1), .int 0, .int 0, .int 0, .long 0, .ref m5, .ref m6, .int 0, .int 0]), (m1, aI Y 3640 (clB 0 (fun _ => 0)))] rfl ?_
      refine V_istore 1056 B (lv2 := [(6, .int 0), (5, .int 1), (4, .int 0), (3, .ref o0), (2, .ref m0), (1, .ref x0), (0, .ref b)]) dL_law_1056 (by decide) rfl ?_
      refine V_aload_n 1058 B dL_law_1058 4 rfl ?_
      refine V_cvi 1059 B (st := []) (As := []) (fun sz => mX12_thrown_2 l D Y (m0) (m1) (m2) (m3) (m4) (m5) (m6) sz) glV_RL_182 ⟨rfl, rfl⟩ ⟨(Nat.le_of_ble_eq_true rfl), (Nat.le_of_ble_eq_true rfl)⟩ ⟨(Nat.le_of_ble_eq_true rfl), (Nat.le_of_ble_eq_true rfl)⟩ [4] rfl 13 0 rfl rfl rfl rfl (Nat.le_of_ble_eq_true rfl) rfl (fun _ _ _ => rfl) dL_law_1059 (fun r23 u23 w23 => ?_)
      obtain rfl := w23
      refine V_ws [(x0, oC 12 [.ref x1, .ref x30, .ref x59, .ref x88, .ref x117, .ref x126, .ref x127, .ref x129, .ref x132, .long 0]), (x1, oC 2 [.ref x2, .ref x4, .ref x6, .ref x8, .ref x10, .ref x12, .ref x14, .ref x16, .ref x18, .ref x20, .ref x27, .int 0]), (x2, oC 3 [.ref x3, .int 1]), (x4, oC 3 [.ref x5, .int 0]), (m0, oC 13 [.ref m1, .ref m2, .int 1, .ref m3, .ref m4, .int 0, .int 0, .int 0, .int (-1), .int 0, .int 0, .int 0, .long 0, .ref m5, .ref m6, .int 0, .int 0]), (m1, aI Y 3640 (clB 0 (fun _ => 0)))] rfl ?_
      refine V_iload 1062 B dL_law_1062 1 rfl ?_
      refine V_icmp_eq_t 1064 B 1069 dL_law_1064 (by decide) (by decide +kernel) ?_
      refine V_iload 1069 B dL_law_1069 1 rfl ?_
      refine V_if_ne_t 1071 B 1086 dL_law_1071 (by decide) (by decide +kernel) ?_
      refine V_goto 1086 B 3332 dL_law_1086 (by decide) ?_
      refine V_iinc 3332 B (v := 6) (lv2 := [(4, .int 6), (6, .int 0), (5, .int 1), (3, .ref o0), (2, .ref m0), (1, .ref x0), (0, .ref b)]) dL_law_3332 2 rfl (by decide +kernel) (by decide) rfl ?_
      refine V_goto 3335 B 23 dL_law_3335 (by decide) ?_
      refine V_iload 23 B dL_law_23 0 rfl ?_
      refine V_aload_n 25 B dL_law_25 6 rfl ?_
      refine V_slen 26 B hX hbl hbA (v := 6) (by decide +kernel) dL_law_26 ?_
      refine V_bipush 27 B (v := 6) dL_law_27 (by decide +kernel) ?_
      refine V_isub 29 B (v := 0) dL_law_29 (by decide +kernel) ?_
      refine V_icmp_gt_t 30 B 3338 dL_law_30 (by decide) (by decide +kernel) ?_
      exact law_end B (Nat.le_of_ble_eq_true rfl) (Nat.le_of_ble_eq_true rfl) dL_law_3338 dL_law_3339
  ·
    refine V_ws [(x0, oC 12 [.ref x1, .ref x30, .ref x59, .ref x88, .ref x117, .ref x126, .ref x127, .ref x129, .ref x132, .long 0]), (x1, oC 2 [.ref x2, .ref x4, .ref x6, .ref x8, .ref x10, .ref x12, .ref x14, .ref x16, .ref x18, .ref x20, .ref x27, .int 0]), (x2, oC 3 [.ref x3, .int 1]), (x4, oC 3 [.ref x5, .int 0]), (m0, oC 13 [.ref m1, .ref m2, .int 0, .ref m3, .ref m4, .int 0, .int 0, .int 0, .int (-1), .int 0, .int 0, .int 0, .long 0, .ref m5, .ref m6, .int 0, .int 0]), (m1, aI Y 3640 (clB 0 (fun _ => 0)))] rfl ?_
    obtain rfl : p1 = 0 := k4
    refine V_istore 1038 B (lv2 := [(5, .int 1), (4, .int 0), (3, .ref o0), (2, .ref m0), (1, .ref x0), (0, .ref b)]) dL_law_1038 (by decide) rfl ?_
    refine V_aload_n 1040 B dL_law_1040 3 rfl ?_
    refine V_aload_n 1041 B dL_law_1041 5 rfl ?_
    refine V_iload 1042 B dL_law_1042 1 rfl ?_
    refine V_iconst 1044 B (v := 1) dL_law_1044 (by decide +kernel) ?_
    refine V_iadd 1045 B (v := 1) dL_law_1045 (by decide +kernel) ?_
    refine V_sld 1046 B hX hbl hbA (v := 0) (vpin _ _ (by decide +kernel)) dL_law_1046 e1 ?_
    refine V_aload_n 1047 B dL_law_1047 5 rfl ?_
    refine V_iload 1048 B dL_law_1048 1 rfl ?_
    refine V_iconst 1050 B (v := 2) dL_law_1050 (by decide +kernel) ?_
    refine V_iadd 1051 B (v := 2) dL_law_1051 (by decide +kernel) ?_
    refine V_sld 1052 B hX hbl hbA (v := p2) (vpin _ _ (by decide +kernel)) dL_law_1052 e2 ?_
    refine V_cvi 1053 B (st := []) (As := [.int 0, .int p2]) (fun sz => mX12_force_2 l D Y (m0) (m1) (m2) (m3) (m4) (m5) (m6) (p2) sz) glV_RL_221 ⟨rfl, rfl⟩ ⟨(Nat.le_of_ble_eq_true rfl), (Nat.le_of_ble_eq_true rfl)⟩ ⟨(Nat.le_of_ble_eq_true rfl), (Nat.le_of_ble_eq_true rfl)⟩ [4, 0] rfl 13 0 rfl rfl rfl rfl (Nat.le_of_ble_eq_true rfl) rfl (fun _ _ _ => rfl) dL_law_1053 (fun r24 u24 w24 => ?_)
    rcases w24 with ⟨k25, rfl⟩ | ⟨k26, rfl⟩
    ·
      refine V_ws [(x0, oC 12 [.ref x1, .ref x30, .ref x59, .ref x88, .ref x117, .ref x126, .ref x127, .ref x129, .ref x132, .long 0]), (x1, oC 2 [.ref x2, .ref x4, .ref x6, .ref x8, .ref x10, .ref x12, .ref x14, .ref x16, .ref x18, .ref x20, .ref x27, .int 0]), (x2, oC 3 [.ref x3, .int 1]), (x4, oC 3 [.ref x5, .int 0]), (m0, oC 13 [.ref m1, .ref m2, .int 1, .ref m3, .ref m4, .int 0, .int 0, .int 0, .int (-1), .int 0, .int 0, .int 0, .long 0, .ref m5, .ref m6, .int 0, .int 0]), (m1, aI Y 3640 (clB 0 (fun _ => 0)))] rfl ?_
      refine V_istore 1056 B (lv2 := [(6, .int 0), (5, .int 1), (4, .int 0), (3, .ref o0), (2, .ref m0), (1, .ref x0), (0, .ref b)]) dL_law_1056 (by decide) rfl ?_
      refine V_aload_n 1058 B dL_law_1058 4 rfl ?_
      refine V_cvi 1059 B (st := []) (As := []) (fun sz => mX12_thrown_2 l D Y (m0) (m1) (m2) (m3) (m4) (m5) (m6) sz) glV_RL_182 ⟨rfl, rfl⟩ ⟨(Nat.le_of_ble_eq_true rfl), (Nat.le_of_ble_eq_true rfl)⟩ ⟨(Nat.le_of_ble_eq_true rfl), (Nat.le_of_ble_eq_true rfl)⟩ [4] rfl 13 0 rfl rfl rfl rfl (Nat.le_of_ble_eq_true rfl) rfl (fun _ _ _ => rfl) dL_law_1059 (fun r27 u27 w27 => ?_)
      obtain rfl := w27
      refine V_ws [(x0, oC 12 [.ref x1, .ref x30, .ref x59, .ref x88, .ref x117, .ref x126, .ref x127, .ref x129, .ref x132, .long 0]), (x1, oC 2 [.ref x2, .ref x4, .ref x6, .ref x8, .ref x10, .ref x12, .ref x14, .ref x16, .ref x18, .ref x20, .ref x27, .int 0]), (x2, oC 3 [.ref x3, .int 1]), (x4, oC 3 [.ref x5, .int 0]), (m0, oC 13 [.ref m1, .ref m2, .int 1, .ref m3, .ref m4, .int 0, .int 0, .int 0, .int (-1), .int 0, .int 0, .int 0, .long 0, .ref m5, .ref m6, .int 0, .int 0]), (m1, aI Y 3640 (clB 0 (fun _ => 0)))] rfl ?_
      refine V_iload 1062 B dL_law_1062 1 rfl ?_
      refine V_icmp_eq_t 1064 B 1069 dL_law_1064 (by decide) (by decide +kernel) ?_
      refine V_iload 1069 B dL_law_1069 1 rfl ?_
      refine V_if_ne_t 1071 B 1086 dL_law_1071 (by decide) (by decide +kernel) ?_
      refine V_goto 1086 B 3332 dL_law_1086 (by decide) ?_
      refine V_iinc 3332 B (v := 6) (lv2 := [(4, .int 6), (6, .int 0), (5, .int 1), (3, .ref o0), (2, .ref m0), (1, .ref x0), (0, .ref b)]) dL_law_3332 2 rfl (by decide +kernel) (by decide) rfl ?_
      refine V_goto 3335 B 23 dL_law_3335 (by decide) ?_
      refine V_iload 23 B dL_law_23 0 rfl ?_
      refine V_aload_n 25 B dL_law_25 6 rfl ?_
      refine V_slen 26 B hX hbl hbA (v := 6) (by decide +kernel) dL_law_26 ?_
      refine V_bipush 27 B (v := 6) dL_law_27 (by decide +kernel) ?_
      refine V_isub 29 B (v := 0) dL_law_29 (by decide +kernel) ?_
      refine V_icmp_gt_t 30 B 3338 dL_law_30 (by decide) (by decide +kernel) ?_
      exact law_end B (Nat.le_of_ble_eq_true rfl) (Nat.le_of_ble_eq_true rfl) dL_law_3338 dL_law_3339
    ·
      refine V_ws [(x0, oC 12 [.ref x1, .ref x30, .ref x59, .ref x88, .ref x117, .ref x126, .ref x127, .ref x129, .ref x132, .long 0]), (x1, oC 2 [.ref x2, .ref x4, .ref x6, .ref x8, .ref x10, .ref x12, .ref x14, .ref x16, .ref x18, .ref x20, .ref x27, .int 0]), (x2, oC 3 [.ref x3, .int 1]), (x4, oC 3 [.ref x5, .int 0]), (m0, oC 13 [.ref m1, .ref m2, .int 1, .ref m3, .ref m4, .int 0, .int 0, .int 0, .int (-1), .int 0, .int 0, .int 0, .long 0, .ref m5, .ref m6, .int 0, .int 0]), (m1, aI Y 3640 (clB 0 (fun _ => 0)))] rfl ?_
      exact (q_abs (b_gt k26 (n := 0) (by decide +kernel)) (b_lt k5 (n := (-1)) (by decide +kernel)) (by decide +kernel)).elim
  ·
    refine V_ws [(x0, oC 12 [.ref x1, .ref x30, .ref x59, .ref x88, .ref x117, .ref x126, .ref x127, .ref x129, .ref x132, .long 0]), (x1, oC 2 [.ref x2, .ref x4, .ref x6, .ref x8, .ref x10, .ref x12, .ref x14, .ref x16, .ref x18, .ref x20, .ref x27, .int 0]), (x2, oC 3 [.ref x3, .int 1]), (x4, oC 3 [.ref x5, .int 0]), (m0, oC 13 [.ref m1, .ref m2, .int 0, .ref m3, .ref m4, .int 0, .int 0, .int 0, .int (-1), .int 0, .int 0, .int 0, .long 0, .ref m5, .ref m6, .int 0, .int 0]), (m1, aI Y 3640 (clB 0 (fun _ => 0)))] rfl ?_
    obtain rfl : p1 = 0 := k6
    refine V_istore 1038 B (lv2 := [(5, .int 1), (4, .int 0), (3, .ref o0), (2, .ref m0), (1, .ref x0), (0, .ref b)]) dL_law_1038 (by decide) rfl ?_
    refine V_aload_n 1040 B dL_law_1040 3 rfl ?_
    refine V_aload_n 1041 B dL_law_1041 5 rfl ?_
    refine V_iload 1042 B dL_law_1042 1 rfl ?_
    refine V_iconst 1044 B (v := 1) dL_law_1044 (by decide +kernel) ?_
    refine V_iadd 1045 B (v := 1) dL_law_1045 (by decide +kernel) ?_
    refine V_sld 1046 B hX hbl hbA (v := 0) (vpin _ _ (by decide +kernel)) dL_law_1046 e1 ?_
    refine V_aload_n 1047 B dL_law_1047 5 rfl ?_
    refine V_iload 1048 B dL_law_1048 1 rfl ?_
    refine V_iconst 1050 B (v := 2) dL_law_1050 (by decide +kernel) ?_
    refine V_iadd 1051 B (v := 2) dL_law_1051 (by decide +kernel) ?_
    refine V_sld 1052 B hX hbl hbA (v := p2) (vpin _ _ (by decide +kernel)) dL_law_1052 e2 ?_
    refine V_cvi 1053 B (st := []) (As := [.int 0, .int p2]) (fun sz => mX12_force_2 l D Y (m0) (m1) (m2) (m3) (m4) (m5) (m6) (p2) sz) glV_RL_221 ⟨rfl, rfl⟩ ⟨(Nat.le_of_ble_eq_true rfl), (Nat.le_of_ble_eq_true rfl)⟩ ⟨(Nat.le_of_ble_eq_true rfl), (Nat.le_of_ble_eq_true rfl)⟩ [4, 0] rfl 13 0 rfl rfl rfl rfl (Nat.le_of_ble_eq_true rfl) rfl (fun _ _ _ => rfl) dL_law_1053 (fun r28 u28 w28 => ?_)
    rcases w28 with ⟨k29, rfl⟩ | ⟨k30, rfl⟩
    ·
      refine V_ws [(x0, oC 12 [.ref x1, .ref x30, .ref x59, .ref x88, .ref x117, .ref x126, .ref x127, .ref x129, .ref x132, .long 0]), (x1, oC 2 [.ref x2, .ref x4, .ref x6, .ref x8, .ref x10, .ref x12, .ref x14, .ref x16, .ref x18, .ref x20, .ref x27, .int 0]), (x2, oC 3 [.ref x3, .int 1]), (x4, oC 3 [.ref x5, .int 0]), (m0, oC 13 [.ref m1, .ref m2, .int 1, .ref m3, .ref m4, .int 0, .int 0, .int 0, .int (-1), .int 0, .int 0, .int 0, .long 0, .ref m5, .ref m6, .int 0, .int 0]), (m1, aI Y 3640 (clB 0 (fun _ => 0)))] rfl ?_
      exact (q_abs (b_nlt k7 (n := 0) (by decide +kernel)) (b_lt k29 (n := (-1)) (by decide +kernel)) (by decide +kernel)).elim
    ·
      refine V_ws [(x0, oC 12 [.ref x1, .ref x30, .ref x59, .ref x88, .ref x117, .ref x126, .ref x127, .ref x129, .ref x132, .long 0]), (x1, oC 2 [.ref x2, .ref x4, .ref x6, .ref x8, .ref x10, .ref x12, .ref x14, .ref x16, .ref x18, .ref x20, .ref x27, .int 0]), (x2, oC 3 [.ref x3, .int 1]), (x4, oC 3 [.ref x5, .int 0]), (m0, oC 13 [.ref m1, .ref m2, .int 1, .ref m3, .ref m4, .int 0, .int 0, .int 0, .int (-1), .int 0, .int 0, .int 0, .long 0, .ref m5, .ref m6, .int 0, .int 0]), (m1, aI Y 3640 (clB 0 (fun _ => 0)))] rfl ?_
      refine V_istore 1056 B (lv2 := [(6, .int 0), (5, .int 1), (4, .int 0), (3, .ref o0), (2, .ref m0), (1, .ref x0), (0, .ref b)]) dL_law_1056 (by decide) rfl ?_
      refine V_aload_n 1058 B dL_law_1058 4 rfl ?_
      refine V_cvi 1059 B (st := []) (As := []) (fun sz => mX12_thrown_2 l D Y (m0) (m1) (m2) (m3) (m4) (m5) (m6) sz) glV_RL_182 ⟨rfl, rfl⟩ ⟨(Nat.le_of_ble_eq_true rfl), (Nat.le_of_ble_eq_true rfl)⟩ ⟨(Nat.le_of_ble_eq_true rfl), (Nat.le_of_ble_eq_true rfl)⟩ [4] rfl 13 0 rfl rfl rfl rfl (Nat.le_of_ble_eq_true rfl) rfl (fun _ _ _ => rfl) dL_law_1059 (fun r31 u31 w31 => ?_)
      obtain rfl := w31
      refine V_ws [(x0, oC 12 [.ref x1, .ref x30, .ref x59, .ref x88, .ref x117, .ref x126, .ref x127, .ref x129, .ref x132, .long 0]), (x1, oC 2 [.ref x2, .ref x4, .ref x6, .ref x8, .ref x10, .ref x12, .ref x14, .ref x16, .ref x18, .ref x20, .ref x27, .int 0]), (x2, oC 3 [.ref x3, .int 1]), (x4, oC 3 [.ref x5, .int 0]), (m0, oC 13 [.ref m1, .ref m2, .int 1, .ref m3, .ref m4, .int 0, .int 0, .int 0, .int (-1), .int 0, .int 0, .int 0, .long 0, .ref m5, .ref m6, .int 0, .int 0]), (m1, aI Y 3640 (clB 0 (fun _ => 0)))] rfl ?_
      refine V_iload 1062 B dL_law_1062 1 rfl ?_
      refine V_icmp_eq_t 1064 B 1069 dL_law_1064 (by decide) (by decide +kernel) ?_
      refine V_iload 1069 B dL_law_1069 1 rfl ?_
      refine V_if_ne_t 1071 B 1086 dL_law_1071 (by decide) (by decide +kernel) ?_
      refine V_goto 1086 B 3332 dL_law_1086 (by decide) ?_
      refine V_iinc 3332 B (v := 6) (lv2 := [(4, .int 6), (6, .int 0), (5, .int 1), (3, .ref o0), (2, .ref m0), (1, .ref x0), (0, .ref b)]) dL_law_3332 2 rfl (by decide +kernel) (by decide) rfl ?_
      refine V_goto 3335 B 23 dL_law_3335 (by decide) ?_
      refine V_iload 23 B dL_law_23 0 rfl ?_
      refine V_aload_n 25 B dL_law_25 6 rfl ?_
      refine V_slen 26 B hX hbl hbA (v := 6) (by decide +kernel) dL_law_26 ?_
      refine V_bipush 27 B (v := 6) dL_law_27 (by decide +kernel) ?_
      refine V_isub 29 B (v := 0) dL_law_29 (by decide +kernel) ?_
      refine V_icmp_gt_t 30 B 3338 dL_law_30 (by decide) (by decide +kernel) ?_
      exact law_end B (Nat.le_of_ble_eq_true rfl) (Nat.le_of_ble_eq_true rfl) dL_law_3338 dL_law_3339
theorem dL_move_0 : decode cL_move 0 = .ok (.aload_n 2, 1) := by decide +kernel
theorem dL_move_1 : decode cL_move 1 = .ok (.iconst 0, 1) := by decide +kernel
theorem dL_move_2 : decode cL_move 2 = .ok (.aload_n 0, 1) := by decide +kernel
theorem dL_move_3 : decode cL_move 3 = .ok (.iload_n 1, 1) := by decide +kernel
theorem dL_move_4 : decode cL_move 4 = .ok (.invokevirtual 42, 3) := by decide +kernel
theorem glV_RL_42 : GLV RL 42 yX11_move RX11 cX11_move 2 (some .int) 1 := ⟨⟨(mT5 220 rfl rfl), (mT5 221 rfl rfl), (mT5 222 rfl rfl), (mT1 1 rfl rfl), (mT5 223 rfl rfl)⟩, by decide +kernel⟩
theorem dL_move_12 : decode cL_move 12 = .ok (.astore_n 3, 1) := by decide +kernel
theorem dL_move_13 : decode cL_move 13 = .ok (.iconst 1, 1) := by decide +kernel
theorem dL_move_14 : decode cL_move 14 = .ok (.ireturn, 1) := by decide +kernel
set_option maxRecDepth 100000 in
set_option maxHeartbeats 4000000 in
theorem mL_move_1 (l : Launch) (hl9 : l.stackTraces = false) (D : va_G) (Y : Nat → ClassId) (h0 : Nat) (g0 : Nat) (h1 : Nat) (g1 : Nat) (g2 : Nat) (g3 : Nat) (g4 : Nat) (g5 : Nat) (g6 : Nat) (g7 : Nat) (g8 : Nat) (g9 : Nat) (g10 : Nat) (g11 : Nat) (g12 : Nat) (g13 : Nat) (h2 : Nat) (g14 : Nat) (g15 : Nat) (g16 : Nat) (g17 : Nat) (g18 : Nat) (g19 : Nat) (p0 : Int32) (sz : Nat) : Met l yL_move (Cond.codeWith yL_move cL_move 4 (some .int) [(0, 9, 12, 18)] :: lw_good) (mkR 8 1 6 124) (PreX D Y [.ref h0, .int p0, .ref g0] [(h0, oC 12 [.ref h1, .ref g1, .ref g2, .ref g3, .ref g4, .ref g5, .ref g6, .ref g7, .ref g8, .long 0]), (h1, oC 2 [.ref g9, .ref g10, .ref g11, .ref g12, .ref g13, .ref h2, .ref g14, .ref g15, .ref g16, .ref g17, .ref g18, .int 0]), (h2, oC 3 [.ref g19, .int 0])] sz) (QI D (fun (r : Int32) (u : Unit) => (p0 < 0 ∧ 1 = r) ∨ (¬ p0 < 0 ∧ 1 = r)) (fun (_ : Unit) => [(h0, oC 12 [.ref h1, .ref g1, .ref g2, .ref g3, .ref g4, .ref g5, .ref g6, .ref g7, .ref g8, .long 0]), (h1, oC 2 [.ref g9, .ref g10, .ref g11, .ref g12, .ref g13, .ref h2, .ref g14, .ref g15, .ref g16, .ref g17, .ref g18, .int 0]), (h2, oC 3 [.ref g19, .int 0])]) (va_A [(h0, oC 12 [.ref h1, .ref g1, .ref g2, .ref g3, .ref g4, .ref g5, .ref g6, .ref g7, .ref g8, .long 0]), (h1, oC 2 [.ref g9, .ref g10, .ref g11, .ref g12, .ref g13, .ref h2, .ref g14, .ref g15, .ref g16, .ref g17, .ref g18, .int 0]), (h2, oC 3 [.ref g19, .int 0])] sz)) 1 6 (va_A [(h0, oC 12 [.ref h1, .ref g1, .ref g2, .ref g3, .ref g4, .ref g5, .ref g6, .ref g7, .ref g8, .long 0]), (h1, oC 2 [.ref g9, .ref g10, .ref g11, .ref g12, .ref g13, .ref h2, .ref g14, .ref g15, .ref g16, .ref g17, .ref g18, .int 0]), (h2, oC 3 [.ref g19, .int 0])] sz) :=
  metH_of (by decide +kernel) (Nat.le_of_ble_eq_true rfl) (fun p e s m args below meth c B EB htab hsz => by
    have B : VB p s m args meth c D Y (va_A [(h0, oC 12 [.ref h1, .ref g1, .ref g2, .ref g3, .ref g4, .ref g5, .ref g6, .ref g7, .ref g8, .long 0]), (h1, oC 2 [.ref g9, .ref g10, .ref g11, .ref g12, .ref g13, .ref h2, .ref g14, .ref g15, .ref g16, .ref g17, .ref g18, .int 0]), (h2, oC 3 [.ref g19, .int 0])] sz) cL_move 4 RL (some .int) := B
    refine V_aload_n 0 B dL_move_0 2 rfl ?_
    refine V_iconst 1 B (v := 0) dL_move_1 (by decide +kernel) ?_
    refine V_aload_n 2 B dL_move_2 0 rfl ?_
    refine V_iload_n 3 B dL_move_3 1 rfl ?_
    refine V_xvi 4 B EB (st := [.int 0, .ref g0]) (As := [.int p0]) (fun sz => mX11_move_1 l hl9 D Y (h0) (h1) (g1) (g2) (g3) (g4) (g5) (g6) (g7) (g8) (g9) (g10) (g11) (g12) (g13) (h2) (g14) (g15) (g16) (g17) (g18) (g19) (p0) sz) glV_RL_42 ⟨rfl, rfl⟩ ⟨(Nat.le_of_ble_eq_true rfl), (Nat.le_of_ble_eq_true rfl)⟩ ⟨(Nat.le_of_ble_eq_true rfl), (Nat.le_of_ble_eq_true rfl)⟩ [0, 0, 0] rfl 12 0 rfl rfl rfl rfl (Nat.le_of_ble_eq_true rfl) rfl (fun _ _ _ => rfl) (fun _ _ _ => rfl) dL_move_4 (fun E u0 w0 => ?_) (fun r0 u0 w0 => ?_)
    ·
      rcases w0 with ⟨rfl, k1⟩ | ⟨rfl, k2⟩
      ·
        refine VX_catch 4 B htab [] (0, 9, 12, 18) [] rfl "java/lang/IndexOutOfBoundsException" (fun z hz => nomatch hz) rfl (by decide) (mT5 103 rfl rfl) (EB.2.2.2.1 _ (List.mem_of_getElem? (i := 1) rfl)) 12 rfl (fun q9 => ?_)
        refine V_ws [(h0, oC 12 [.ref h1, .ref g1, .ref g2, .ref g3, .ref g4, .ref g5, .ref g6, .ref g7, .ref g8, .long 0]), (h1, oC 2 [.ref g9, .ref g10, .ref g11, .ref g12, .ref g13, .ref h2, .ref g14, .ref g15, .ref g16, .ref g17, .ref g18, .int 0]), (h2, oC 3 [.ref g19, .int 0])] rfl ?_
        refine V_astore_n 12 B (lv2 := [(3, .ref q9), (0, .ref h0), (1, .int p0), (2, .ref g0)]) dL_move_12 (by decide) rfl ?_
        refine V_iconst 13 B (v := 1) dL_move_13 (by decide +kernel) ?_
        exact V_iret 14 B dL_move_14 () (Or.inl ⟨k1, rfl⟩) rfl
      ·
        refine VX_catch 4 B htab [] (0, 9, 12, 18) [] rfl "java/lang/IndexOutOfBoundsException" (fun z hz => nomatch hz) rfl (by decide) (mT5 103 rfl rfl) (EB.2.2.2.1 _ (List.mem_of_getElem? (i := 1) rfl)) 12 rfl (fun q9 => ?_)
        refine V_ws [(h0, oC 12 [.ref h1, .ref g1, .ref g2, .ref g3, .ref g4, .ref g5, .ref g6, .ref g7, .ref g8, .long 0]), (h1, oC 2 [.ref g9, .ref g10, .ref g11, .ref g12, .ref g13, .ref h2, .ref g14, .ref g15, .ref g16, .ref g17, .ref g18, .int 0]), (h2, oC 3 [.ref g19, .int 0])] rfl ?_
        refine V_astore_n 12 B (lv2 := [(3, .ref q9), (0, .ref h0), (1, .int p0), (2, .ref g0)]) dL_move_12 (by decide) rfl ?_
        refine V_iconst 13 B (v := 1) dL_move_13 (by decide +kernel) ?_
        exact V_iret 14 B dL_move_14 () (Or.inr ⟨k2, rfl⟩) rfl
    ·
      exact w0.elim)
theorem dL_law_1089 : decode cL_law 1089 = .ok (.aload_n 1, 1) := by decide +kernel
theorem dL_law_1090 : decode cL_law 1090 = .ok (.aload_n 0, 1) := by decide +kernel
theorem dL_law_1091 : decode cL_law 1091 = .ok (.iload 4, 2) := by decide +kernel
theorem dL_law_1093 : decode cL_law 1093 = .ok (.iconst 1, 1) := by decide +kernel
theorem dL_law_1094 : decode cL_law 1094 = .ok (.iadd, 1) := by decide +kernel
theorem dL_law_1095 : decode cL_law 1095 = .ok (.iaload, 1) := by decide +kernel
theorem dL_law_1096 : decode cL_law 1096 = .ok (.aload_n 3, 1) := by decide +kernel
theorem dL_law_1097 : decode cL_law 1097 = .ok (.invokestatic 222, 3) := by decide +kernel
theorem glH_RL_222 : GLH RL 222 yL_move cL_move 4 (some .int) [(0, 9, 12, 18)] 3 := ⟨⟨(mT5 217 rfl rfl), (mT5 218 rfl rfl), (mT1 0 rfl rfl), (mT5 219 rfl rfl)⟩, by decide +kernel⟩
theorem dL_law_1100 : decode cL_law 1100 = .ok (.istore 5, 2) := by decide +kernel
theorem dL_law_1102 : decode cL_law 1102 = .ok (.aload_n 2, 1) := by decide +kernel
theorem dL_law_1103 : decode cL_law 1103 = .ok (.aload_n 0, 1) := by decide +kernel
theorem dL_law_1104 : decode cL_law 1104 = .ok (.iload 4, 2) := by decide +kernel
theorem dL_law_1106 : decode cL_law 1106 = .ok (.iconst 1, 1) := by decide +kernel
theorem dL_law_1107 : decode cL_law 1107 = .ok (.iadd, 1) := by decide +kernel
theorem dL_law_1108 : decode cL_law 1108 = .ok (.iaload, 1) := by decide +kernel
theorem dL_law_1109 : decode cL_law 1109 = .ok (.invokevirtual 224, 3) := by decide +kernel
theorem glV_RL_224 : GLV RL 224 yX12_move RX12 cX12_move 2 (some .int) 1 := ⟨⟨(mT8 136 rfl rfl), (mT8 137 rfl rfl), (mT8 138 rfl rfl), (mT1 13 rfl rfl), (mT8 139 rfl rfl)⟩, by decide +kernel⟩
theorem dL_law_1112 : decode cL_law 1112 = .ok (.istore 6, 2) := by decide +kernel
theorem dL_law_1114 : decode cL_law 1114 = .ok (.aload_n 2, 1) := by decide +kernel
theorem dL_law_1115 : decode cL_law 1115 = .ok (.invokevirtual 182, 3) := by decide +kernel
theorem dL_law_1118 : decode cL_law 1118 = .ok (.iload 5, 2) := by decide +kernel
theorem dL_law_1120 : decode cL_law 1120 = .ok (.if_icmp .eq 5, 3) := by decide +kernel
theorem dL_law_1125 : decode cL_law 1125 = .ok (.iload 5, 2) := by decide +kernel
theorem dL_law_1127 : decode cL_law 1127 = .ok (.ifCond .ne 15, 3) := by decide +kernel
theorem dL_law_1142 : decode cL_law 1142 = .ok (.goto 2190, 3) := by decide +kernel
set_option maxRecDepth 100000 in
set_option maxHeartbeats 4000000 in
theorem law_c18 {p : Program} {l : Launch} {e : Env} {s : State} {m : MethodId} {below : List Frame} {meth : Method} {c : Code} {b : Nat} {xs : Nat → Int32} {D : va_G} {Y : Nat → ClassId} (B : VB p s m #[Value.ref b] meth c D Y (fun q => s.heap.size ≤ q) cL_law 8 RL ret) (EB : EX (fun q => s.heap.size ≤ q) s s.heap) (hl9 : l.stackTraces = false) (hX : va_X b 6 xs s s.heap) (hbl : b < s.heap.size) (hbA : ¬ (fun q => s.heap.size ≤ q) b) (x0 x1 x30 x59 x88 x117 x126 x127 x129 x132 x2 x4 x6 x8 x10 x12 x14 x16 x18 x20 x27 x13 m0 m1 m2 m3 m4 m5 m6 o0 : Nat) (p1 : Int32) (e1 : xs 1 = p1) : V p l e room_1 s m #[Value.ref b] below meth c D (fun q => s.heap.size ≤ q) 8 149 10574 (lw_Z below #[Value.ref b] s) 1089 [(4, .int 0), (3, .ref o0), (2, .ref m0), (1, .ref x0), (0, .ref b)] [] [(x0, oC 12 [.ref x1, .ref x30, .ref x59, .ref x88, .ref x117, .ref x126, .ref x127, .ref x129, .ref x132, .long 0]), (x1, oC 2 [.ref x2, .ref x4, .ref x6, .ref x8, .ref x10, .ref x12, .ref x14, .ref x16, .ref x18, .ref x20, .ref x27, .int 0]), (x12, oC 3 [.ref x13, .int 0]), (m0, oC 13 [.ref m1, .ref m2, .int 0, .ref m3, .ref m4, .int 0, .int 0, .int 0, .int (-1), .int 0, .int 0, .int 0, .long 0, .ref m5, .ref m6, .int 0, .int 0]), (m1, aI Y 3640 (clB 0 (fun _ => 0)))] := by
  refine V_aload_n 1089 B dL_law_1089 3 rfl ?_
  refine V_aload_n 1090 B dL_law_1090 4 rfl ?_
  refine V_iload 1091 B dL_law_1091 0 rfl ?_
  refine V_iconst 1093 B (v := 1) dL_law_1093 (by decide +kernel) ?_
  refine V_iadd 1094 B (v := 1) dL_law_1094 (by decide +kernel) ?_
  refine V_sld 1095 B hX hbl hbA (v := p1) (vpin _ _ (by decide +kernel)) dL_law_1095 e1 ?_
  refine V_aload_n 1096 B dL_law_1096 1 rfl ?_
  refine V_hsi 1097 B EB (st := []) (As := [.ref x0, .int p1, .ref o0]) (fun sz => mL_move_1 l hl9 D Y (x0) (o0) (x1) (x30) (x59) (x88) (x117) (x126) (x127) (x129) (x132) (x2) (x4) (x6) (x8) (x10) (x12) (x14) (x16) (x18) (x20) (x27) (x13) (p1) sz) glH_RL_222 ⟨rfl, rfl⟩ ⟨(Nat.le_of_ble_eq_true rfl), (Nat.le_of_ble_eq_true rfl)⟩ ⟨(Nat.le_of_ble_eq_true rfl), (Nat.le_of_ble_eq_true rfl)⟩ [0, 0, 0] rfl rfl (Nat.le_of_ble_eq_true rfl) rfl (fun _ _ _ => rfl) dL_law_1097 (fun r0 u0 w0 => ?_)
  rcases w0 with ⟨k1, rfl⟩ | ⟨k2, rfl⟩
  ·
    refine V_ws [(x0, oC 12 [.ref x1, .ref x30, .ref x59, .ref x88, .ref x117, .ref x126, .ref x127, .ref x129, .ref x132, .long 0]), (x1, oC 2 [.ref x2, .ref x4, .ref x6, .ref x8, .ref x10, .ref x12, .ref x14, .ref x16, .ref x18, .ref x20, .ref x27, .int 0]), (x12, oC 3 [.ref x13, .int 0]), (m0, oC 13 [.ref m1, .ref m2, .int 0, .ref m3, .ref m4, .int 0, .int 0, .int 0, .int (-1), .int 0, .int 0, .int 0, .long 0, .ref m5, .ref m6, .int 0, .int 0]), (m1, aI Y 3640 (clB 0 (fun _ => 0)))] rfl ?_
    refine V_istore 1100 B (lv2 := [(5, .int 1), (4, .int 0), (3, .ref o0), (2, .ref m0), (1, .ref x0), (0, .ref b)]) dL_law_1100 (by decide) rfl ?_
    refine V_aload_n 1102 B dL_law_1102 3 rfl ?_
    refine V_aload_n 1103 B dL_law_1103 5 rfl ?_
    refine V_iload 1104 B dL_law_1104 1 rfl ?_
    refine V_iconst 1106 B (v := 1) dL_law_1106 (by decide +kernel) ?_
    refine V_iadd 1107 B (v := 1) dL_law_1107 (by decide +kernel) ?_
    refine V_sld 1108 B hX hbl hbA (v := p1) (vpin _ _ (by decide +kernel)) dL_law_1108 e1 ?_
    refine V_cvi 1109 B (st := []) (As := [.int p1]) (fun sz => mX12_move_1 l D Y (m0) (m1) (m2) (m3) (m4) (m5) (m6) (p1) sz) glV_RL_224 ⟨rfl, rfl⟩ ⟨(Nat.le_of_ble_eq_true rfl), (Nat.le_of_ble_eq_true rfl)⟩ ⟨(Nat.le_of_ble_eq_true rfl), (Nat.le_of_ble_eq_true rfl)⟩ [3, 0] rfl 13 0 rfl rfl rfl rfl (Nat.le_of_ble_eq_true rfl) rfl (fun _ _ _ => rfl) dL_law_1109 (fun r3 u3 w3 => ?_)
    rcases w3 with ⟨k4, rfl⟩ | ⟨k5, rfl⟩
    ·
      refine V_ws [(x0, oC 12 [.ref x1, .ref x30, .ref x59, .ref x88, .ref x117, .ref x126, .ref x127, .ref x129, .ref x132, .long 0]), (x1, oC 2 [.ref x2, .ref x4, .ref x6, .ref x8, .ref x10, .ref x12, .ref x14, .ref x16, .ref x18, .ref x20, .ref x27, .int 0]), (x12, oC 3 [.ref x13, .int 0]), (m0, oC 13 [.ref m1, .ref m2, .int 1, .ref m3, .ref m4, .int 0, .int 0, .int 0, .int (-1), .int 0, .int 0, .int 0, .long 0, .ref m5, .ref m6, .int 0, .int 0]), (m1, aI Y 3640 (clB 0 (fun _ => 0)))] rfl ?_
      refine V_istore 1112 B (lv2 := [(6, .int 0), (5, .int 1), (4, .int 0), (3, .ref o0), (2, .ref m0), (1, .ref x0), (0, .ref b)]) dL_law_1112 (by decide) rfl ?_
      refine V_aload_n 1114 B dL_law_1114 4 rfl ?_
      refine V_cvi 1115 B (st := []) (As := []) (fun sz => mX12_thrown_2 l D Y (m0) (m1) (m2) (m3) (m4) (m5) (m6) sz) glV_RL_182 ⟨rfl, rfl⟩ ⟨(Nat.le_of_ble_eq_true rfl), (Nat.le_of_ble_eq_true rfl)⟩ ⟨(Nat.le_of_ble_eq_true rfl), (Nat.le_of_ble_eq_true rfl)⟩ [3] rfl 13 0 rfl rfl rfl rfl (Nat.le_of_ble_eq_true rfl) rfl (fun _ _ _ => rfl) dL_law_1115 (fun r6 u6 w6 => ?_)
      obtain rfl := w6
      refine V_ws [(x0, oC 12 [.ref x1, .ref x30, .ref x59, .ref x88, .ref x117, .ref x126, .ref x127, .ref x129, .ref x132, .long 0]), (x1, oC 2 [.ref x2, .ref x4, .ref x6, .ref x8, .ref x10, .ref x12, .ref x14, .ref x16, .ref x18, .ref x20, .ref x27, .int 0]), (x12, oC 3 [.ref x13, .int 0]), (m0, oC 13 [.ref m1, .ref m2, .int 1, .ref m3, .ref m4, .int 0, .int 0, .int 0, .int (-1), .int 0, .int 0, .int 0, .long 0, .ref m5, .ref m6, .int 0, .int 0]), (m1, aI Y 3640 (clB 0 (fun _ => 0)))] rfl ?_
      refine V_iload 1118 B dL_law_1118 1 rfl ?_
      refine V_icmp_eq_t 1120 B 1125 dL_law_1120 (by decide) (by decide +kernel) ?_
      refine V_iload 1125 B dL_law_1125 1 rfl ?_
      refine V_if_ne_t 1127 B 1142 dL_law_1127 (by decide) (by decide +kernel) ?_
      refine V_goto 1142 B 3332 dL_law_1142 (by decide) ?_
      refine V_iinc 3332 B (v := 6) (lv2 := [(4, .int 6), (6, .int 0), (5, .int 1), (3, .ref o0), (2, .ref m0), (1, .ref x0), (0, .ref b)]) dL_law_3332 2 rfl (by decide +kernel) (by decide) rfl ?_
      refine V_goto 3335 B 23 dL_law_3335 (by decide) ?_
      refine V_iload 23 B dL_law_23 0 rfl ?_
      refine V_aload_n 25 B dL_law_25 6 rfl ?_
      refine V_slen 26 B hX hbl hbA (v := 6) (by decide +kernel) dL_law_26 ?_
      refine V_bipush 27 B (v := 6) dL_law_27 (by decide +kernel) ?_
      refine V_isub 29 B (v := 0) dL_law_29 (by decide +kernel) ?_
      refine V_icmp_gt_t 30 B 3338 dL_law_30 (by decide) (by decide +kernel) ?_
      exact law_end B (Nat.le_of_ble_eq_true rfl) (Nat.le_of_ble_eq_true rfl) dL_law_3338 dL_law_3339
    ·
      refine V_ws [(x0, oC 12 [.ref x1, .ref x30, .ref x59, .ref x88, .ref x117, .ref x126, .ref x127, .ref x129, .ref x132, .long 0]), (x1, oC 2 [.ref x2, .ref x4, .ref x6, .ref x8, .ref x10, .ref x12, .ref x14, .ref x16, .ref x18, .ref x20, .ref x27, .int 0]), (x12, oC 3 [.ref x13, .int 0]), (m0, oC 13 [.ref m1, .ref m2, .int 1, .ref m3, .ref m4, .int 0, .int 0, .int 0, .int (-1), .int 0, .int 0, .int 0, .long 0, .ref m5, .ref m6, .int 0, .int 0]), (m1, aI Y 3640 (clB 0 (fun _ => 0)))] rfl ?_
      exact (q_abs (b_gt k5 (n := 0) (by decide +kernel)) (b_lt k1 (n := (-1)) (by decide +kernel)) (by decide +kernel)).elim
  ·
    refine V_ws [(x0, oC 12 [.ref x1, .ref x30, .ref x59, .ref x88, .ref x117, .ref x126, .ref x127, .ref x129, .ref x132, .long 0]), (x1, oC 2 [.ref x2, .ref x4, .ref x6, .ref x8, .ref x10, .ref x12, .ref x14, .ref x16, .ref x18, .ref x20, .ref x27, .int 0]), (x12, oC 3 [.ref x13, .int 0]), (m0, oC 13 [.ref m1, .ref m2, .int 0, .ref m3, .ref m4, .int 0, .int 0, .int 0, .int (-1), .int 0, .int 0, .int 0, .long 0, .ref m5, .ref m6, .int 0, .int 0]), (m1, aI Y 3640 (clB 0 (fun _ => 0)))] rfl ?_
    refine V_istore 1100 B (lv2 := [(5, .int 1), (4, .int 0), (3, .ref o0), (2, .ref m0), (1, .ref x0), (0, .ref b)]) dL_law_1100 (by decide) rfl ?_
    refine V_aload_n 1102 B dL_law_1102 3 rfl ?_
    refine V_aload_n 1103 B dL_law_1103 5 rfl ?_
    refine V_iload 1104 B dL_law_1104 1 rfl ?_
    refine V_iconst 1106 B (v := 1) dL_law_1106 (by decide +kernel) ?_
    refine V_iadd 1107 B (v := 1) dL_law_1107 (by decide +kernel) ?_
    refine V_sld 1108 B hX hbl hbA (v := p1) (vpin _ _ (by decide +kernel)) dL_law_1108 e1 ?_
    refine V_cvi 1109 B (st := []) (As := [.int p1]) (fun sz => mX12_move_1 l D Y (m0) (m1) (m2) (m3) (m4) (m5) (m6) (p1) sz) glV_RL_224 ⟨rfl, rfl⟩ ⟨(Nat.le_of_ble_eq_true rfl), (Nat.le_of_ble_eq_true rfl)⟩ ⟨(Nat.le_of_ble_eq_true rfl), (Nat.le_of_ble_eq_true rfl)⟩ [3, 0] rfl 13 0 rfl rfl rfl rfl (Nat.le_of_ble_eq_true rfl) rfl (fun _ _ _ => rfl) dL_law_1109 (fun r7 u7 w7 => ?_)
    rcases w7 with ⟨k8, rfl⟩ | ⟨k9, rfl⟩
    ·
      refine V_ws [(x0, oC 12 [.ref x1, .ref x30, .ref x59, .ref x88, .ref x117, .ref x126, .ref x127, .ref x129, .ref x132, .long 0]), (x1, oC 2 [.ref x2, .ref x4, .ref x6, .ref x8, .ref x10, .ref x12, .ref x14, .ref x16, .ref x18, .ref x20, .ref x27, .int 0]), (x12, oC 3 [.ref x13, .int 0]), (m0, oC 13 [.ref m1, .ref m2, .int 1, .ref m3, .ref m4, .int 0, .int 0, .int 0, .int (-1), .int 0, .int 0, .int 0, .long 0, .ref m5, .ref m6, .int 0, .int 0]), (m1, aI Y 3640 (clB 0 (fun _ => 0)))] rfl ?_
      exact (q_abs (b_nlt k2 (n := 0) (by decide +kernel)) (b_lt k8 (n := (-1)) (by decide +kernel)) (by decide +kernel)).elim
    ·
      refine V_ws [(x0, oC 12 [.ref x1, .ref x30, .ref x59, .ref x88, .ref x117, .ref x126, .ref x127, .ref x129, .ref x132, .long 0]), (x1, oC 2 [.ref x2, .ref x4, .ref x6, .ref x8, .ref x10, .ref x12, .ref x14, .ref x16, .ref x18, .ref x20, .ref x27, .int 0]), (x12, oC 3 [.ref x13, .int 0]), (m0, oC 13 [.ref m1, .ref m2, .int 1, .ref m3, .ref m4, .int 0, .int 0, .int 0, .int (-1), .int 0, .int 0, .int 0, .long 0, .ref m5, .ref m6, .int 0, .int 0]), (m1, aI Y 3640 (clB 0 (fun _ => 0)))] rfl ?_
      refine V_istore 1112 B (lv2 := [(6, .int 0), (5, .int 1), (4, .int 0), (3, .ref o0), (2, .ref m0), (1, .ref x0), (0, .ref b)]) dL_law_1112 (by decide) rfl ?_
      refine V_aload_n 1114 B dL_law_1114 4 rfl ?_
      refine V_cvi 1115 B (st := []) (As := []) (fun sz => mX12_thrown_2 l D Y (m0) (m1) (m2) (m3) (m4) (m5) (m6) sz) glV_RL_182 ⟨rfl, rfl⟩ ⟨(Nat.le_of_ble_eq_true rfl), (Nat.le_of_ble_eq_true rfl)⟩ ⟨(Nat.le_of_ble_eq_true rfl), (Nat.le_of_ble_eq_true rfl)⟩ [3] rfl 13 0 rfl rfl rfl rfl (Nat.le_of_ble_eq_true rfl) rfl (fun _ _ _ => rfl) dL_law_1115 (fun r10 u10 w10 => ?_)
      obtain rfl := w10
      refine V_ws [(x0, oC 12 [.ref x1, .ref x30, .ref x59, .ref x88, .ref x117, .ref x126, .ref x127, .ref x129, .ref x132, .long 0]), (x1, oC 2 [.ref x2, .ref x4, .ref x6, .ref x8, .ref x10, .ref x12, .ref x14, .ref x16, .ref x18, .ref x20, .ref x27, .int 0]), (x12, oC 3 [.ref x13, .int 0]), (m0, oC 13 [.ref m1, .ref m2, .int 1, .ref m3, .ref m4, .int 0, .int 0, .int 0, .int (-1), .int 0, .int 0, .int 0, .long 0, .ref m5, .ref m6, .int 0, .int 0]), (m1, aI Y 3640 (clB 0 (fun _ => 0)))] rfl ?_
      refine V_iload 1118 B dL_law_1118 1 rfl ?_
      refine V_icmp_eq_t 1120 B 1125 dL_law_1120 (by decide) (by decide +kernel) ?_
      refine V_iload 1125 B dL_law_1125 1 rfl ?_
      refine V_if_ne_t 1127 B 1142 dL_law_1127 (by decide) (by decide +kernel) ?_
      refine V_goto 1142 B 3332 dL_law_1142 (by decide) ?_
      refine V_iinc 3332 B (v := 6) (lv2 := [(4, .int 6), (6, .int 0), (5, .int 1), (3, .ref o0), (2, .ref m0), (1, .ref x0), (0, .ref b)]) dL_law_3332 2 rfl (by decide +kernel) (by decide) rfl ?_
      refine V_goto 3335 B 23 dL_law_3335 (by decide) ?_
      refine V_iload 23 B dL_law_23 0 rfl ?_
      refine V_aload_n 25 B dL_law_25 6 rfl ?_
      refine V_slen 26 B hX hbl hbA (v := 6) (by decide +kernel) dL_law_26 ?_
      refine V_bipush 27 B (v := 6) dL_law_27 (by decide +kernel) ?_
      refine V_isub 29 B (v := 0) dL_law_29 (by decide +kernel) ?_
      refine V_icmp_gt_t 30 B 3338 dL_law_30 (by decide) (by decide +kernel) ?_
      exact law_end B (Nat.le_of_ble_eq_true rfl) (Nat.le_of_ble_eq_true rfl) dL_law_3338 dL_law_3339
theorem dL_unbind_0 : decode cL_unbind 0 = .ok (.aload_n 2, 1) := by decide +kernel
theorem dL_unbind_1 : decode cL_unbind 1 = .ok (.iconst 0, 1) := by decide +kernel
theorem dL_unbind_2 : decode cL_unbind 2 = .ok (.aload_n 0, 1) := by decide +kernel
theorem dL_unbind_3 : decode cL_unbind 3 = .ok (.iload_n 1, 1) := by decide +kernel
theorem dL_unbind_4 : decode cL_unbind 4 = .ok (.invokevirtual 45, 3) := by decide +kernel
theorem glV_RL_45 : GLV RL 45 yX11_unbind RX11 cX11_unbind 2 (some .int) 1 := ⟨⟨(mT5 236 rfl rfl), (mT5 237 rfl rfl), (mT5 238 rfl rfl), (mT1 1 rfl rfl), (mT5 239 rfl rfl)⟩, by decide +kernel⟩
theorem dL_unbind_12 : decode cL_unbind 12 = .ok (.astore_n 3, 1) := by decide +kernel
theorem dL_unbind_13 : decode cL_unbind 13 = .ok (.iconst 1, 1) := by decide +kernel
theorem dL_unbind_14 : decode cL_unbind 14 = .ok (.ireturn, 1) := by decide +kernel
set_option maxRecDepth 100000 in
set_option maxHeartbeats 4000000 in
theorem mL_unbind_1 (l : Launch) (hl9 : l.stackTraces = false) (D : va_G) (Y : Nat → ClassId) (h0 : Nat) (g0 : Nat) (h1 : Nat) (g1 : Nat) (g2 : Nat) (g3 : Nat) (g4 : Nat) (g5 : Nat) (g6 : Nat) (g7 : Nat) (g8 : Nat) (g9 : Nat) (g10 : Nat) (g11 : Nat) (g12 : Nat) (g13 : Nat) (h2 : Nat) (g14 : Nat) (g15 : Nat) (g16 : Nat) (g17 : Nat) (g18 : Nat) (g19 : Nat) (p0 : Int32) (sz : Nat) : Met l yL_unbind (Cond.codeWith yL_unbind cL_unbind 4 (some .int) [(0, 9, 12, 18)] :: lw_good) (mkR 8 1 6 124) (PreX D Y [.ref h0, .int p0, .ref g0] [(h0, oC 12 [.ref h1, .ref g1, .ref g2, .ref g3, .ref g4, .ref g5, .ref g6, .ref g7, .ref g8, .long 0]), (h1, oC 2 [.ref g9, .ref g10, .ref g11, .ref g12, .ref g13, .ref h2, .ref g14, .ref g15, .ref g16, .ref g17, .ref g18, .int 0]), (h2, oC 3 [.ref g19, .int 0])] sz) (QI D (fun (r : Int32) (u : Unit) => (p0 < 0 ∧ 1 = r) ∨ (¬ p0 < 0 ∧ 1 = r)) (fun (_ : Unit) => [(h0, oC 12 [.ref h1, .ref g1, .ref g2, .ref g3, .ref g4, .ref g5, .ref g6, .ref g7, .ref g8, .long 0]), (h1, oC 2 [.ref g9, .ref g10, .ref g11, .ref g12, .ref g13, .ref h2, .ref g14, .ref g15, .ref g16, .ref g17, .ref g18, .int 0]), (h2, oC 3 [.ref g19, .int 0])]) (va_A [(h0, oC 12 [.ref h1, .ref g1, .ref g2, .ref g3, .ref g4, .ref g5, .ref g6, .ref g7, .ref g8, .long 0]), (h1, oC 2 [.ref g9, .ref g10, .ref g11, .ref g12, .ref g13, .ref h2, .ref g14, .ref g15, .ref g16, .ref g17, .ref g18, .int 0]), (h2, oC 3 [.ref g19, .int 0])] sz)) 1 6 (va_A [(h0, oC 12 [.ref h1, .ref g1, .ref g2, .ref g3, .ref g4, .ref g5, .ref g6, .ref g7, .ref g8, .long 0]), (h1, oC 2 [.ref g9, .ref g10, .ref g11, .ref g12, .ref g13, .ref h2, .ref g14, .ref g15, .ref g16, .ref g17, .ref g18, .int 0]), (h2, oC 3 [.ref g19, .int 0])] sz) :=
  metH_of (by decide +kernel) (Nat.le_of_ble_eq_true rfl) (fun p e s m args below meth c B EB htab hsz => by
    have B : VB p s m args meth c D Y (va_A [(h0, oC 12 [.ref h1, .ref g1, .ref g2, .ref g3, .ref g4, .ref g5, .ref g6, .ref g7, .ref g8, .long 0]), (h1, oC 2 [.ref g9, .ref g10, .ref g11, .ref g12, .ref g13, .ref h2, .ref g14, .ref g15, .ref g16, .ref g17, .ref g18, .int 0]), (h2, oC 3 [.ref g19, .int 0])] sz) cL_unbind 4 RL (some .int) := B
    refine V_aload_n 0 B dL_unbind_0 2 rfl ?_
    refine V_iconst 1 B (v := 0) dL_unbind_1 (by decide +kernel) ?_
    refine V_aload_n 2 B dL_unbind_2 0 rfl ?_
    refine V_iload_n 3 B dL_unbind_3 1 rfl ?_
    refine V_xvi 4 B EB (st := [.int 0, .ref g0]) (As := [.int p0]) (fun sz => mX11_unbind_1 l hl9 D Y (h0) (h1) (g1) (g2) (g3) (g4) (g5) (g6) (g7) (g8) (g9) (g10) (g11) (g12) (g13) (h2) (g14) (g15) (g16) (g17) (g18) (g19) (p0) sz) glV_RL_45 ⟨rfl, rfl⟩ ⟨(Nat.le_of_ble_eq_true rfl), (Nat.le_of_ble_eq_true rfl)⟩ ⟨(Nat.le_of_ble_eq_true rfl), (Nat.le_of_ble_eq_true rfl)⟩ [0, 0, 0] rfl 12 0 rfl rfl rfl rfl (Nat.le_of_ble_eq_true rfl) rfl (fun _ _ _ => rfl) (fun _ _ _ => rfl) dL_unbind_4 (fun E u0 w0 => ?_) (fun r0 u0 w0 => ?_)
    ·
      rcases w0 with ⟨rfl, k1⟩ | ⟨rfl, k2⟩
      ·
        refine VX_catch 4 B htab [] (0, 9, 12, 18) [] rfl "java/lang/IndexOutOfBoundsException" (fun z hz => nomatch hz) rfl (by decide) (mT5 103 rfl rfl) (EB.2.2.2.1 _ (List.mem_of_getElem? (i := 1) rfl)) 12 rfl (fun q9 => ?_)
        refine V_ws [(h0, oC 12 [.ref h1, .ref g1, .ref g2, .ref g3, .ref g4, .ref g5, .ref g6, .ref g7, .ref g8, .long 0]), (h1, oC 2 [.ref g9, .ref g10, .ref g11, .ref g12, .ref g13, .ref h2, .ref g14, .ref g15, .ref g16, .ref g17, .ref g18, .int 0]), (h2, oC 3 [.ref g19, .int 0])] rfl ?_
        refine V_astore_n 12 B (lv2 := [(3, .ref q9), (0, .ref h0), (1, .int p0), (2, .ref g0)]) dL_unbind_12 (by decide) rfl ?_
        refine V_iconst 13 B (v := 1) dL_unbind_13 (by decide +kernel) ?_
        exact V_iret 14 B dL_unbind_14 () (Or.inl ⟨k1, rfl⟩) rfl
      ·
        refine VX_catch 4 B htab [] (0, 9, 12, 18) [] rfl "java/lang/IndexOutOfBoundsException" (fun z hz => nomatch hz) rfl (by decide) (mT5 103 rfl rfl) (EB.2.2.2.1 _ (List.mem_of_getElem? (i := 1) rfl)) 12 rfl (fun q9 => ?_)
        refine V_ws [(h0, oC 12 [.ref h1, .ref g1, .ref g2, .ref g3, .ref g4, .ref g5, .ref g6, .ref g7, .ref g8, .long 0]), (h1, oC 2 [.ref g9, .ref g10, .ref g11, .ref g12, .ref g13, .ref h2, .ref g14, .ref g15, .ref g16, .ref g17, .ref g18, .int 0]), (h2, oC 3 [.ref g19, .int 0])] rfl ?_
        refine V_astore_n 12 B (lv2 := [(3, .ref q9), (0, .ref h0), (1, .int p0), (2, .ref g0)]) dL_unbind_12 (by decide) rfl ?_
        refine V_iconst 13 B (v := 1) dL_unbind_13 (by decide +kernel) ?_
        exact V_iret 14 B dL_unbind_14 () (Or.inr ⟨k2, rfl⟩) rfl
    ·
      exact w0.elim)
theorem dL_law_1145 : decode cL_law 1145 = .ok (.aload_n 1, 1) := by decide +kernel
theorem dL_law_1146 : decode cL_law 1146 = .ok (.aload_n 0, 1) := by decide +kernel
theorem dL_law_1147 : decode cL_law 1147 = .ok (.iload 4, 2) := by decide +kernel
theorem dL_law_1149 : decode cL_law 1149 = .ok (.iconst 1, 1) := by decide +kernel
theorem dL_law_1150 : decode cL_law 1150 = .ok (.iadd, 1) := by decide +kernel
theorem dL_law_1151 : decode cL_law 1151 = .ok (.iaload, 1) := by decide +kernel
theorem dL_law_1152 : decode cL_law 1152 = .ok (.aload_n 3, 1) := by decide +kernel
theorem dL_law_1153 : decode cL_law 1153 = .ok (.invokestatic 225, 3) := by decide +kernel
theorem glH_RL_225 : GLH RL 225 yL_unbind cL_unbind 4 (some .int) [(0, 9, 12, 18)] 3 := ⟨⟨(mT5 233 rfl rfl), (mT5 234 rfl rfl), (mT1 0 rfl rfl), (mT5 235 rfl rfl)⟩, by decide +kernel⟩
theorem dL_law_1156 : decode cL_law 1156 = .ok (.istore 5, 2) := by decide +kernel
theorem dL_law_1158 : decode cL_law 1158 = .ok (.aload_n 2, 1) := by decide +kernel
theorem dL_law_1159 : decode cL_law 1159 = .ok (.aload_n 0, 1) := by decide +kernel
theorem dL_law_1160 : decode cL_law 1160 = .ok (.iload 4, 2) := by decide +kernel
theorem dL_law_1162 : decode cL_law 1162 = .ok (.iconst 1, 1) := by decide +kernel
theorem dL_law_1163 : decode cL_law 1163 = .ok (.iadd, 1) := by decide +kernel
theorem dL_law_1164 : decode cL_law 1164 = .ok (.iaload, 1) := by decide +kernel
theorem dL_law_1165 : decode cL_law 1165 = .ok (.invokevirtual 227, 3) := by decide +kernel
theorem glV_RL_227 : GLV RL 227 yX12_unbind RX12 cX12_unbind 2 (some .int) 1 := ⟨⟨(mT8 140 rfl rfl), (mT8 141 rfl rfl), (mT8 142 rfl rfl), (mT1 13 rfl rfl), (mT8 143 rfl rfl)⟩, by decide +kernel⟩
theorem dL_law_1168 : decode cL_law 1168 = .ok (.istore 6, 2) := by decide +kernel
theorem dL_law_1170 : decode cL_law 1170 = .ok (.aload_n 2, 1) := by decide +kernel
theorem dL_law_1171 : decode cL_law 1171 = .ok (.invokevirtual 182, 3) := by decide +kernel
theorem dL_law_1174 : decode cL_law 1174 = .ok (.iload 5, 2) := by decide +kernel
theorem dL_law_1176 : decode cL_law 1176 = .ok (.if_icmp .eq 5, 3) := by decide +kernel
theorem dL_law_1181 : decode cL_law 1181 = .ok (.iload 5, 2) := by decide +kernel
theorem dL_law_1183 : decode cL_law 1183 = .ok (.ifCond .ne 15, 3) := by decide +kernel
theorem dL_law_1198 : decode cL_law 1198 = .ok (.goto 2134, 3) := by decide +kernel
set_option maxRecDepth 100000 in
set_option maxHeartbeats 4000000 in
theorem law_c19 {p : Program} {l : Launch} {e : Env} {s : State} {m : MethodId} {below : List Frame} {meth : Method} {c : Code} {b : Nat} {xs : Nat → Int32} {D : va_G} {Y : Nat → ClassId} (B : VB p s m #[Value.ref b] meth c D Y (fun q => s.heap.size ≤ q) cL_law 8 RL ret) (EB : EX (fun q => s.heap.size ≤ q) s s.heap) (hl9 : l.stackTraces = false) (hX : va_X b 6 xs s s.heap) (hbl : b < s.heap.size) (hbA : ¬ (fun q => s.heap.size ≤ q) b) (x0 x1 x30 x59 x88 x117 x126 x127 x129 x132 x2 x4 x6 x8 x10 x12 x14 x16 x18 x20 x27 x13 m0 m1 m2 m3 m4 m5 m6 o0 : Nat) (p1 : Int32) (e1 : xs 1 = p1) : V p l e room_1 s m #[Value.ref b] below meth c D (fun q => s.heap.size ≤ q) 8 149 10574 (lw_Z below #[Value.ref b] s) 1145 [(4, .int 0), (3, .ref o0), (2, .ref m0), (1, .ref x0), (0, .ref b)] [] [(x0, oC 12 [.ref x1, .ref x30, .ref x59, .ref x88, .ref x117, .ref x126, .ref x127, .ref x129, .ref x132, .long 0]), (x1, oC 2 [.ref x2, .ref x4, .ref x6, .ref x8, .ref x10, .ref x12, .ref x14, .ref x16, .ref x18, .ref x20, .ref x27, .int 0]), (x12, oC 3 [.ref x13, .int 0]), (m0, oC 13 [.ref m1, .ref m2, .int 0, .ref m3, .ref m4, .int 0, .int 0, .int 0, .int (-1), .int 0, .int 0, .int 0, .long 0, .ref m5, .ref m6, .int 0, .int 0]), (m1, aI Y 3640 (clB 0 (fun _ => 0)))] := by
  refine V_aload_n 1145 B dL_law_1145 3 rfl ?_
  refine V_aload_n 1146 B dL_law_1146 4 rfl ?_
  refine V_iload 1147 B dL_law_1147 0 rfl ?_
  refine V_iconst 1149 B (v := 1) dL_law_1149 (by decide +kernel) ?_
  refine V_iadd 1150 B (v := 1) dL_law_1150 (by decide +kernel) ?_
  refine V_sld 1151 B hX hbl hbA (v := p1) (vpin _ _ (by decide +kernel)) dL_law_1151 e1 ?_
  refine V_aload_n 1152 B dL_law_1152 1 rfl ?_
  refine V_hsi 1153 B EB (st := []) (As := [.ref x0, .int p1, .ref o0]) (fun sz => mL_unbind_1 l hl9 D Y (x0) (o0) (x1) (x30) (x59) (x88) (x117) (x126) (x127) (x129) (x132) (x2) (x4) (x6) (x8) (x10) (x12) (x14) (x16) (x18) (x20) (x27) (x13) (p1) sz) glH_RL_225 ⟨rfl, rfl⟩ ⟨(Nat.le_of_ble_eq_true rfl), (Nat.le_of_ble_eq_true rfl)⟩ ⟨(Nat.le_of_ble_eq_true rfl), (Nat.le_of_ble_eq_true rfl)⟩ [0, 0, 0] rfl rfl (Nat.le_of_ble_eq_true rfl) rfl (fun _ _ _ => rfl) dL_law_1153 (fun r0 u0 w0 => ?_)
  rcases w0 with ⟨k1, rfl⟩ | ⟨k2, rfl⟩
  ·
    refine V_ws [(x0, oC 12 [.ref x1, .ref x30, .ref x59, .ref x88, .ref x117, .ref x126, .ref x127, .ref x129, .ref x132, .long 0]), (x1, oC 2 [.ref x2, .ref x4, .ref x6, .ref x8, .ref x10, .ref x12, .ref x14, .ref x16, .ref x18, .ref x20, .ref x27, .int 0]), (x12, oC 3 [.ref x13, .int 0]), (m0, oC 13 [.ref m1, .ref m2, .int 0, .ref m3, .ref m4, .int 0, .int 0, .int 0, .int (-1), .int 0, .int 0, .int 0, .long 0, .ref m5, .ref m6, .int 0, .int 0]), (m1, aI Y 3640 (clB 0 (fun _ => 0)))] rfl ?_
    refine V_istore 1156 B (lv2 := [(5, .int 1), (4, .int 0), (3, .ref o0), (2, .ref m0), (1, .ref x0), (0, .ref b)]) dL_law_1156 (by decide) rfl ?_
    refine V_aload_n 1158 B dL_law_1158 3 rfl ?_
    refine V_aload_n 1159 B dL_law_1159 5 rfl ?_
    refine V_iload 1160 B dL_law_1160 1 rfl ?_
    refine V_iconst 1162 B (v := 1) dL_law_1162 (by decide +kernel) ?_
    refine V_iadd 1163 B (v := 1) dL_law_1163 (by decide +kernel) ?_
    refine V_sld 1164 B hX hbl hbA (v := p1) (vpin _ _ (by decide +kernel)) dL_law_1164 e1 ?_
    refine V_cvi 1165 B (st := []) (As := [.int p1]) (fun sz => mX12_unbind_1 l D Y (m0) (m1) (m2) (m3) (m4) (m5) (m6) (p1) sz) glV_RL_227 ⟨rfl, rfl⟩ ⟨(Nat.le_of_ble_eq_true rfl), (Nat.le_of_ble_eq_true rfl)⟩ ⟨(Nat.le_of_ble_eq_true rfl), (Nat.le_of_ble_eq_true rfl)⟩ [3, 0] rfl 13 0 rfl rfl rfl rfl (Nat.le_of_ble_eq_true rfl) rfl (fun _ _ _ => rfl) dL_law_1165 (fun r3 u3 w3 => ?_)
    rcases w3 with ⟨k4, rfl⟩ | ⟨k5, rfl⟩
    ·
      refine V_ws [(x0, oC 12 [.ref x1, .ref x30, .ref x59, .ref x88, .ref x117, .ref x126, .ref x127, .ref x129, .ref x132, .long 0]), (x1, oC 2 [.ref x2, .ref x4, .ref x6, .ref x8, .ref x10, .ref x12, .ref x14, .ref x16, .ref x18, .ref x20, .ref x27, .int 0]), (x12, oC 3 [.ref x13, .int 0]), (m0, oC 13 [.ref m1, .ref m2, .int 1, .ref m3, .ref m4, .int 0, .int 0, .int 0, .int (-1), .int 0, .int 0, .int 0, .long 0, .ref m5, .ref m6, .int 0, .int 0]), (m1, aI Y 3640 (clB 0 (fun _ => 0)))] rfl ?_
      refine V_istore 1168 B (lv2 := [(6, .int 0), (5, .int 1), (4, .int 0), (3, .ref o0), (2, .ref m0), (1, .ref x0), (0, .ref b)]) dL_law_1168 (by decide) rfl ?_
      refine V_aload_n 1170 B dL_law_1170 4 rfl ?_
      refine V_cvi 1171 B (st := []) (As := []) (fun sz => mX12_thrown_2 l D Y (m0) (m1) (m2) (m3) (m4) (m5) (m6) sz) glV_RL_182 ⟨rfl, rfl⟩ ⟨(Nat.le_of_ble_eq_true rfl), (Nat.le_of_ble_eq_true rfl)⟩ ⟨(Nat.le_of_ble_eq_true rfl), (Nat.le_of_ble_eq_true rfl)⟩ [3] rfl 13 0 rfl rfl rfl rfl (Nat.le_of_ble_eq_true rfl) rfl (fun _ _ _ => rfl) dL_law_1171 (fun r6 u6 w6 => ?_)
      obtain rfl := w6
      refine V_ws [(x0, oC 12 [.ref x1, .ref x30, .ref x59, .ref x88, .ref x117, .ref x126, .ref x127, .ref x129, .ref x132, .long 0]), (x1, oC 2 [.ref x2, .ref x4, .ref x6, .ref x8, .ref x10, .ref x12, .ref x14, .ref x16, .ref x18, .ref x20, .ref x27, .int 0]), (x12, oC 3 [.ref x13, .int 0]), (m0, oC 13 [.ref m1, .ref m2, .int 1, .ref m3, .ref m4, .int 0, .int 0, .int 0, .int (-1), .int 0, .int 0, .int 0, .long 0, .ref m5, .ref m6, .int 0, .int 0]), (m1, aI Y 3640 (clB 0 (fun _ => 0)))] rfl ?_
      refine V_iload 1174 B dL_law_1174 1 rfl ?_
      refine V_icmp_eq_t 1176 B 1181 dL_law_1176 (by decide) (by decide +kernel) ?_
      refine V_iload 1181 B dL_law_1181 1 rfl ?_
      refine V_if_ne_t 1183 B 1198 dL_law_1183 (by decide) (by decide +kernel) ?_
      refine V_goto 1198 B 3332 dL_law_1198 (by decide) ?_
      refine V_iinc 3332 B (v := 6) (lv2 := [(4, .int 6), (6, .int 0), (5, .int 1), (3, .ref o0), (2, .ref m0), (1, .ref x0), (0, .ref b)]) dL_law_3332 2 rfl (by decide +kernel) (by decide) rfl ?_
      refine V_goto 3335 B 23 dL_law_3335 (by decide) ?_
      refine V_iload 23 B dL_law_23 0 rfl ?_
      refine V_aload_n 25 B dL_law_25 6 rfl ?_
      refine V_slen 26 B hX hbl hbA (v := 6) (by decide +kernel) dL_law_26 ?_
      refine V_bipush 27 B (v := 6) dL_law_27 (by decide +kernel) ?_
      refine V_isub 29 B (v := 0) dL_law_29 (by decide +kernel) ?_
      refine V_icmp_gt_t 30 B 3338 dL_law_30 (by decide) (by decide +kernel) ?_
      exact law_end B (Nat.le_of_ble_eq_true rfl) (Nat.le_of_ble_eq_true rfl) dL_law_3338 dL_law_3339
    ·
      refine V_ws [(x0, oC 12 [.ref x1, .ref x30, .ref x59, .ref x88, .ref x117, .ref x126, .ref x127, .ref x129, .ref x132, .long 0]), (x1, oC 2 [.ref x2, .ref x4, .ref x6, .ref x8, .ref x10, .ref x12, .ref x14, .ref x16, .ref x18, .ref x20, .ref x27, .int 0]), (x12, oC 3 [.ref x13, .int 0]), (m0, oC 13 [.ref m1, .ref m2, .int 1, .ref m3, .ref m4, .int 0, .int 0, .int 0, .int (-1), .int 0, .int 0, .int 0, .long 0, .ref m5, .ref m6, .int 0, .int 0]), (m1, aI Y 3640 (clB 0 (fun _ => 0)))] rfl ?_
      exact (q_abs (b_gt k5 (n := 0) (by decide +kernel)) (b_lt k1 (n := (-1)) (by decide +kernel)) (by decide +kernel)).elim
  ·
    refine V_ws [(x0, oC 12 [.ref x1, .ref x30, .ref x59, .ref x88, .ref x117, .ref x126, .ref x127, .ref x129, .ref x132, .long 0]), (x1, oC 2 [.ref x2, .ref x4, .ref x6, .ref x8, .ref x10, .ref x12, .ref x14, .ref x16, .ref x18, .ref x20, .ref x27, .int 0]), (x12, oC 3 [.ref x13, .int 0]), (m0, oC 13 [.ref m1, .ref m2, .int 0, .ref m3, .ref m4, .int 0, .int 0, .int 0, .int (-1), .int 0, .int 0, .int 0, .long 0, .ref m5, .ref m6, .int 0, .int 0]), (m1, aI Y 3640 (clB 0 (fun _ => 0)))] rfl ?_
    refine V_istore 1156 B (lv2 := [(5, .int 1), (4, .int 0), (3, .ref o0), (2, .ref m0), (1, .ref x0), (0, .ref b)]) dL_law_1156 (by decide) rfl ?_
    refine V_aload_n 1158 B dL_law_1158 3 rfl ?_
    refine V_aload_n 1159 B dL_law_1159 5 rfl ?_
    refine V_iload 1160 B dL_law_1160 1 rfl ?_
    refine V_iconst 1162 B (v := 1) dL_law_1162 (by decide +kernel) ?_
    refine V_iadd 1163 B (v := 1) dL_law_1163 (by decide +kernel) ?_
    refine V_sld 1164 B hX hbl hbA (v := p1) (vpin _ _ (by decide +kernel)) dL_law_1164 e1 ?_
    refine V_cvi 1165 B (st := []) (As := [.int p1]) (fun sz => mX12_unbind_1 l D Y (m0) (m1) (m2) (m3) (m4) (m5) (m6) (p1) sz) glV_RL_227 ⟨rfl, rfl⟩ ⟨(Nat.le_of_ble_eq_true rfl), (Nat.le_of_ble_eq_true rfl)⟩ ⟨(Nat.le_of_ble_eq_true rfl), (Nat.le_of_ble_eq_true rfl)⟩ [3, 0] rfl 13 0 rfl rfl rfl rfl (Nat.le_of_ble_eq_true rfl) rfl (fun _ _ _ => rfl) dL_law_1165 (fun r7 u7 w7 => ?_)
    rcases w7 with ⟨k8, rfl⟩ | ⟨k9, rfl⟩
    ·
      refine V_ws [(x0, oC 12 [.ref x1, .ref x30, .ref x59, .ref x88, .ref x117, .ref x126, .ref x127, .ref x129, .ref x132, .long 0]), (x1, oC 2 [.ref x2, .ref x4, .ref x6, .ref x8, .ref x10, .ref x12, .ref x14, .ref x16, .ref x18, .ref x20, .ref x27, .int 0]), (x12, oC 3 [.ref x13, .int 0]), (m0, oC 13 [.ref m1, .ref m2, .int 1, .ref m3, .ref m4, .int 0, .int 0, .int 0, .int (-1), .int 0, .int 0, .int 0, .long 0, .ref m5, .ref m6, .int 0, .int 0]), (m1, aI Y 3640 (clB 0 (fun _ => 0)))] rfl ?_
      exact (q_abs (b_nlt k2 (n := 0) (by decide +kernel)) (b_lt k8 (n := (-1)) (by decide +kernel)) (by decide +kernel)).elim
    ·
      refine V_ws [(x0, oC 12 [.ref x1, .ref x30, .ref x59, .ref x88, .ref x117, .ref x126, .ref x127, .ref x129, .ref x132, .long 0]), (x1, oC 2 [.ref x2, .ref x4, .ref x6, .ref x8, .ref x10, .ref x12, .ref x14, .ref x16, .ref x18, .ref x20, .ref x27, .int 0]), (x12, oC 3 [.ref x13, .int 0]), (m0, oC 13 [.ref m1, .ref m2, .int 1, .ref m3, .ref m4, .int 0, .int 0, .int 0, .int (-1), .int 0, .int 0, .int 0, .long 0, .ref m5, .ref m6, .int 0, .int 0]), (m1, aI Y 3640 (clB 0 (fun _ => 0)))] rfl ?_
      refine V_istore 1168 B (lv2 := [(6, .int 0), (5, .int 1), (4, .int 0), (3, .ref o0), (2, .ref m0), (1, .ref x0), (0, .ref b)]) dL_law_1168 (by decide) rfl ?_
      refine V_aload_n 1170 B dL_law_1170 4 rfl ?_
      refine V_cvi 1171 B (st := []) (As := []) (fun sz => mX12_thrown_2 l D Y (m0) (m1) (m2) (m3) (m4) (m5) (m6) sz) glV_RL_182 ⟨rfl, rfl⟩ ⟨(Nat.le_of_ble_eq_true rfl), (Nat.le_of_ble_eq_true rfl)⟩ ⟨(Nat.le_of_ble_eq_true rfl), (Nat.le_of_ble_eq_true rfl)⟩ [3] rfl 13 0 rfl rfl rfl rfl (Nat.le_of_ble_eq_true rfl) rfl (fun _ _ _ => rfl) dL_law_1171 (fun r10 u10 w10 => ?_)
      obtain rfl := w10
      refine V_ws [(x0, oC 12 [.ref x1, .ref x30, .ref x59, .ref x88, .ref x117, .ref x126, .ref x127, .ref x129, .ref x132, .long 0]), (x1, oC 2 [.ref x2, .ref x4, .ref x6, .ref x8, .ref x10, .ref x12, .ref x14, .ref x16, .ref x18, .ref x20, .ref x27, .int 0]), (x12, oC 3 [.ref x13, .int 0]), (m0, oC 13 [.ref m1, .ref m2, .int 1, .ref m3, .ref m4, .int 0, .int 0, .int 0, .int (-1), .int 0, .int 0, .int 0, .long 0, .ref m5, .ref m6, .int 0, .int 0]), (m1, aI Y 3640 (clB 0 (fun _ => 0)))] rfl ?_
      refine V_iload 1174 B dL_law_1174 1 rfl ?_
      refine V_icmp_eq_t 1176 B 1181 dL_law_1176 (by decide) (by decide +kernel) ?_
      refine V_iload 1181 B dL_law_1181 1 rfl ?_
      refine V_if_ne_t 1183 B 1198 dL_law_1183 (by decide) (by decide +kernel) ?_
      refine V_goto 1198 B 3332 dL_law_1198 (by decide) ?_
      refine V_iinc 3332 B (v := 6) (lv2 := [(4, .int 6), (6, .int 0), (5, .int 1), (3, .ref o0), (2, .ref m0), (1, .ref x0), (0, .ref b)]) dL_law_3332 2 rfl (by decide +kernel) (by decide) rfl ?_
      refine V_goto 3335 B 23 dL_law_3335 (by decide) ?_
      refine V_iload 23 B dL_law_23 0 rfl ?_
      refine V_aload_n 25 B dL_law_25 6 rfl ?_
      refine V_slen 26 B hX hbl hbA (v := 6) (by decide +kernel) dL_law_26 ?_
      refine V_bipush 27 B (v := 6) dL_law_27 (by decide +kernel) ?_
      refine V_isub 29 B (v := 0) dL_law_29 (by decide +kernel) ?_
      refine V_icmp_gt_t 30 B 3338 dL_law_30 (by decide) (by decide +kernel) ?_
      exact law_end B (Nat.le_of_ble_eq_true rfl) (Nat.le_of_ble_eq_true rfl) dL_law_3338 dL_law_3339
