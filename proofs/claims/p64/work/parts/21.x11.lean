theorem dX11_clashing_1 : decode cX11_clashing 1 = .ok (.iload_n 1, 1) := by decide +kernel
theorem dX11_clashing_2 : decode cX11_clashing 2 = .ok (.invokevirtual 180, 3) := by decide +kernel
theorem dX11_clashing_5 : decode cX11_clashing 5 = .ok (.aload_n 0, 1) := by decide +kernel
theorem dX11_clashing_6 : decode cX11_clashing 6 = .ok (.getfield 68, 3) := by decide +kernel
theorem dX11_clashing_9 : decode cX11_clashing 9 = .ok (.lconst 0, 1) := by decide +kernel
theorem dX11_clashing_10 : decode cX11_clashing 10 = .ok (.lcmp, 1) := by decide +kernel
theorem dX11_clashing_11 : decode cX11_clashing 11 = .ok (.ifCond .ne 8, 3) := by decide +kernel
theorem dX11_clashing_19 : decode cX11_clashing 19 = .ok (.aload_n 0, 1) := by decide +kernel
theorem dX11_clashing_20 : decode cX11_clashing 20 = .ok (.getfield 10, 3) := by decide +kernel
theorem dX11_clashing_23 : decode cX11_clashing 23 = .ok (.iload_n 1, 1) := by decide +kernel
theorem dX11_clashing_24 : decode cX11_clashing 24 = .ok (.aload_n 0, 1) := by decide +kernel
theorem dX11_clashing_25 : decode cX11_clashing 25 = .ok (.getfield 68, 3) := by decide +kernel
theorem dX11_clashing_28 : decode cX11_clashing 28 = .ok (.iconst (-1), 1) := by decide +kernel
theorem dX11_clashing_29 : decode cX11_clashing 29 = .ok (.invokevirtual 244, 3) := by decide +kernel
theorem glV_RX11_244 : GLV RX11 244 yX0_lowestClash RX0 cX0_lowestClash 6 (some .int) 3 := ⟨⟨(mT6 22 rfl rfl), (mT3 125 rfl rfl), (mT3 126 rfl rfl), (mT1 2 rfl rfl), (mT3 127 rfl rfl)⟩, by decide +kernel⟩
theorem dX11_clashing_32 : decode cX11_clashing 32 = .ok (.ireturn, 1) := by decide +kernel
theorem dX11_clashing_14 : decode cX11_clashing 14 = .ok (.bipush (-4), 2) := by decide +kernel
theorem dX11_clashing_16 : decode cX11_clashing 16 = .ok (.goto 16, 3) := by decide +kernel
set_option maxRecDepth 100000 in
set_option maxHeartbeats 4000000 in
theorem sX11_clashing_1 (l : Launch) (hl9 : l.stackTraces = false) (D : va_G) (Y : Nat → ClassId) (h0 : Nat) (h1 : Nat) (h2 : Nat) (h3 : Nat) (h4 : Nat) (h5 : Nat) (h6 : Nat) (g0 : Nat) (g1 : Nat) (g2 : Nat) (g3 : Nat) (g4 : Nat) (g5 : Nat) (g6 : Nat) (g7 : Nat) (g8 : Nat) (g9 : Nat) (g10 : Nat) (g11 : Nat) (g12 : Nat) (g13 : Nat) (g14 : Nat) (g15 : Nat) (g16 : Nat) (p0 : Int64) (p1 : Int32) (p2 : Int32) (p3 : Int32) (f0 : Nat → Int32) (p4 : Int32) (f1 : Nat → Int64) (p5 : Int32) (sz : Nat) : vx_Met l yX11_clashing (WSm yX11_clashing cX11_clashing 2 (some .int)) (mkR 7 1 6 103) (PreX D Y [.ref h0, .int p5] [(h0, oC 12 [.ref h1, .ref g0, .ref g1, .ref g2, .ref g3, .ref g4, .ref g5, .ref g6, .ref g7, .long p0]), (h1, oC 2 [.ref h2, .ref g8, .ref g9, .ref g10, .ref g11, .ref h3, .ref g12, .ref h5, .ref g13, .ref g14, .ref g15, .int p1]), (h2, oC 3 [.ref g16, .int p2]), (h3, oC 3 [.ref h4, .int p3]), (h4, aI Y 80 f0), (h5, oC 7 [.ref h6, .int p4]), (h6, aJ Y 80 f1)] sz) (QI D (fun (_ : Int32) (_ : UU) => True) (fun (u : UU) => [(h0, oC 12 [.ref h1, .ref g0, .ref g1, .ref g2, .ref g3, .ref g4, .ref g5, .ref g6, .ref g7, .long p0]), (h1, oC 2 [.ref h2, .ref g8, .ref g9, .ref g10, .ref g11, .ref h3, .ref g12, .ref h5, .ref g13, .ref g14, .ref g15, .int p1]), (h2, oC 3 [.ref g16, .int p2]), (h3, oC 3 [.ref h4, .int p3]), (h4, aI Y 80 f0), (h5, oC 7 [.ref h6, .int p4]), (h6, aJ Y 80 f1)]) (va_A [(h0, oC 12 [.ref h1, .ref g0, .ref g1, .ref g2, .ref g3, .ref g4, .ref g5, .ref g6, .ref g7, .long p0]), (h1, oC 2 [.ref h2, .ref g8, .ref g9, .ref g10, .ref g11, .ref h3, .ref g12, .ref h5, .ref g13, .ref g14, .ref g15, .int p1]), (h2, oC 3 [.ref g16, .int p2]), (h3, oC 3 [.ref h4, .int p3]), (h4, aI Y 80 f0), (h5, oC 7 [.ref h6, .int p4]), (h6, aJ Y 80 f1)] sz)) (XW D (fun (E : String) (_ : UU) => E = "java/lang/IndexOutOfBoundsException") (fun (u : UU) => [(h0, oC 12 [.ref h1, .ref g0, .ref g1, .ref g2, .ref g3, .ref g4, .ref g5, .ref g6, .ref g7, .long p0]), (h1, oC 2 [.ref h2, .ref g8, .ref g9, .ref g10, .ref g11, .ref h3, .ref g12, .ref h5, .ref g13, .ref g14, .ref g15, .int p1]), (h2, oC 3 [.ref g16, .int p2]), (h3, oC 3 [.ref h4, .int p3]), (h4, aI Y 80 f0), (h5, oC 7 [.ref h6, .int p4]), (h6, aJ Y 80 f1)]) (va_A [(h0, oC 12 [.ref h1, .ref g0, .ref g1, .ref g2, .ref g3, .ref g4, .ref g5, .ref g6, .ref g7, .long p0]), (h1, oC 2 [.ref h2, .ref g8, .ref g9, .ref g10, .ref g11, .ref h3, .ref g12, .ref h5, .ref g13, .ref g14, .ref g15, .int p1]), (h2, oC 3 [.ref g16, .int p2]), (h3, oC 3 [.ref h4, .int p3]), (h4, aI Y 80 f0), (h5, oC 7 [.ref h6, .int p4]), (h6, aJ Y 80 f1)] sz)) 1 6 (va_A [(h0, oC 12 [.ref h1, .ref g0, .ref g1, .ref g2, .ref g3, .ref g4, .ref g5, .ref g6, .ref g7, .long p0]), (h1, oC 2 [.ref h2, .ref g8, .ref g9, .ref g10, .ref g11, .ref h3, .ref g12, .ref h5, .ref g13, .ref g14, .ref g15, .int p1]), (h2, oC 3 [.ref g16, .int p2]), (h3, oC 3 [.ref h4, .int p3]), (h4, aI Y 80 f0), (h5, oC 7 [.ref h6, .int p4]), (h6, aJ Y 80 f1)] sz) :=
  xmet_of (by decide +kernel) (Nat.le_of_ble_eq_true rfl) (fun p e s m args below meth c B EB hout hsz => by
    have B : VB p s m args meth c D Y (va_A [(h0, oC 12 [.ref h1, .ref g0, .ref g1, .ref g2, .ref g3, .ref g4, .ref g5, .ref g6, .ref g7, .long p0]), (h1, oC 2 [.ref h2, .ref g8, .ref g9, .ref g10, .ref g11, .ref h3, .ref g12, .ref h5, .ref g13, .ref g14, .ref g15, .int p1]), (h2, oC 3 [.ref g16, .int p2]), (h3, oC 3 [.ref h4, .int p3]), (h4, aI Y 80 f0), (h5, oC 7 [.ref h6, .int p4]), (h6, aJ Y 80 f1)] sz) cX11_clashing 2 RX11 (some .int) := B
    refine V_aload_n 0 B dX11_clashing_0 0 rfl ?_
    refine V_iload_n 1 B dX11_clashing_1 1 rfl ?_
    refine V_xvv 2 B EB (st := []) (As := [.int p5]) (fun sz => sX11_needMode_1 l hl9 D Y h0 h1 h2 g0 g1 g2 g3 g4 g5 g6 g7 g8 g9 g10 g11 h3 g12 h5 g13 g14 g15 g16 p0 p1 p2 p5 sz) glV_RX11_180 ⟨rfl, rfl⟩ ⟨(Nat.le_of_ble_eq_true rfl), (Nat.le_of_ble_eq_true rfl)⟩ ⟨(Nat.le_of_ble_eq_true rfl), (Nat.le_of_ble_eq_true rfl)⟩ [0, 0, 0] rfl 12 0 rfl rfl rfl rfl (Nat.le_of_ble_eq_true rfl) rfl (fun _ _ => rfl) (fun _ _ _ => rfl) dX11_clashing_2 (fun E u1 w2 => ?_) (fun u1 w2 => ?_)
    ·
      obtain rfl := w2
      exact VX_out 2 B hout (mkU [] [] [] [] []) rfl rfl (Nat.le_of_ble_eq_true rfl) (Nat.le_of_ble_eq_true rfl)
    ·
      refine V_ws [(h0, oC 12 [.ref h1, .ref g0, .ref g1, .ref g2, .ref g3, .ref g4, .ref g5, .ref g6, .ref g7, .long p0]), (h1, oC 2 [.ref h2, .ref g8, .ref g9, .ref g10, .ref g11, .ref h3, .ref g12, .ref h5, .ref g13, .ref g14, .ref g15, .int p1]), (h2, oC 3 [.ref g16, .int p2]), (h3, oC 3 [.ref h4, .int p3]), (h4, aI Y 80 f0), (h5, oC 7 [.ref h6, .int p4]), (h6, aJ Y 80 f1)] rfl ?_
      refine V_aload_n 5 B dX11_clashing_5 0 rfl ?_
      refine V_get 6 B gf_RX11_68 0 rfl rfl dX11_clashing_6 ?_
      refine V_lconst 9 B (v := 0) dX11_clashing_9 (by decide +kernel) ?_
      refine V_lcmp 10 B dX11_clashing_10 rfl ?_
      refine V_nmi (fun j3 _ => ?_)
      refine V_if_ne 11 B 19 dX11_clashing_11 (by decide) (fun k4 => ?_) (fun k4 => ?_)
      ·
        refine V_aload_n 19 B dX11_clashing_19 0 rfl ?_
        refine V_get 20 B gf_RX11_10 0 rfl rfl dX11_clashing_20 ?_
        refine V_iload_n 23 B dX11_clashing_23 1 rfl ?_
        refine V_aload_n 24 B dX11_clashing_24 0 rfl ?_
        refine V_get 25 B gf_RX11_68 0 rfl rfl dX11_clashing_25 ?_
        refine V_iconst 28 B (v := (-1)) dX11_clashing_28 (by decide +kernel) ?_
        refine V_gvi 29 B envX EB (st := []) (As := [.int p5, .long p0, .int (-1)]) (fun sz => sX0_lowestClash_1 l D Y h1 h3 h4 h5 h6 h2 g8 g9 g10 g11 g12 g13 g14 g15 p1 p3 f0 p4 f1 p5 p0 (-1) sz) glV_RX11_244 ⟨rfl, rfl⟩ ⟨(Nat.le_of_ble_eq_true rfl), (Nat.le_of_ble_eq_true rfl)⟩ ⟨(Nat.le_of_ble_eq_true rfl), (Nat.le_of_ble_eq_true rfl)⟩ [1, 1, 0, 0, 0] rfl 2 0 rfl rfl rfl rfl (Nat.le_of_ble_eq_true rfl) rfl (fun _ _ _ => rfl) dX11_clashing_29 (fun j5 u6 w7 => ?_)
        refine V_ws [(h0, oC 12 [.ref h1, .ref g0, .ref g1, .ref g2, .ref g3, .ref g4, .ref g5, .ref g6, .ref g7, .long p0]), (h1, oC 2 [.ref h2, .ref g8, .ref g9, .ref g10, .ref g11, .ref h3, .ref g12, .ref h5, .ref g13, .ref g14, .ref g15, .int p1]), (h2, oC 3 [.ref g16, .int p2]), (h3, oC 3 [.ref h4, .int p3]), (h4, aI Y 80 f0), (h5, oC 7 [.ref h6, .int p4]), (h6, aJ Y 80 f1)] rfl ?_
        refine V_xret ?_
        refine V_widen (k := 1) (n := 6) (Nat.le_of_ble_eq_true rfl) (Nat.le_of_ble_eq_true rfl) ?_
        exact V_iret 32 B dX11_clashing_32 (mkU [] [] [] [] []) trivial rfl
      ·
        obtain rfl : j3 = 0 := k4
        refine V_bipush 14 B (v := (-4)) dX11_clashing_14 (by decide +kernel) ?_
        refine V_goto 16 B 32 dX11_clashing_16 (by decide) ?_
        refine V_xret ?_
        refine V_widen (k := 1) (n := 6) (Nat.le_of_ble_eq_true rfl) (Nat.le_of_ble_eq_true rfl) ?_
        exact V_iret 32 B dX11_clashing_32 (mkU [] [] [] [] []) trivial rfl)
theorem dX11_clashes_0 : decode cX11_clashes 0 = .ok (.aload_n 0, 1) := by decide +kernel
theorem dX11_clashes_1 : decode cX11_clashes 1 = .ok (.iload_n 1, 1) := by decide +kernel
theorem dX11_clashes_2 : decode cX11_clashes 2 = .ok (.invokevirtual 180, 3) := by decide +kernel
theorem dX11_clashes_5 : decode cX11_clashes 5 = .ok (.aload_n 0, 1) := by decide +kernel
theorem dX11_clashes_6 : decode cX11_clashes 6 = .ok (.getfield 68, 3) := by decide +kernel
theorem dX11_clashes_9 : decode cX11_clashes 9 = .ok (.lconst 0, 1) := by decide +kernel
theorem dX11_clashes_10 : decode cX11_clashes 10 = .ok (.lcmp, 1) := by decide +kernel
theorem dX11_clashes_11 : decode cX11_clashes 11 = .ok (.ifCond .ne 8, 3) := by decide +kernel
theorem dX11_clashes_19 : decode cX11_clashes 19 = .ok (.aload_n 0, 1) := by decide +kernel
theorem dX11_clashes_20 : decode cX11_clashes 20 = .ok (.getfield 10, 3) := by decide +kernel
theorem dX11_clashes_23 : decode cX11_clashes 23 = .ok (.iload_n 1, 1) := by decide +kernel
theorem dX11_clashes_24 : decode cX11_clashes 24 = .ok (.aload_n 0, 1) := by decide +kernel
theorem dX11_clashes_25 : decode cX11_clashes 25 = .ok (.getfield 68, 3) := by decide +kernel
theorem dX11_clashes_28 : decode cX11_clashes 28 = .ok (.invokevirtual 248, 3) := by decide +kernel
theorem glV_RX11_248 : GLV RX11 248 yX0_ownClashes RX0 cX0_ownClashes 6 (some .int) 2 := ⟨⟨(mT6 30 rfl rfl), (mT4 224 rfl rfl), (mT4 225 rfl rfl), (mT1 2 rfl rfl), (mT4 226 rfl rfl)⟩, by decide +kernel⟩
theorem dX11_clashes_31 : decode cX11_clashes 31 = .ok (.ireturn, 1) := by decide +kernel
theorem dX11_clashes_14 : decode cX11_clashes 14 = .ok (.bipush (-4), 2) := by decide +kernel
theorem dX11_clashes_16 : decode cX11_clashes 16 = .ok (.goto 15, 3) := by decide +kernel
set_option maxRecDepth 100000 in
set_option maxHeartbeats 4000000 in
theorem sX11_clashes_1 (l : Launch) (hl9 : l.stackTraces = false) (D : va_G) (Y : Nat → ClassId) (h0 : Nat) (h1 : Nat) (h2 : Nat) (h3 : Nat) (h4 : Nat) (h5 : Nat) (h6 : Nat) (g0 : Nat) (g1 : Nat) (g2 : Nat) (g3 : Nat) (g4 : Nat) (g5 : Nat) (g6 : Nat) (g7 : Nat) (g8 : Nat) (g9 : Nat) (g10 : Nat) (g11 : Nat) (g12 : Nat) (g13 : Nat) (g14 : Nat) (g15 : Nat) (g16 : Nat) (p0 : Int64) (p1 : Int32) (p2 : Int32) (p3 : Int32) (f0 : Nat → Int32) (p4 : Int32) (f1 : Nat → Int64) (p5 : Int32) (sz : Nat) : vx_Met l yX11_clashes (WSm yX11_clashes cX11_clashes 2 (some .int)) (mkR 7 1 6 103) (PreX D Y [.ref h0, .int p5] [(h0, oC 12 [.ref h1, .ref g0, .ref g1, .ref g2, .ref g3, .ref g4, .ref g5, .ref g6, .ref g7, .long p0]), (h1, oC 2 [.ref h2, .ref g8, .ref g9, .ref g10, .ref g11, .ref h3, .ref g12, .ref h5, .ref g13, .ref g14, .ref g15, .int p1]), (h2, oC 3 [.ref g16, .int p2]), (h3, oC 3 [.ref h4, .int p3]), (h4, aI Y 80 f0), (h5, oC 7 [.ref h6, .int p4]), (h6, aJ Y 80 f1)] sz) (QI D (fun (_ : Int32) (_ : UU) => True) (fun (u : UU) => [(h0, oC 12 [.ref h1, .ref g0, .ref g1, .ref g2, .ref g3, .ref g4, .ref g5, .ref g6, .ref g7, .long p0]), (h1, oC 2 [.ref h2, .ref g8, .ref g9, .ref g10, .ref g11, .ref h3, .ref g12, .ref h5, .ref g13, .ref g14, .ref g15, .int p1]), (h2, oC 3 [.ref g16, .int p2]), (h3, oC 3 [.ref h4, .int p3]), (h4, aI Y 80 f0), (h5, oC 7 [.ref h6, .int p4]), (h6, aJ Y 80 f1)]) (va_A [(h0, oC 12 [.ref h1, .ref g0, .ref g1, .ref g2, .ref g3, .ref g4, .ref g5, .ref g6, .ref g7, .long p0]), (h1, oC 2 [.ref h2, .ref g8, .ref g9, .ref g10, .ref g11, .ref h3, .ref g12, .ref h5, .ref g13, .ref g14, .ref g15, .int p1]), (h2, oC 3 [.ref g16, .int p2]), (h3, oC 3 [.ref h4, .int p3]), (h4, aI Y 80 f0), (h5, oC 7 [.ref h6, .int p4]), (h6, aJ Y 80 f1)] sz)) (XW D (fun (E : String) (_ : UU) => E = "java/lang/IndexOutOfBoundsException") (fun (u : UU) => [(h0, oC 12 [.ref h1, .ref g0, .ref g1, .ref g2, .ref g3, .ref g4, .ref g5, .ref g6, .ref g7, .long p0]), (h1, oC 2 [.ref h2, .ref g8, .ref g9, .ref g10, .ref g11, .ref h3, .ref g12, .ref h5, .ref g13, .ref g14, .ref g15, .int p1]), (h2, oC 3 [.ref g16, .int p2]), (h3, oC 3 [.ref h4, .int p3]), (h4, aI Y 80 f0), (h5, oC 7 [.ref h6, .int p4]), (h6, aJ Y 80 f1)]) (va_A [(h0, oC 12 [.ref h1, .ref g0, .ref g1, .ref g2, .ref g3, .ref g4, .ref g5, .ref g6, .ref g7, .long p0]), (h1, oC 2 [.ref h2, .ref g8, .ref g9, .ref g10, .ref g11, .ref h3, .ref g12, .ref h5, .ref g13, .ref g14, .ref g15, .int p1]), (h2, oC 3 [.ref g16, .int p2]), (h3, oC 3 [.ref h4, .int p3]), (h4, aI Y 80 f0), (h5, oC 7 [.ref h6, .int p4]), (h6, aJ Y 80 f1)] sz)) 1 6 (va_A [(h0, oC 12 [.ref h1, .ref g0, .ref g1, .ref g2, .ref g3, .ref g4, .ref g5, .ref g6, .ref g7, .long p0]), (h1, oC 2 [.ref h2, .ref g8, .ref g9, .ref g10, .ref g11, .ref h3, .ref g12, .ref h5, .ref g13, .ref g14, .ref g15, .int p1]), (h2, oC 3 [.ref g16, .int p2]), (h3, oC 3 [.ref h4, .int p3]), (h4, aI Y 80 f0), (h5, oC 7 [.ref h6, .int p4]), (h6, aJ Y 80 f1)] sz) :=
  xmet_of (by decide +kernel) (Nat.le_of_ble_eq_true rfl) (fun p e s m args below meth c B EB hout hsz => by
    have B : VB p s m args meth c D Y (va_A [(h0, oC 12 [.ref h1, .ref g0, .ref g1, .ref g2, .ref g3, .ref g4, .ref g5, .ref g6, .ref g7, .long p0]), (h1, oC 2 [.ref h2, .ref g8, .ref g9, .ref g10, .ref g11, .ref h3, .ref g12, .ref h5, .ref g13, .ref g14, .ref g15, .int p1]), (h2, oC 3 [.ref g16, .int p2]), (h3, oC 3 [.ref h4, .int p3]), (h4, aI Y 80 f0), (h5, oC 7 [.ref h6, .int p4]), (h6, aJ Y 80 f1)] sz) cX11_clashes 2 RX11 (some .int) := B
    refine V_aload_n 0 B dX11_clashes_0 0 rfl ?_
    refine V_iload_n 1 B dX11_clashes_1 1 rfl ?_
    refine V_xvv 2 B EB (st := []) (As := [.int p5]) (fun sz => sX11_needMode_1 l hl9 D Y h0 h1 h2 g0 g1 g2 g3 g4 g5 g6 g7 g8 g9 g10 g11 h3 g12 h5 g13 g14 g15 g16 p0 p1 p2 p5 sz) glV_RX11_180 ⟨rfl, rfl⟩ ⟨(Nat.le_of_ble_eq_true rfl), (Nat.le_of_ble_eq_true rfl)⟩ ⟨(Nat.le_of_ble_eq_true rfl), (Nat.le_of_ble_eq_true rfl)⟩ [0, 0, 0] rfl 12 0 rfl rfl rfl rfl (Nat.le_of_ble_eq_true rfl) rfl (fun _ _ => rfl) (fun _ _ _ => rfl) dX11_clashes_2 (fun E u1 w2 => ?_) (fun u1 w2 => ?_)
    ·
      obtain rfl := w2
      exact VX_out 2 B hout (mkU [] [] [] [] []) rfl rfl (Nat.le_of_ble_eq_true rfl) (Nat.le_of_ble_eq_true rfl)
    ·
      refine V_ws [(h0, oC 12 [.ref h1, .ref g0, .ref g1, .ref g2, .ref g3, .ref g4, .ref g5, .ref g6, .ref g7, .long p0]), (h1, oC 2 [.ref h2, .ref g8, .ref g9, .ref g10, .ref g11, .ref h3, .ref g12, .ref h5, .ref g13, .ref g14, .ref g15, .int p1]), (h2, oC 3 [.ref g16, .int p2]), (h3, oC 3 [.ref h4, .int p3]), (h4, aI Y 80 f0), (h5, oC 7 [.ref h6, .int p4]), (h6, aJ Y 80 f1)] rfl ?_
      refine V_aload_n 5 B dX11_clashes_5 0 rfl ?_
      refine V_get 6 B gf_RX11_68 0 rfl rfl dX11_clashes_6 ?_
      refine V_lconst 9 B (v := 0) dX11_clashes_9 (by decide +kernel) ?_
      refine V_lcmp 10 B dX11_clashes_10 rfl ?_
      refine V_nmi (fun j3 _ => ?_)
      refine V_if_ne 11 B 19 dX11_clashes_11 (by decide) (fun k4 => ?_) (fun k4 => ?_)
      ·
        refine V_aload_n 19 B dX11_clashes_19 0 rfl ?_
        refine V_get 20 B gf_RX11_10 0 rfl rfl dX11_clashes_20 ?_
        refine V_iload_n 23 B dX11_clashes_23 1 rfl ?_
        refine V_aload_n 24 B dX11_clashes_24 0 rfl ?_
        refine V_get 25 B gf_RX11_68 0 rfl rfl dX11_clashes_25 ?_
        refine V_gvi 28 B envX EB (st := []) (As := [.int p5, .long p0]) (fun sz => sX0_ownClashes_1 l D Y h1 h3 h4 h5 h6 h2 g8 g9 g10 g11 g12 g13 g14 g15 p1 p3 f0 p4 f1 p5 p0 sz) glV_RX11_248 ⟨rfl, rfl⟩ ⟨(Nat.le_of_ble_eq_true rfl), (Nat.le_of_ble_eq_true rfl)⟩ ⟨(Nat.le_of_ble_eq_true rfl), (Nat.le_of_ble_eq_true rfl)⟩ [1, 1, 0, 0, 0] rfl 2 0 rfl rfl rfl rfl (Nat.le_of_ble_eq_true rfl) rfl (fun _ _ _ => rfl) dX11_clashes_28 (fun j5 u6 w7 => ?_)
        refine V_ws [(h0, oC 12 [.ref h1, .ref g0, .ref g1, .ref g2, .ref g3, .ref g4, .ref g5, .ref g6, .ref g7, .long p0]), (h1, oC 2 [.ref h2, .ref g8, .ref g9, .ref g10, .ref g11, .ref h3, .ref g12, .ref h5, .ref g13, .ref g14, .ref g15, .int p1]), (h2, oC 3 [.ref g16, .int p2]), (h3, oC 3 [.ref h4, .int p3]), (h4, aI Y 80 f0), (h5, oC 7 [.ref h6, .int p4]), (h6, aJ Y 80 f1)] rfl ?_
        refine V_xret ?_
        refine V_widen (k := 1) (n := 6) (Nat.le_of_ble_eq_true rfl) (Nat.le_of_ble_eq_true rfl) ?_
        exact V_iret 31 B dX11_clashes_31 (mkU [] [] [] [] []) trivial rfl
      ·
        obtain rfl : j3 = 0 := k4
        refine V_bipush 14 B (v := (-4)) dX11_clashes_14 (by decide +kernel) ?_
        refine V_goto 16 B 31 dX11_clashes_16 (by decide) ?_
        refine V_xret ?_
        refine V_widen (k := 1) (n := 6) (Nat.le_of_ble_eq_true rfl) (Nat.le_of_ble_eq_true rfl) ?_
        exact V_iret 31 B dX11_clashes_31 (mkU [] [] [] [] []) trivial rfl)
theorem gm_RX0_157 : GM RX0 157 Lib.Math.min.name Lib.Math.min.code := ⟨(mT6 46 rfl rfl), (mT3 189 rfl rfl), (mT1 4 rfl rfl), (mT3 190 rfl rfl)⟩
theorem dX11_reason_0 : decode cX11_reason 0 = .ok (.aload_n 0, 1) := by decide +kernel
theorem dX11_reason_1 : decode cX11_reason 1 = .ok (.iload_n 1, 1) := by decide +kernel
theorem dX11_reason_2 : decode cX11_reason 2 = .ok (.invokevirtual 180, 3) := by decide +kernel
theorem dX11_reason_5 : decode cX11_reason 5 = .ok (.aload_n 0, 1) := by decide +kernel
theorem dX11_reason_6 : decode cX11_reason 6 = .ok (.getfield 68, 3) := by decide +kernel
theorem dX11_reason_9 : decode cX11_reason 9 = .ok (.lconst 0, 1) := by decide +kernel
theorem dX11_reason_10 : decode cX11_reason 10 = .ok (.lcmp, 1) := by decide +kernel
theorem dX11_reason_11 : decode cX11_reason 11 = .ok (.ifCond .ne 8, 3) := by decide +kernel
theorem dX11_reason_19 : decode cX11_reason 19 = .ok (.aload_n 0, 1) := by decide +kernel
theorem dX11_reason_20 : decode cX11_reason 20 = .ok (.getfield 10, 3) := by decide +kernel
theorem dX11_reason_23 : decode cX11_reason 23 = .ok (.iload_n 1, 1) := by decide +kernel
theorem dX11_reason_24 : decode cX11_reason 24 = .ok (.aload_n 0, 1) := by decide +kernel
theorem dX11_reason_25 : decode cX11_reason 25 = .ok (.getfield 68, 3) := by decide +kernel
theorem dX11_reason_28 : decode cX11_reason 28 = .ok (.invokevirtual 251, 3) := by decide +kernel
theorem dX0_obstacle_0 : decode cX0_obstacle 0 = .ok (.aload_n 0, 1) := by decide +kernel
theorem dX0_obstacle_1 : decode cX0_obstacle 1 = .ok (.getfield 32, 3) := by decide +kernel
theorem dX0_obstacle_4 : decode cX0_obstacle 4 = .ok (.lload_n 2, 1) := by decide +kernel
theorem dX0_obstacle_5 : decode cX0_obstacle 5 = .ok (.invokevirtual 119, 3) := by decide +kernel
theorem dX0_obstacle_8 : decode cX0_obstacle 8 = .ok (.ifCond .eq 5, 3) := by decide +kernel
theorem dX0_obstacle_13 : decode cX0_obstacle 13 = .ok (.iconst 0, 1) := by decide +kernel
theorem dX0_obstacle_14 : decode cX0_obstacle 14 = .ok (.istore 4, 2) := by decide +kernel
theorem dX0_obstacle_16 : decode cX0_obstacle 16 = .ok (.iconst 0, 1) := by decide +kernel
theorem dX0_obstacle_17 : decode cX0_obstacle 17 = .ok (.istore 5, 2) := by decide +kernel
theorem dX0_obstacle_19 : decode cX0_obstacle 19 = .ok (.iload 5, 2) := by decide +kernel
theorem dX0_obstacle_21 : decode cX0_obstacle 21 = .ok (.aload_n 0, 1) := by decide +kernel
theorem dX0_obstacle_22 : decode cX0_obstacle 22 = .ok (.getfield 36, 3) := by decide +kernel
theorem dX0_obstacle_25 : decode cX0_obstacle 25 = .ok (.invokevirtual 91, 3) := by decide +kernel
theorem dX0_obstacle_28 : decode cX0_obstacle 28 = .ok (.if_icmp .ge 54, 3) := by decide +kernel
theorem dX0_obstacle_82 : decode cX0_obstacle 82 = .ok (.iload 4, 2) := by decide +kernel
theorem dX0_obstacle_84 : decode cX0_obstacle 84 = .ok (.ireturn, 1) := by decide +kernel
theorem dX0_obstacle_31 : decode cX0_obstacle 31 = .ok (.aload_n 0, 1) := by decide +kernel
theorem dX0_obstacle_32 : decode cX0_obstacle 32 = .ok (.iload 5, 2) := by decide +kernel
theorem dX0_obstacle_34 : decode cX0_obstacle 34 = .ok (.iload_n 1, 1) := by decide +kernel
theorem dX0_obstacle_35 : decode cX0_obstacle 35 = .ok (.lload_n 2, 1) := by decide +kernel
theorem dX0_obstacle_36 : decode cX0_obstacle 36 = .ok (.invokevirtual 115, 3) := by decide +kernel
theorem dX0_obstacle_39 : decode cX0_obstacle 39 = .ok (.ifCond .eq 37, 3) := by decide +kernel
theorem dX0_obstacle_76 : decode cX0_obstacle 76 = .ok (.iinc 5 1, 3) := by decide +kernel
theorem dX0_obstacle_79 : decode cX0_obstacle 79 = .ok (.goto (-60), 3) := by decide +kernel
theorem dX0_obstacle_42 : decode cX0_obstacle 42 = .ok (.aload_n 0, 1) := by decide +kernel
theorem dX0_obstacle_43 : decode cX0_obstacle 43 = .ok (.getfield 42, 3) := by decide +kernel
theorem dX0_obstacle_46 : decode cX0_obstacle 46 = .ok (.iload 5, 2) := by decide +kernel
theorem dX0_obstacle_48 : decode cX0_obstacle 48 = .ok (.invokevirtual 106, 3) := by decide +kernel
theorem dX0_obstacle_51 : decode cX0_obstacle 51 = .ok (.lload_n 2, 1) := by decide +kernel
theorem dX0_obstacle_52 : decode cX0_obstacle 52 = .ok (.invokestatic 153, 3) := by decide +kernel
theorem dX0_obstacleOf_0 : decode cX0_obstacleOf 0 = .ok (.lload_n 0, 1) := by decide +kernel
theorem dX0_obstacleOf_1 : decode cX0_obstacleOf 1 = .ok (.lload_n 2, 1) := by decide +kernel
theorem dX0_obstacleOf_2 : decode cX0_obstacleOf 2 = .ok (.lcmp, 1) := by decide +kernel
theorem dX0_obstacleOf_3 : decode cX0_obstacleOf 3 = .ok (.ifCond .ne 5, 3) := by decide +kernel
theorem dX0_obstacleOf_8 : decode cX0_obstacleOf 8 = .ok (.lload_n 2, 1) := by decide +kernel
theorem dX0_obstacleOf_9 : decode cX0_obstacleOf 9 = .ok (.invokestatic 163, 3) := by decide +kernel
theorem glS_RX0_163 : GLS RX0 163 yX6_lengthOf cX6_lengthOf 2 (some .int) 1 := ⟨⟨(mT6 45 rfl rfl), (mT3 99 rfl rfl), (mT1 18 rfl rfl), (mT3 100 rfl rfl)⟩, by decide +kernel⟩
theorem dX0_obstacleOf_12 : decode cX0_obstacleOf 12 = .ok (.lload_n 0, 1) := by decide +kernel
theorem dX0_obstacleOf_13 : decode cX0_obstacleOf 13 = .ok (.invokestatic 163, 3) := by decide +kernel
theorem dX0_obstacleOf_16 : decode cX0_obstacleOf 16 = .ok (.if_icmp .ge 7, 3) := by decide +kernel
theorem dX0_obstacleOf_23 : decode cX0_obstacleOf 23 = .ok (.iconst 4, 1) := by decide +kernel
theorem dX0_obstacleOf_24 : decode cX0_obstacleOf 24 = .ok (.ireturn, 1) := by decide +kernel
theorem dX0_obstacleOf_19 : decode cX0_obstacleOf 19 = .ok (.iconst 3, 1) := by decide +kernel
theorem dX0_obstacleOf_20 : decode cX0_obstacleOf 20 = .ok (.goto 4, 3) := by decide +kernel
theorem dX0_obstacleOf_6 : decode cX0_obstacleOf 6 = .ok (.iconst 2, 1) := by decide +kernel
theorem dX0_obstacleOf_7 : decode cX0_obstacleOf 7 = .ok (.ireturn, 1) := by decide +kernel
set_option maxRecDepth 100000 in
set_option maxHeartbeats 4000000 in
theorem sX0_obstacleOf_1 (l : Launch) (D : va_G) (Y : Nat → ClassId) (p0 : Int64) (p1 : Int64) (sz : Nat) : Met l yX0_obstacleOf (WSm yX0_obstacleOf cX0_obstacleOf 4 (some .int)) (mkR 1 0 0 21) (PreG EX D Y [.long p0, .long p1] [] sz) (QI D (fun (_ : Int32) (_ : UU) => True) (fun (u : UU) => []) (va_A [] sz)) 0 0 (va_A [] sz) :=
  gmet_of (by decide +kernel) (Nat.le_of_ble_eq_true rfl) (fun p e s m args below meth c B EB hsz => by
    have B : VB p s m args meth c D Y (va_A [] sz) cX0_obstacleOf 4 RX0 (some .int) := B
    refine V_lload_n 0 B dX0_obstacleOf_0 0 rfl ?_
    refine V_lload_n 1 B dX0_obstacleOf_1 1 rfl ?_
    refine V_lcmp 2 B dX0_obstacleOf_2 rfl ?_
    refine V_nmi (fun j0 _ => ?_)
    refine V_if_ne 3 B 8 dX0_obstacleOf_3 (by decide) (fun k1 => ?_) (fun k1 => ?_)
    ·
      refine V_lload_n 8 B dX0_obstacleOf_8 1 rfl ?_
      refine V_gsi 9 B envX EB (st := []) (As := [.long p1]) (fun sz => sX6_lengthOf_1 l D Y  p1 sz) glS_RX0_163 ⟨rfl, rfl⟩ ⟨(Nat.le_of_ble_eq_true rfl), (Nat.le_of_ble_eq_true rfl)⟩ ⟨(Nat.le_of_ble_eq_true rfl), (Nat.le_of_ble_eq_true rfl)⟩ [] rfl rfl (Nat.le_of_ble_eq_true rfl) rfl (fun _ _ _ => rfl) dX0_obstacleOf_9 (fun j2 u3 w4 => ?_)
      refine V_ws [] rfl ?_
      refine V_lload_n 12 B dX0_obstacleOf_12 0 rfl ?_
      refine V_gsi 13 B envX EB (st := [.int j2]) (As := [.long p0]) (fun sz => sX6_lengthOf_1 l D Y  p0 sz) glS_RX0_163 ⟨rfl, rfl⟩ ⟨(Nat.le_of_ble_eq_true rfl), (Nat.le_of_ble_eq_true rfl)⟩ ⟨(Nat.le_of_ble_eq_true rfl), (Nat.le_of_ble_eq_true rfl)⟩ [] rfl rfl (Nat.le_of_ble_eq_true rfl) rfl (fun _ _ _ => rfl) dX0_obstacleOf_13 (fun j5 u6 w7 => ?_)
      refine V_ws [] rfl ?_
      refine V_icmp_ge 16 B 23 dX0_obstacleOf_16 (by decide) (fun k8 => ?_) (fun k8 => ?_)
      ·
        refine V_iconst 23 B (v := 4) dX0_obstacleOf_23 (by decide +kernel) ?_
        exact V_iret 24 B dX0_obstacleOf_24 (mkU [] [] [] [] []) trivial rfl
      ·
        refine V_iconst 19 B (v := 3) dX0_obstacleOf_19 (by decide +kernel) ?_
        refine V_goto 20 B 24 dX0_obstacleOf_20 (by decide) ?_
        exact V_iret 24 B dX0_obstacleOf_24 (mkU [] [] [] [] []) trivial rfl
    ·
      obtain rfl : j0 = 0 := k1
      refine V_iconst 6 B (v := 2) dX0_obstacleOf_6 (by decide +kernel) ?_
      exact V_iret 7 B dX0_obstacleOf_7 (mkU [] [] [] [] []) trivial rfl)
theorem glS_RX0_153 : GLS RX0 153 yX0_obstacleOf cX0_obstacleOf 4 (some .int) 2 := ⟨⟨(mT6 42 rfl rfl), (mT6 43 rfl rfl), (mT1 2 rfl rfl), (mT6 44 rfl rfl)⟩, by decide +kernel⟩
theorem dX0_obstacle_55 : decode cX0_obstacle 55 = .ok (.istore 6, 2) := by decide +kernel
theorem dX0_obstacle_57 : decode cX0_obstacle 57 = .ok (.iload 4, 2) := by decide +kernel
theorem dX0_obstacle_59 : decode cX0_obstacle 59 = .ok (.ifCond .ne 8, 3) := by decide +kernel
theorem dX0_obstacle_67 : decode cX0_obstacle 67 = .ok (.iload 4, 2) := by decide +kernel
theorem dX0_obstacle_69 : decode cX0_obstacle 69 = .ok (.iload 6, 2) := by decide +kernel
theorem dX0_obstacle_71 : decode cX0_obstacle 71 = .ok (.invokestatic 157, 3) := by decide +kernel
theorem dX0_obstacle_74 : decode cX0_obstacle 74 = .ok (.istore 4, 2) := by decide +kernel
theorem dX0_obstacle_62 : decode cX0_obstacle 62 = .ok (.iload 6, 2) := by decide +kernel
theorem dX0_obstacle_64 : decode cX0_obstacle 64 = .ok (.goto 10, 3) := by decide +kernel
theorem dX0_obstacle_11 : decode cX0_obstacle 11 = .ok (.iconst 1, 1) := by decide +kernel
theorem dX0_obstacle_12 : decode cX0_obstacle 12 = .ok (.ireturn, 1) := by decide +kernel
set_option maxRecDepth 100000 in
set_option maxHeartbeats 4000000 in
theorem sX0_obstacle_1 (l : Launch) (D : va_G) (Y : Nat → ClassId) (h0 : Nat) (h1 : Nat) (h2 : Nat) (h3 : Nat) (h4 : Nat) (h5 : Nat) (h6 : Nat) (g0 : Nat) (g1 : Nat) (g2 : Nat) (g3 : Nat) (g4 : Nat) (g5 : Nat) (g6 : Nat) (g7 : Nat) (p0 : Int32) (p1 : Int32) (f0 : Nat → Int64) (p2 : Int32) (f1 : Nat → Int32) (p3 : Int32) (f2 : Nat → Int64) (p4 : Int32) (p5 : Int64) (sz : Nat) : Met l yX0_obstacle (WSm yX0_obstacle cX0_obstacle 7 (some .int)) (mkR 2 0 0 52) (PreG EX D Y [.ref h0, .int p4, .long p5] [(h0, oC 2 [.ref g0, .ref g1, .ref g2, .ref g3, .ref h1, .ref h3, .ref g4, .ref h5, .ref g5, .ref g6, .ref g7, .int p0]), (h1, oC 7 [.ref h2, .int p1]), (h2, aJ Y 6 f0), (h3, oC 3 [.ref h4, .int p2]), (h4, aI Y 80 f1), (h5, oC 7 [.ref h6, .int p3]), (h6, aJ Y 80 f2)] sz) (QI D (fun (_ : Int32) (_ : UU) => True) (fun (u : UU) => [(h0, oC 2 [.ref g0, .ref g1, .ref g2, .ref g3, .ref h1, .ref h3, .ref g4, .ref h5, .ref g5, .ref g6, .ref g7, .int p0]), (h1, oC 7 [.ref h2, .int p1]), (h2, aJ Y 6 f0), (h3, oC 3 [.ref h4, .int p2]), (h4, aI Y 80 f1), (h5, oC 7 [.ref h6, .int p3]), (h6, aJ Y 80 f2)]) (va_A [(h0, oC 2 [.ref g0, .ref g1, .ref g2, .ref g3, .ref h1, .ref h3, .ref g4, .ref h5, .ref g5, .ref g6, .ref g7, .int p0]), (h1, oC 7 [.ref h2, .int p1]), (h2, aJ Y 6 f0), (h3, oC 3 [.ref h4, .int p2]), (h4, aI Y 80 f1), (h5, oC 7 [.ref h6, .int p3]), (h6, aJ Y 80 f2)] sz)) 0 0 (va_A [(h0, oC 2 [.ref g0, .ref g1, .ref g2, .ref g3, .ref h1, .ref h3, .ref g4, .ref h5, .ref g5, .ref g6, .ref g7, .int p0]), (h1, oC 7 [.ref h2, .int p1]), (h2, aJ Y 6 f0), (h3, oC 3 [.ref h4, .int p2]), (h4, aI Y 80 f1), (h5, oC 7 [.ref h6, .int p3]), (h6, aJ Y 80 f2)] sz) :=
  gmet_of (by decide +kernel) (Nat.le_of_ble_eq_true rfl) (fun p e s m args below meth c B EB hsz => by
    have B : VB p s m args meth c D Y (va_A [(h0, oC 2 [.ref g0, .ref g1, .ref g2, .ref g3, .ref h1, .ref h3, .ref g4, .ref h5, .ref g5, .ref g6, .ref g7, .int p0]), (h1, oC 7 [.ref h2, .int p1]), (h2, aJ Y 6 f0), (h3, oC 3 [.ref h4, .int p2]), (h4, aI Y 80 f1), (h5, oC 7 [.ref h6, .int p3]), (h6, aJ Y 80 f2)] sz) cX0_obstacle 7 RX0 (some .int) := B
    refine V_aload_n 0 B dX0_obstacle_0 0 rfl ?_
    refine V_get 1 B gf_RX0_32 0 rfl rfl dX0_obstacle_1 ?_
    refine V_lload_n 4 B dX0_obstacle_4 2 rfl ?_
    refine V_gvi 5 B envX EB (st := []) (As := [.long p5]) (fun sz => sX5_hasClash_1 l D Y h1 h2 p1 f0 p5 sz) glV_RX0_119 ⟨rfl, rfl⟩ ⟨(Nat.le_of_ble_eq_true rfl), (Nat.le_of_ble_eq_true rfl)⟩ ⟨(Nat.le_of_ble_eq_true rfl), (Nat.le_of_ble_eq_true rfl)⟩ [1, 0] rfl 7 0 rfl rfl rfl rfl (Nat.le_of_ble_eq_true rfl) rfl (fun _ _ _ => rfl) dX0_obstacle_5 (fun j0 u1 w2 => ?_)
    refine V_ws [(h0, oC 2 [.ref g0, .ref g1, .ref g2, .ref g3, .ref h1, .ref h3, .ref g4, .ref h5, .ref g5, .ref g6, .ref g7, .int p0]), (h1, oC 7 [.ref h2, .int p1]), (h2, aJ Y 6 f0), (h3, oC 3 [.ref h4, .int p2]), (h4, aI Y 80 f1), (h5, oC 7 [.ref h6, .int p3]), (h6, aJ Y 80 f2)] rfl ?_
    rcases w2 with rfl | rfl
    ·
      refine V_if_eq_t 8 B 13 dX0_obstacle_8 (by decide) (by decide +kernel) ?_
      refine V_iconst 13 B (v := 0) dX0_obstacle_13 (by decide +kernel) ?_
      refine V_istore 14 B (lv2 := [(4, .int 0), (0, .ref h0), (1, .int p4), (2, .long p5)]) dX0_obstacle_14 (by decide) rfl ?_
      refine V_iconst 16 B (v := 0) dX0_obstacle_16 (by decide +kernel) ?_
      refine V_istore 17 B (lv2 := [(5, .int 0), (4, .int 0), (0, .ref h0), (1, .int p4), (2, .long p5)]) dX0_obstacle_17 (by decide) rfl ?_
      refine V_wloop (α := UU) (fun a => (2147483647 - ((a.1 0)).toInt).toNat) (fun a => 0 ≤ ((a.1 0)).toInt) (fun a => [(5, .int (a.1 0)), (4, .int (a.1 1)), (0, .ref h0), (1, .int p4), (2, .long p5)]) (fun a => [(h0, oC 2 [.ref g0, .ref g1, .ref g2, .ref g3, .ref h1, .ref h3, .ref g4, .ref h5, .ref g5, .ref g6, .ref g7, .int p0]), (h1, oC 7 [.ref h2, .int p1]), (h2, aJ Y 6 f0), (h3, oC 3 [.ref h4, .int p2]), (h4, aI Y 80 f1), (h5, oC 7 [.ref h6, .int p3]), (h6, aJ Y 80 f2)]) (mkU [0, 0] [] [] [] []) (show (0 : Int) ≤ (0 : Int32).toInt by decide +kernel) rfl rfl (fun a3 hI5 IH4 => ?_)
      refine V_lv [(5, .int (a3.1 0)), (4, .int (a3.1 1)), (0, .ref h0), (1, .int p4), (2, .long p5)] [0, 1, 2, 3, 4] rfl ?_
      refine V_ws [(h0, oC 2 [.ref g0, .ref g1, .ref g2, .ref g3, .ref h1, .ref h3, .ref g4, .ref h5, .ref g5, .ref g6, .ref g7, .int p0]), (h1, oC 7 [.ref h2, .int p1]), (h2, aJ Y 6 f0), (h3, oC 3 [.ref h4, .int p2]), (h4, aI Y 80 f1), (h5, oC 7 [.ref h6, .int p3]), (h6, aJ Y 80 f2)] rfl ?_
      refine V_iload 19 B dX0_obstacle_19 0 rfl ?_
      refine V_aload_n 21 B dX0_obstacle_21 2 rfl ?_
      refine V_get 22 B gf_RX0_36 0 rfl rfl dX0_obstacle_22 ?_
      refine V_gvi 25 B envX EB (st := [.int (a3.1 0)]) (As := []) (fun sz => sX1_size_1 l D Y h3 h4 p2 sz) glV_RX0_91 ⟨rfl, rfl⟩ ⟨(Nat.le_of_ble_eq_true rfl), (Nat.le_of_ble_eq_true rfl)⟩ ⟨(Nat.le_of_ble_eq_true rfl), (Nat.le_of_ble_eq_true rfl)⟩ [3] rfl 3 0 rfl rfl rfl rfl (Nat.le_of_ble_eq_true rfl) rfl (fun _ _ _ => rfl) dX0_obstacle_25 (fun j6 u7 w8 => ?_)
      refine V_ws [(h0, oC 2 [.ref g0, .ref g1, .ref g2, .ref g3, .ref h1, .ref h3, .ref g4, .ref h5, .ref g5, .ref g6, .ref g7, .int p0]), (h1, oC 7 [.ref h2, .int p1]), (h2, aJ Y 6 f0), (h3, oC 3 [.ref h4, .int p2]), (h4, aI Y 80 f1), (h5, oC 7 [.ref h6, .int p3]), (h6, aJ Y 80 f2)] rfl ?_
      refine V_icmp_ge 28 B 82 dX0_obstacle_28 (by decide) (fun k9 => ?_) (fun k9 => ?_)
      ·
        refine V_iload 82 B dX0_obstacle_82 1 rfl ?_
        exact V_iret 84 B dX0_obstacle_84 (mkU [] [] [] [] []) trivial rfl
      ·
        refine V_aload_n 31 B dX0_obstacle_31 2 rfl ?_
        refine V_iload 32 B dX0_obstacle_32 0 rfl ?_
        refine V_iload_n 34 B dX0_obstacle_34 3 rfl ?_
        refine V_lload_n 35 B dX0_obstacle_35 4 rfl ?_
        refine V_gvi 36 B envX EB (st := []) (As := [.int (a3.1 0), .int p4, .long p5]) (fun sz => sX0_isOwnClash_1 l D Y h0 h3 h4 h5 h6 g0 g1 g2 g3 h1 g4 g5 g6 g7 p0 p2 f1 p3 f2 (a3.1 0) p4 p5 sz) glV_RX0_115 ⟨rfl, rfl⟩ ⟨(Nat.le_of_ble_eq_true rfl), (Nat.le_of_ble_eq_true rfl)⟩ ⟨(Nat.le_of_ble_eq_true rfl), (Nat.le_of_ble_eq_true rfl)⟩ [0, 2, 0, 0, 0] rfl 2 0 rfl rfl rfl rfl (Nat.le_of_ble_eq_true rfl) rfl (fun _ _ _ => rfl) dX0_obstacle_36 (fun j10 u11 w12 => ?_)
        refine V_ws [(h0, oC 2 [.ref g0, .ref g1, .ref g2, .ref g3, .ref h1, .ref h3, .ref g4, .ref h5, .ref g5, .ref g6, .ref g7, .int p0]), (h1, oC 7 [.ref h2, .int p1]), (h2, aJ Y 6 f0), (h3, oC 3 [.ref h4, .int p2]), (h4, aI Y 80 f1), (h5, oC 7 [.ref h6, .int p3]), (h6, aJ Y 80 f2)] rfl ?_
        rcases w12 with rfl | rfl
        ·
          refine V_if_eq_t 39 B 76 dX0_obstacle_39 (by decide) (by decide +kernel) ?_
          refine V_iinc 76 B (v := ((a3.1 0) + Int32.ofInt 1)) (lv2 := [(5, .int ((a3.1 0) + Int32.ofInt 1)), (4, .int (a3.1 1)), (0, .ref h0), (1, .int p4), (2, .long p5)]) dX0_obstacle_76 0 rfl rfl (by decide) rfl ?_
          refine V_goto 79 B 19 dX0_obstacle_79 (by decide) ?_
          refine V_lv [(5, .int ((a3.1 0) + Int32.ofInt 1)), (4, .int (a3.1 1)), (0, .ref h0), (1, .int p4), (2, .long p5)] [0, 1, 2, 3, 4] rfl ?_
          exact IH4 (mkU [((a3.1 0) + Int32.ofInt 1), (a3.1 1)] [] [] [] []) (Int.le_trans (by decide) (o_add_lo (c := Int32.ofInt 1) hI5 (o_lt_hi (o_nle k9) (i_hi j6) (k := 2147483646) (by decide +kernel)) (by decide +kernel) (by decide +kernel) (k := 1) (by decide +kernel))) (up_dec (x := (a3.1 0)) (c := Int32.ofInt 1) (by decide +kernel) hI5 (o_lt_hi (o_nle k9) (i_hi j6) (k := 2147483646) (by decide +kernel)) (by decide))
        ·
          refine V_if_eq_f 39 B 76 dX0_obstacle_39 (by decide) (by decide +kernel) ?_
          refine V_aload_n 42 B dX0_obstacle_42 2 rfl ?_
          refine V_get 43 B gf_RX0_42 0 rfl rfl dX0_obstacle_43 ?_
          refine V_iload 46 B dX0_obstacle_46 0 rfl ?_
          refine V_gvl 48 B envX EB (st := []) (As := [.int (a3.1 0)]) (fun sz => sX5_at_1 l D Y h5 h6 p3 f2 (a3.1 0) sz) glV_RX0_106 ⟨rfl, rfl⟩ ⟨(Nat.le_of_ble_eq_true rfl), (Nat.le_of_ble_eq_true rfl)⟩ ⟨(Nat.le_of_ble_eq_true rfl), (Nat.le_of_ble_eq_true rfl)⟩ [5, 0] rfl 7 0 rfl rfl rfl rfl (Nat.le_of_ble_eq_true rfl) rfl (fun _ _ _ => rfl) dX0_obstacle_48 (fun o13 u14 w15 => ?_)
          refine V_ws [(h0, oC 2 [.ref g0, .ref g1, .ref g2, .ref g3, .ref h1, .ref h3, .ref g4, .ref h5, .ref g5, .ref g6, .ref g7, .int p0]), (h1, oC 7 [.ref h2, .int p1]), (h2, aJ Y 6 f0), (h3, oC 3 [.ref h4, .int p2]), (h4, aI Y 80 f1), (h5, oC 7 [.ref h6, .int p3]), (h6, aJ Y 80 f2)] rfl ?_
          refine V_lload_n 51 B dX0_obstacle_51 4 rfl ?_
          refine V_gsi 52 B envX EB (st := []) (As := [.long o13, .long p5]) (fun sz => sX0_obstacleOf_1 l D Y  o13 p5 sz) glS_RX0_153 ⟨rfl, rfl⟩ ⟨(Nat.le_of_ble_eq_true rfl), (Nat.le_of_ble_eq_true rfl)⟩ ⟨(Nat.le_of_ble_eq_true rfl), (Nat.le_of_ble_eq_true rfl)⟩ [] rfl rfl (Nat.le_of_ble_eq_true rfl) rfl (fun _ _ _ => rfl) dX0_obstacle_52 (fun j16 u17 w18 => ?_)
          refine V_ws [(h0, oC 2 [.ref g0, .ref g1, .ref g2, .ref g3, .ref h1, .ref h3, .ref g4, .ref h5, .ref g5, .ref g6, .ref g7, .int p0]), (h1, oC 7 [.ref h2, .int p1]), (h2, aJ Y 6 f0), (h3, oC 3 [.ref h4, .int p2]), (h4, aI Y 80 f1), (h5, oC 7 [.ref h6, .int p3]), (h6, aJ Y 80 f2)] rfl ?_
          refine V_istore 55 B (lv2 := [(6, .int j16), (5, .int (a3.1 0)), (4, .int (a3.1 1)), (0, .ref h0), (1, .int p4), (2, .long p5)]) dX0_obstacle_55 (by decide) rfl ?_
          refine V_iload 57 B dX0_obstacle_57 2 rfl ?_
          refine V_if_ne 59 B 67 dX0_obstacle_59 (by decide) (fun k19 => ?_) (fun k19 => ?_)
          ·
            refine V_iload 67 B dX0_obstacle_67 2 rfl ?_
            refine V_iload 69 B dX0_obstacle_69 0 rfl ?_
            refine V_mmin 71 B  gm_RX0_157 dX0_obstacle_71 (Nat.le_of_ble_eq_true rfl) (Nat.le_of_ble_eq_true rfl) (Nat.le_of_ble_eq_true rfl) (Nat.le_of_ble_eq_true rfl) rfl ?_
            refine V_nmi (fun j20 e21 => ?_)
            refine V_istore 74 B (lv2 := [(4, .int j20), (6, .int j16), (5, .int (a3.1 0)), (0, .ref h0), (1, .int p4), (2, .long p5)]) dX0_obstacle_74 (by decide) rfl ?_
            refine V_iinc 76 B (v := ((a3.1 0) + Int32.ofInt 1)) (lv2 := [(5, .int ((a3.1 0) + Int32.ofInt 1)), (4, .int j20), (6, .int j16), (0, .ref h0), (1, .int p4), (2, .long p5)]) dX0_obstacle_76 2 rfl rfl (by decide) rfl ?_
            refine V_goto 79 B 19 dX0_obstacle_79 (by decide) ?_
            refine V_lv [(5, .int ((a3.1 0) + Int32.ofInt 1)), (4, .int j20), (0, .ref h0), (1, .int p4), (2, .long p5)] [0, 1, 3, 4, 5] rfl ?_
            exact IH4 (mkU [((a3.1 0) + Int32.ofInt 1), j20] [] [] [] []) (Int.le_trans (by decide) (o_add_lo (c := Int32.ofInt 1) hI5 (o_lt_hi (o_nle k9) (i_hi j6) (k := 2147483646) (by decide +kernel)) (by decide +kernel) (by decide +kernel) (k := 1) (by decide +kernel))) (up_dec (x := (a3.1 0)) (c := Int32.ofInt 1) (by decide +kernel) hI5 (o_lt_hi (o_nle k9) (i_hi j6) (k := 2147483646) (by decide +kernel)) (by decide))
          ·
            refine V_iload 62 B dX0_obstacle_62 0 rfl ?_
            refine V_goto 64 B 74 dX0_obstacle_64 (by decide) ?_
            refine V_istore 74 B (lv2 := [(4, .int j16), (6, .int j16), (5, .int (a3.1 0)), (0, .ref h0), (1, .int p4), (2, .long p5)]) dX0_obstacle_74 (by decide) rfl ?_
            refine V_iinc 76 B (v := ((a3.1 0) + Int32.ofInt 1)) (lv2 := [(5, .int ((a3.1 0) + Int32.ofInt 1)), (4, .int j16), (6, .int j16), (0, .ref h0), (1, .int p4), (2, .long p5)]) dX0_obstacle_76 2 rfl rfl (by decide) rfl ?_
            refine V_goto 79 B 19 dX0_obstacle_79 (by decide) ?_
            refine V_lv [(5, .int ((a3.1 0) + Int32.ofInt 1)), (4, .int j16), (0, .ref h0), (1, .int p4), (2, .long p5)] [0, 1, 3, 4, 5] rfl ?_
            exact IH4 (mkU [((a3.1 0) + Int32.ofInt 1), j16] [] [] [] []) (Int.le_trans (by decide) (o_add_lo (c := Int32.ofInt 1) hI5 (o_lt_hi (o_nle k9) (i_hi j6) (k := 2147483646) (by decide +kernel)) (by decide +kernel) (by decide +kernel) (k := 1) (by decide +kernel))) (up_dec (x := (a3.1 0)) (c := Int32.ofInt 1) (by decide +kernel) hI5 (o_lt_hi (o_nle k9) (i_hi j6) (k := 2147483646) (by decide +kernel)) (by decide))
    ·
      refine V_if_eq_f 8 B 13 dX0_obstacle_8 (by decide) (by decide +kernel) ?_
      refine V_iconst 11 B (v := 1) dX0_obstacle_11 (by decide +kernel) ?_
      exact V_iret 12 B dX0_obstacle_12 (mkU [] [] [] [] []) trivial rfl)
theorem glV_RX11_251 : GLV RX11 251 yX0_obstacle RX0 cX0_obstacle 7 (some .int) 2 := ⟨⟨(mT6 38 rfl rfl), (mT6 39 rfl rfl), (mT6 40 rfl rfl), (mT1 2 rfl rfl), (mT6 41 rfl rfl)⟩, by decide +kernel⟩
theorem dX11_reason_31 : decode cX11_reason 31 = .ok (.ireturn, 1) := by decide +kernel
theorem dX11_reason_14 : decode cX11_reason 14 = .ok (.bipush (-4), 2) := by decide +kernel
theorem dX11_reason_16 : decode cX11_reason 16 = .ok (.goto 15, 3) := by decide +kernel
set_option maxRecDepth 100000 in
set_option maxHeartbeats 4000000 in
theorem sX11_reason_1 (l : Launch) (hl9 : l.stackTraces = false) (D : va_G) (Y : Nat → ClassId) (h0 : Nat) (h1 : Nat) (h2 : Nat) (h3 : Nat) (h4 : Nat) (h5 : Nat) (h6 : Nat) (h7 : Nat) (h8 : Nat) (g0 : Nat) (g1 : Nat) (g2 : Nat) (g3 : Nat) (g4 : Nat) (g5 : Nat) (g6 : Nat) (g7 : Nat) (g8 : Nat) (g9 : Nat) (g10 : Nat) (g11 : Nat) (g12 : Nat) (g13 : Nat) (g14 : Nat) (g15 : Nat) (p0 : Int64) (p1 : Int32) (p2 : Int32) (p3 : Int32) (f0 : Nat → Int64) (p4 : Int32) (f1 : Nat → Int32) (p5 : Int32) (f2 : Nat → Int64) (p6 : Int32) (sz : Nat) : vx_Met l yX11_reason (WSm yX11_reason cX11_reason 2 (some .int)) (mkR 7 1 6 103) (PreX D Y [.ref h0, .int p6] [(h0, oC 12 [.ref h1, .ref g0, .ref g1, .ref g2, .ref g3, .ref g4, .ref g5, .ref g6, .ref g7, .long p0]), (h1, oC 2 [.ref h2, .ref g8, .ref g9, .ref g10, .ref h3, .ref h5, .ref g11, .ref h7, .ref g12, .ref g13, .ref g14, .int p1]), (h2, oC 3 [.ref g15, .int p2]), (h3, oC 7 [.ref h4, .int p3]), (h4, aJ Y 6 f0), (h5, oC 3 [.ref h6, .int p4]), (h6, aI Y 80 f1), (h7, oC 7 [.ref h8, .int p5]), (h8, aJ Y 80 f2)] sz) (QI D (fun (_ : Int32) (_ : UU) => True) (fun (u : UU) => [(h0, oC 12 [.ref h1, .ref g0, .ref g1, .ref g2, .ref g3, .ref g4, .ref g5, .ref g6, .ref g7, .long p0]), (h1, oC 2 [.ref h2, .ref g8, .ref g9, .ref g10, .ref h3, .ref h5, .ref g11, .ref h7, .ref g12, .ref g13, .ref g14, .int p1]), (h2, oC 3 [.ref g15, .int p2]), (h3, oC 7 [.ref h4, .int p3]), (h4, aJ Y 6 f0), (h5, oC 3 [.ref h6, .int p4]), (h6, aI Y 80 f1), (h7, oC 7 [.ref h8, .int p5]), (h8, aJ Y 80 f2)]) (va_A [(h0, oC 12 [.ref h1, .ref g0, .ref g1, .ref g2, .ref g3, .ref g4, .ref g5, .ref g6, .ref g7, .long p0]), (h1, oC 2 [.ref h2, .ref g8, .ref g9, .ref g10, .ref h3, .ref h5, .ref g11, .ref h7, .ref g12, .ref g13, .ref g14, .int p1]), (h2, oC 3 [.ref g15, .int p2]), (h3, oC 7 [.ref h4, .int p3]), (h4, aJ Y 6 f0), (h5, oC 3 [.ref h6, .int p4]), (h6, aI Y 80 f1), (h7, oC 7 [.ref h8, .int p5]), (h8, aJ Y 80 f2)] sz)) (XW D (fun (E : String) (_ : UU) => E = "java/lang/IndexOutOfBoundsException") (fun (u : UU) => [(h0, oC 12 [.ref h1, .ref g0, .ref g1, .ref g2, .ref g3, .ref g4, .ref g5, .ref g6, .ref g7, .long p0]), (h1, oC 2 [.ref h2, .ref g8, .ref g9, .ref g10, .ref h3, .ref h5, .ref g11, .ref h7, .ref g12, .ref g13, .ref g14, .int p1]), (h2, oC 3 [.ref g15, .int p2]), (h3, oC 7 [.ref h4, .int p3]), (h4, aJ Y 6 f0), (h5, oC 3 [.ref h6, .int p4]), (h6, aI Y 80 f1), (h7, oC 7 [.ref h8, .int p5]), (h8, aJ Y 80 f2)]) (va_A [(h0, oC 12 [.ref h1, .ref g0, .ref g1, .ref g2, .ref g3, .ref g4, .ref g5, .ref g6, .ref g7, .long p0]), (h1, oC 2 [.ref h2, .ref g8, .ref g9, .ref g10, .ref h3, .ref h5, .ref g11, .ref h7, .ref g12, .ref g13, .ref g14, .int p1]), (h2, oC 3 [.ref g15, .int p2]), (h3, oC 7 [.ref h4, .int p3]), (h4, aJ Y 6 f0), (h5, oC 3 [.ref h6, .int p4]), (h6, aI Y 80 f1), (h7, oC 7 [.ref h8, .int p5]), (h8, aJ Y 80 f2)] sz)) 1 6 (va_A [(h0, oC 12 [.ref h1, .ref g0, .ref g1, .ref g2, .ref g3, .ref g4, .ref g5, .ref g6, .ref g7, .long p0]), (h1, oC 2 [.ref h2, .ref g8, .ref g9, .ref g10, .ref h3, .ref h5, .ref g11, .ref h7, .ref g12, .ref g13, .ref g14, .int p1]), (h2, oC 3 [.ref g15, .int p2]), (h3, oC 7 [.ref h4, .int p3]), (h4, aJ Y 6 f0), (h5, oC 3 [.ref h6, .int p4]), (h6, aI Y 80 f1), (h7, oC 7 [.ref h8, .int p5]), (h8, aJ Y 80 f2)] sz) :=
  xmet_of (by decide +kernel) (Nat.le_of_ble_eq_true rfl) (fun p e s m args below meth c B EB hout hsz => by
    have B : VB p s m args meth c D Y (va_A [(h0, oC 12 [.ref h1, .ref g0, .ref g1, .ref g2, .ref g3, .ref g4, .ref g5, .ref g6, .ref g7, .long p0]), (h1, oC 2 [.ref h2, .ref g8, .ref g9, .ref g10, .ref h3, .ref h5, .ref g11, .ref h7, .ref g12, .ref g13, .ref g14, .int p1]), (h2, oC 3 [.ref g15, .int p2]), (h3, oC 7 [.ref h4, .int p3]), (h4, aJ Y 6 f0), (h5, oC 3 [.ref h6, .int p4]), (h6, aI Y 80 f1), (h7, oC 7 [.ref h8, .int p5]), (h8, aJ Y 80 f2)] sz) cX11_reason 2 RX11 (some .int) := B
    refine V_aload_n 0 B dX11_reason_0 0 rfl ?_
    refine V_iload_n 1 B dX11_reason_1 1 rfl ?_
    refine V_xvv 2 B EB (st := []) (As := [.int p6]) (fun sz => sX11_needMode_1 l hl9 D Y h0 h1 h2 g0 g1 g2 g3 g4 g5 g6 g7 g8 g9 g10 h3 h5 g11 h7 g12 g13 g14 g15 p0 p1 p2 p6 sz) glV_RX11_180 ⟨rfl, rfl⟩ ⟨(Nat.le_of_ble_eq_true rfl), (Nat.le_of_ble_eq_true rfl)⟩ ⟨(Nat.le_of_ble_eq_true rfl), (Nat.le_of_ble_eq_true rfl)⟩ [0, 0, 0] rfl 12 0 rfl rfl rfl rfl (Nat.le_of_ble_eq_true rfl) rfl (fun _ _ => rfl) (fun _ _ _ => rfl) dX11_reason_2 (fun E u1 w2 => ?_) (fun u1 w2 => ?_)
    ·
      obtain rfl := w2
      exact VX_out 2 B hout (mkU [] [] [] [] []) rfl rfl (Nat.le_of_ble_eq_true rfl) (Nat.le_of_ble_eq_true rfl)
    ·
      refine V_ws [(h0, oC 12 [.ref h1, .ref g0, .ref g1, .ref g2, .ref g3, .ref g4, .ref g5, .ref g6, .ref g7, .long p0]), (h1, oC 2 [.ref h2, .ref g8, .ref g9, .ref g10, .ref h3, .ref h5, .ref g11, .ref h7, .ref g12, .ref g13, .ref g14, .int p1]), (h2, oC 3 [.ref g15, .int p2]), (h3, oC 7 [.ref h4, .int p3]), (h4, aJ Y 6 f0), (h5, oC 3 [.ref h6, .int p4]), (h6, aI Y 80 f1), (h7, oC 7 [.ref h8, .int p5]), (h8, aJ Y 80 f2)] rfl ?_
      refine V_aload_n 5 B dX11_reason_5 0 rfl ?_
      refine V_get 6 B gf_RX11_68 0 rfl rfl dX11_reason_6 ?_
      refine V_lconst 9 B (v := 0) dX11_reason_9 (by decide +kernel) ?_
      refine V_lcmp 10 B dX11_reason_10 rfl ?_
      refine V_nmi (fun j3 _ => ?_)
      refine V_if_ne 11 B 19 dX11_reason_11 (by decide) (fun k4 => ?_) (fun k4 => ?_)
      ·
        refine V_aload_n 19 B dX11_reason_19 0 rfl ?_
        refine V_get 20 B gf_RX11_10 0 rfl rfl dX11_reason_20 ?_
        refine V_iload_n 23 B dX11_reason_23 1 rfl ?_
        refine V_aload_n 24 B dX11_reason_24 0 rfl ?_
        refine V_get 25 B gf_RX11_68 0 rfl rfl dX11_reason_25 ?_
        refine V_gvi 28 B envX EB (st := []) (As := [.int p6, .long p0]) (fun sz => sX0_obstacle_1 l D Y h1 h3 h4 h5 h6 h7 h8 h2 g8 g9 g10 g11 g12 g13 g14 p1 p3 f0 p4 f1 p5 f2 p6 p0 sz) glV_RX11_251 ⟨rfl, rfl⟩ ⟨(Nat.le_of_ble_eq_true rfl), (Nat.le_of_ble_eq_true rfl)⟩ ⟨(Nat.le_of_ble_eq_true rfl), (Nat.le_of_ble_eq_true rfl)⟩ [1, 1, 0, 0, 0, 0, 0] rfl 2 0 rfl rfl rfl rfl (Nat.le_of_ble_eq_true rfl) rfl (fun _ _ _ => rfl) dX11_reason_28 (fun j5 u6 w7 => ?_)
        refine V_ws [(h0, oC 12 [.ref h1, .ref g0, .ref g1, .ref g2, .ref g3, .ref g4, .ref g5, .ref g6, .ref g7, .long p0]), (h1, oC 2 [.ref h2, .ref g8, .ref g9, .ref g10, .ref h3, .ref h5, .ref g11, .ref h7, .ref g12, .ref g13, .ref g14, .int p1]), (h2, oC 3 [.ref g15, .int p2]), (h3, oC 7 [.ref h4, .int p3]), (h4, aJ Y 6 f0), (h5, oC 3 [.ref h6, .int p4]), (h6, aI Y 80 f1), (h7, oC 7 [.ref h8, .int p5]), (h8, aJ Y 80 f2)] rfl ?_
        refine V_xret ?_
        refine V_widen (k := 1) (n := 6) (Nat.le_of_ble_eq_true rfl) (Nat.le_of_ble_eq_true rfl) ?_
        exact V_iret 31 B dX11_reason_31 (mkU [] [] [] [] []) trivial rfl
      ·
        obtain rfl : j3 = 0 := k4
        refine V_bipush 14 B (v := (-4)) dX11_reason_14 (by decide +kernel) ?_
        refine V_goto 16 B 31 dX11_reason_16 (by decide) ?_
        refine V_xret ?_
        refine V_widen (k := 1) (n := 6) (Nat.le_of_ble_eq_true rfl) (Nat.le_of_ble_eq_true rfl) ?_
        exact V_iret 31 B dX11_reason_31 (mkU [] [] [] [] []) trivial rfl)
theorem dX11_packed_0 : decode cX11_packed 0 = .ok (.aload_n 0, 1) := by decide +kernel
theorem dX11_packed_1 : decode cX11_packed 1 = .ok (.iload_n 1, 1) := by decide +kernel
theorem dX11_packed_2 : decode cX11_packed 2 = .ok (.invokevirtual 167, 3) := by decide +kernel
theorem dX11_packed_5 : decode cX11_packed 5 = .ok (.aload_n 0, 1) := by decide +kernel
theorem dX11_packed_6 : decode cX11_packed 6 = .ok (.getfield 10, 3) := by decide +kernel
theorem dX11_packed_9 : decode cX11_packed 9 = .ok (.getfield 170, 3) := by decide +kernel
theorem dX11_packed_12 : decode cX11_packed 12 = .ok (.iload_n 1, 1) := by decide +kernel
theorem dX11_packed_13 : decode cX11_packed 13 = .ok (.invokevirtual 173, 3) := by decide +kernel
theorem dX11_packed_16 : decode cX11_packed 16 = .ok (.invokestatic 254, 3) := by decide +kernel
theorem dX6_asNumber_0 : decode cX6_asNumber 0 = .ok (.lload_n 0, 1) := by decide +kernel
theorem dX6_asNumber_1 : decode cX6_asNumber 1 = .ok (.bipush 9, 2) := by decide +kernel
theorem dX6_asNumber_3 : decode cX6_asNumber 3 = .ok (.iconst 4, 1) := by decide +kernel
theorem dX6_asNumber_4 : decode cX6_asNumber 4 = .ok (.lload_n 0, 1) := by decide +kernel
theorem dX6_asNumber_5 : decode cX6_asNumber 5 = .ok (.invokestatic 13, 3) := by decide +kernel
theorem dX6_asNumber_8 : decode cX6_asNumber 8 = .ok (.isub, 1) := by decide +kernel
theorem dX6_asNumber_9 : decode cX6_asNumber 9 = .ok (.imul, 1) := by decide +kernel
theorem dX6_asNumber_10 : decode cX6_asNumber 10 = .ok (.lshr, 1) := by decide +kernel
theorem dX6_asNumber_11 : decode cX6_asNumber 11 = .ok (.lreturn, 1) := by decide +kernel
set_option maxRecDepth 100000 in
set_option maxHeartbeats 4000000 in
theorem sX6_asNumber_1 (l : Launch) (D : va_G) (Y : Nat → ClassId) (p0 : Int64) (sz : Nat) : Met l yX6_asNumber (WSm yX6_asNumber cX6_asNumber 2 (some .long)) (mkR 1 0 0 21) (PreG EX D Y [.long p0] [] sz) (QJ D (fun (_ : Int64) (_ : UU) => True) (fun (u : UU) => []) (va_A [] sz)) 0 0 (va_A [] sz) :=
  gmet_of (by decide +kernel) (Nat.le_of_ble_eq_true rfl) (fun p e s m args below meth c B EB hsz => by
    have B : VB p s m args meth c D Y (va_A [] sz) cX6_asNumber 2 RX6 (some .long) := B
    refine V_lload_n 0 B dX6_asNumber_0 0 rfl ?_
    refine V_bipush 1 B (v := 9) dX6_asNumber_1 (by decide +kernel) ?_
    refine V_iconst 3 B (v := 4) dX6_asNumber_3 (by decide +kernel) ?_
    refine V_lload_n 4 B dX6_asNumber_4 0 rfl ?_
    refine V_gsi 5 B envX EB (st := [.int 4, .int 9, .long p0]) (As := [.long p0]) (fun sz => sX6_lengthOf_1 l D Y  p0 sz) glS_RX6_13 ⟨rfl, rfl⟩ ⟨(Nat.le_of_ble_eq_true rfl), (Nat.le_of_ble_eq_true rfl)⟩ ⟨(Nat.le_of_ble_eq_true rfl), (Nat.le_of_ble_eq_true rfl)⟩ [] rfl rfl (Nat.le_of_ble_eq_true rfl) rfl (fun _ _ _ => rfl) dX6_asNumber_5 (fun j0 u1 w2 => ?_)
    refine V_ws [] rfl ?_
    refine V_isub 8 B dX6_asNumber_8 rfl ?_
    refine V_nmi (fun j3 _ => ?_)
    refine V_imul 9 B dX6_asNumber_9 rfl ?_
    refine V_nmi (fun j4 _ => ?_)
    refine V_lshr 10 B dX6_asNumber_10 rfl ?_
    refine V_nml (fun o5 _ => ?_)
    exact V_lret 11 B dX6_asNumber_11 (mkU [] [] [] [] []) trivial rfl)
theorem glS_RX11_254 : GLS RX11 254 yX6_asNumber cX6_asNumber 2 (some .long) 1 := ⟨⟨(mT6 239 rfl rfl), (mT7 0 rfl rfl), (mT1 18 rfl rfl), (mT7 1 rfl rfl)⟩, by decide +kernel⟩
theorem dX11_packed_19 : decode cX11_packed 19 = .ok (.lstore_n 3, 1) := by decide +kernel
theorem dX11_packed_20 : decode cX11_packed 20 = .ok (.iload_n 2, 1) := by decide +kernel
theorem dX11_packed_21 : decode cX11_packed 21 = .ok (.tableswitch 46 0 3 #[31, 35, 39, 43], 31) := by decide +kernel
theorem dX11_packed_52 : decode cX11_packed 52 = .ok (.lload_n 3, 1) := by decide +kernel
theorem dX11_packed_53 : decode cX11_packed 53 = .ok (.l2i, 1) := by decide +kernel
theorem dX11_packed_54 : decode cX11_packed 54 = .ok (.i2b, 1) := by decide +kernel
theorem dX11_packed_55 : decode cX11_packed 55 = .ok (.ireturn, 1) := by decide +kernel
theorem dX11_packed_56 : decode cX11_packed 56 = .ok (.lload_n 3, 1) := by decide +kernel
theorem dX11_packed_57 : decode cX11_packed 57 = .ok (.l2i, 1) := by decide +kernel
theorem dX11_packed_58 : decode cX11_packed 58 = .ok (.i2s, 1) := by decide +kernel
theorem dX11_packed_59 : decode cX11_packed 59 = .ok (.ireturn, 1) := by decide +kernel
theorem dX11_packed_60 : decode cX11_packed 60 = .ok (.lload_n 3, 1) := by decide +kernel
theorem dX11_packed_61 : decode cX11_packed 61 = .ok (.l2i, 1) := by decide +kernel
theorem dX11_packed_62 : decode cX11_packed 62 = .ok (.i2c, 1) := by decide +kernel
theorem dX11_packed_63 : decode cX11_packed 63 = .ok (.ireturn, 1) := by decide +kernel
theorem dX11_packed_64 : decode cX11_packed 64 = .ok (.lload_n 3, 1) := by decide +kernel
theorem dX11_packed_65 : decode cX11_packed 65 = .ok (.l2i, 1) := by decide +kernel
theorem dX11_packed_66 : decode cX11_packed 66 = .ok (.ireturn, 1) := by decide +kernel
theorem dX11_packed_67 : decode cX11_packed 67 = .ok (.new 190, 3) := by decide +kernel
theorem dX11_packed_70 : decode cX11_packed 70 = .ok (.dup, 1) := by decide +kernel
theorem dX11_packed_71 : decode cX11_packed 71 = .ok (.ldc 192, 2) := by decide +kernel
theorem dX11_packed_73 : decode cX11_packed 73 = .ok (.invokespecial 194, 3) := by decide +kernel
theorem dX11_packed_76 : decode cX11_packed 76 = .ok (.athrow, 1) := by decide +kernel
set_option maxRecDepth 100000 in
set_option maxHeartbeats 4000000 in
theorem sX11_packed_1 (l : Launch) (hl9 : l.stackTraces = false) (D : va_G) (Y : Nat → ClassId) (h0 : Nat) (h1 : Nat) (h2 : Nat) (h3 : Nat) (h4 : Nat) (g0 : Nat) (g1 : Nat) (g2 : Nat) (g3 : Nat) (g4 : Nat) (g5 : Nat) (g6 : Nat) (g7 : Nat) (g8 : Nat) (g9 : Nat) (g10 : Nat) (g11 : Nat) (g12 : Nat) (g13 : Nat) (g14 : Nat) (g15 : Nat) (g16 : Nat) (g17 : Nat) (p0 : Int64) (p1 : Int32) (p2 : Int32) (p3 : Int32) (f0 : Nat → Int64) (p4 : Int32) (p5 : Int32) (sz : Nat) : vx_Met l yX11_packed (WSm yX11_packed cX11_packed 5 (some .int)) (mkR 7 2 12 103) (PreX D Y [.ref h0, .int p4, .int p5] [(h0, oC 12 [.ref h1, .ref g0, .ref g1, .ref g2, .ref g3, .ref g4, .ref g5, .ref g6, .ref g7, .long p0]), (h1, oC 2 [.ref g8, .ref g9, .ref g10, .ref g11, .ref g12, .ref h2, .ref g13, .ref h3, .ref g14, .ref g15, .ref g16, .int p1]), (h2, oC 3 [.ref g17, .int p2]), (h3, oC 7 [.ref h4, .int p3]), (h4, aJ Y 80 f0)] sz) (QI D (fun (_ : Int32) (_ : UU) => True) (fun (u : UU) => [(h0, oC 12 [.ref h1, .ref g0, .ref g1, .ref g2, .ref g3, .ref g4, .ref g5, .ref g6, .ref g7, .long p0]), (h1, oC 2 [.ref g8, .ref g9, .ref g10, .ref g11, .ref g12, .ref h2, .ref g13, .ref h3, .ref g14, .ref g15, .ref g16, .int p1]), (h2, oC 3 [.ref g17, .int p2]), (h3, oC 7 [.ref h4, .int p3]), (h4, aJ Y 80 f0)]) (va_A [(h0, oC 12 [.ref h1, .ref g0, .ref g1, .ref g2, .ref g3, .ref g4, .ref g5, .ref g6, .ref g7, .long p0]), (h1, oC 2 [.ref g8, .ref g9, .ref g10, .ref g11, .ref g12, .ref h2, .ref g13, .ref h3, .ref g14, .ref g15, .ref g16, .int p1]), (h2, oC 3 [.ref g17, .int p2]), (h3, oC 7 [.ref h4, .int p3]), (h4, aJ Y 80 f0)] sz)) (XW D (fun (E : String) (_ : UU) => E = "java/lang/IllegalArgumentException" ∨ E = "java/lang/IndexOutOfBoundsException") (fun (u : UU) => [(h0, oC 12 [.ref h1, .ref g0, .ref g1, .ref g2, .ref g3, .ref g4, .ref g5, .ref g6, .ref g7, .long p0]), (h1, oC 2 [.ref g8, .ref g9, .ref g10, .ref g11, .ref g12, .ref h2, .ref g13, .ref h3, .ref g14, .ref g15, .ref g16, .int p1]), (h2, oC 3 [.ref g17, .int p2]), (h3, oC 7 [.ref h4, .int p3]), (h4, aJ Y 80 f0)]) (va_A [(h0, oC 12 [.ref h1, .ref g0, .ref g1, .ref g2, .ref g3, .ref g4, .ref g5, .ref g6, .ref g7, .long p0]), (h1, oC 2 [.ref g8, .ref g9, .ref g10, .ref g11, .ref g12, .ref h2, .ref g13, .ref h3, .ref g14, .ref g15, .ref g16, .int p1]), (h2, oC 3 [.ref g17, .int p2]), (h3, oC 7 [.ref h4, .int p3]), (h4, aJ Y 80 f0)] sz)) 2 12 (va_A [(h0, oC 12 [.ref h1, .ref g0, .ref g1, .ref g2, .ref g3, .ref g4, .ref g5, .ref g6, .ref g7, .long p0]), (h1, oC 2 [.ref g8, .ref g9, .ref g10, .ref g11, .ref g12, .ref h2, .ref g13, .ref h3, .ref g14, .ref g15, .ref g16, .int p1]), (h2, oC 3 [.ref g17, .int p2]), (h3, oC 7 [.ref h4, .int p3]), (h4, aJ Y 80 f0)] sz) :=
  xmet_of (by decide +kernel) (Nat.le_of_ble_eq_true rfl) (fun p e s m args below meth c B EB hout hsz => by
    have B : VB p s m args meth c D Y (va_A [(h0, oC 12 [.ref h1, .ref g0, .ref g1, .ref g2, .ref g3, .ref g4, .ref g5, .ref g6, .ref g7, .long p0]), (h1, oC 2 [.ref g8, .ref g9, .ref g10, .ref g11, .ref g12, .ref h2, .ref g13, .ref h3, .ref g14, .ref g15, .ref g16, .int p1]), (h2, oC 3 [.ref g17, .int p2]), (h3, oC 7 [.ref h4, .int p3]), (h4, aJ Y 80 f0)] sz) cX11_packed 5 RX11 (some .int) := B
    refine V_aload_n 0 B dX11_packed_0 0 rfl ?_
    refine V_iload_n 1 B dX11_packed_1 1 rfl ?_
    refine V_xvv 2 B EB (st := []) (As := [.int p4]) (fun sz => sX11_needBinding_1 l hl9 D Y h0 h1 h2 g0 g1 g2 g3 g4 g5 g6 g7 g8 g9 g10 g11 g12 g13 h3 g14 g15 g16 g17 p0 p1 p2 p4 sz) glV_RX11_167 ⟨rfl, rfl⟩ ⟨(Nat.le_of_ble_eq_true rfl), (Nat.le_of_ble_eq_true rfl)⟩ ⟨(Nat.le_of_ble_eq_true rfl), (Nat.le_of_ble_eq_true rfl)⟩ [0, 0, 0] rfl 12 0 rfl rfl rfl rfl (Nat.le_of_ble_eq_true rfl) rfl (fun _ _ => rfl) (fun _ _ _ => rfl) dX11_packed_2 (fun E u1 w2 => ?_) (fun u1 w2 => ?_)
    ·
      obtain rfl := w2
      exact VX_out 2 B hout (mkU [] [] [] [] []) (Or.inr rfl) rfl (Nat.le_of_ble_eq_true rfl) (Nat.le_of_ble_eq_true rfl)
    ·
      refine V_ws [(h0, oC 12 [.ref h1, .ref g0, .ref g1, .ref g2, .ref g3, .ref g4, .ref g5, .ref g6, .ref g7, .long p0]), (h1, oC 2 [.ref g8, .ref g9, .ref g10, .ref g11, .ref g12, .ref h2, .ref g13, .ref h3, .ref g14, .ref g15, .ref g16, .int p1]), (h2, oC 3 [.ref g17, .int p2]), (h3, oC 7 [.ref h4, .int p3]), (h4, aJ Y 80 f0)] rfl ?_
      refine V_aload_n 5 B dX11_packed_5 0 rfl ?_
      refine V_get 6 B gf_RX11_10 0 rfl rfl dX11_packed_6 ?_
      refine V_get 9 B gf_RX11_170 1 rfl rfl dX11_packed_9 ?_
      refine V_iload_n 12 B dX11_packed_12 1 rfl ?_
      refine V_gvl 13 B envX EB (st := []) (As := [.int p4]) (fun sz => sX5_at_1 l D Y h3 h4 p3 f0 p4 sz) glV_RX11_173 ⟨rfl, rfl⟩ ⟨(Nat.le_of_ble_eq_true rfl), (Nat.le_of_ble_eq_true rfl)⟩ ⟨(Nat.le_of_ble_eq_true rfl), (Nat.le_of_ble_eq_true rfl)⟩ [3, 0] rfl 7 0 rfl rfl rfl rfl (Nat.le_of_ble_eq_true rfl) rfl (fun _ _ _ => rfl) dX11_packed_13 (fun o3 u4 w5 => ?_)
      refine V_ws [(h0, oC 12 [.ref h1, .ref g0, .ref g1, .ref g2, .ref g3, .ref g4, .ref g5, .ref g6, .ref g7, .long p0]), (h1, oC 2 [.ref g8, .ref g9, .ref g10, .ref g11, .ref g12, .ref h2, .ref g13, .ref h3, .ref g14, .ref g15, .ref g16, .int p1]), (h2, oC 3 [.ref g17, .int p2]), (h3, oC 7 [.ref h4, .int p3]), (h4, aJ Y 80 f0)] rfl ?_
      refine V_gsl 16 B envX EB (st := []) (As := [.long o3]) (fun sz => sX6_asNumber_1 l D Y  o3 sz) glS_RX11_254 ⟨rfl, rfl⟩ ⟨(Nat.le_of_ble_eq_true rfl), (Nat.le_of_ble_eq_true rfl)⟩ ⟨(Nat.le_of_ble_eq_true rfl), (Nat.le_of_ble_eq_true rfl)⟩ [] rfl rfl (Nat.le_of_ble_eq_true rfl) rfl (fun _ _ _ => rfl) dX11_packed_16 (fun o6 u7 w8 => ?_)
      refine V_ws [(h0, oC 12 [.ref h1, .ref g0, .ref g1, .ref g2, .ref g3, .ref g4, .ref g5, .ref g6, .ref g7, .long p0]), (h1, oC 2 [.ref g8, .ref g9, .ref g10, .ref g11, .ref g12, .ref h2, .ref g13, .ref h3, .ref g14, .ref g15, .ref g16, .int p1]), (h2, oC 3 [.ref g17, .int p2]), (h3, oC 7 [.ref h4, .int p3]), (h4, aJ Y 80 f0)] rfl ?_
      refine V_lstore_n 19 B (lv2 := [(3, .long o6), (0, .ref h0), (1, .int p4), (2, .int p5)]) dX11_packed_19 (by decide) rfl ?_
      refine V_iload_n 20 B dX11_packed_20 3 rfl ?_
      by_cases k9 : p5 = 0
      ·
        refine V_eqi _ 0 k9 ?_
        refine V_tableIn 21 B 52 dX11_packed_21 (by decide +kernel) (by decide +kernel) (off := 31) (by decide +kernel) (by decide) ?_
        refine V_lload_n 52 B dX11_packed_52 0 rfl ?_
        refine V_l2i 53 B dX11_packed_53 rfl ?_
        refine V_nmi (fun j10 _ => ?_)
        refine V_i2b 54 B dX11_packed_54 rfl ?_
        refine V_nmi (fun j11 _ => ?_)
        refine V_xret ?_
        refine V_widen (k := 2) (n := 12) (Nat.le_of_ble_eq_true rfl) (Nat.le_of_ble_eq_true rfl) ?_
        exact V_iret 55 B dX11_packed_55 (mkU [] [] [] [] []) trivial rfl
      ·
        by_cases k12 : p5 = 1
        ·
          refine V_eqi _ 1 k12 ?_
          refine V_tableIn 21 B 56 dX11_packed_21 (by decide +kernel) (by decide +kernel) (off := 35) (by decide +kernel) (by decide) ?_
          refine V_lload_n 56 B dX11_packed_56 0 rfl ?_
          refine V_l2i 57 B dX11_packed_57 rfl ?_
          refine V_nmi (fun j13 _ => ?_)
          refine V_i2s 58 B dX11_packed_58 rfl ?_
          refine V_nmi (fun j14 _ => ?_)
          refine V_xret ?_
          refine V_widen (k := 2) (n := 12) (Nat.le_of_ble_eq_true rfl) (Nat.le_of_ble_eq_true rfl) ?_
          exact V_iret 59 B dX11_packed_59 (mkU [] [] [] [] []) trivial rfl
        ·
          by_cases k15 : p5 = 2
          ·
            refine V_eqi _ 2 k15 ?_
            refine V_tableIn 21 B 60 dX11_packed_21 (by decide +kernel) (by decide +kernel) (off := 39) (by decide +kernel) (by decide) ?_
            refine V_lload_n 60 B dX11_packed_60 0 rfl ?_
            refine V_l2i 61 B dX11_packed_61 rfl ?_
            refine V_nmi (fun j16 _ => ?_)
            refine V_i2c 62 B dX11_packed_62 rfl ?_
            refine V_nmi (fun j17 _ => ?_)
            refine V_xret ?_
            refine V_widen (k := 2) (n := 12) (Nat.le_of_ble_eq_true rfl) (Nat.le_of_ble_eq_true rfl) ?_
            exact V_iret 63 B dX11_packed_63 (mkU [] [] [] [] []) trivial rfl
          ·
            by_cases k18 : p5 = 3
            ·
              refine V_eqi _ 3 k18 ?_
              refine V_tableIn 21 B 64 dX11_packed_21 (by decide +kernel) (by decide +kernel) (off := 43) (by decide +kernel) (by decide) ?_
              refine V_lload_n 64 B dX11_packed_64 0 rfl ?_
              refine V_l2i 65 B dX11_packed_65 rfl ?_
              refine V_nmi (fun j19 _ => ?_)
              refine V_xret ?_
              refine V_widen (k := 2) (n := 12) (Nat.le_of_ble_eq_true rfl) (Nat.le_of_ble_eq_true rfl) ?_
              exact V_iret 66 B dX11_packed_66 (mkU [] [] [] [] []) trivial rfl
            ·
              refine V_tableOut 21 B 67 dX11_packed_21 (sw_out_0_3 k9 k12 k15 k18) (by decide) ?_
              exact V_throwS 67 B EB hl9 gt_RX11_190_192_194 hout dX11_packed_67 dX11_packed_70 dX11_packed_71 dX11_packed_73 dX11_packed_76 (Nat.le_of_ble_eq_true rfl) (Nat.le_of_ble_eq_true rfl) (Nat.le_of_ble_eq_true rfl) (Nat.le_of_ble_eq_true rfl) (Nat.le_of_ble_eq_true rfl) (Nat.le_of_ble_eq_true rfl) (mkU [] [] [] [] []) (Or.inl rfl) rfl)
theorem gm_RX6_21 : GM RX6 21 Lib.Math.min.name Lib.Math.min.code := ⟨(mT6 130 rfl rfl), (mT3 189 rfl rfl), (mT1 4 rfl rfl), (mT3 190 rfl rfl)⟩
theorem dX11_common_0 : decode cX11_common 0 = .ok (.aload_n 0, 1) := by decide +kernel
theorem dX11_common_1 : decode cX11_common 1 = .ok (.iload_n 1, 1) := by decide +kernel
theorem dX11_common_2 : decode cX11_common 2 = .ok (.invokevirtual 167, 3) := by decide +kernel
theorem dX11_common_5 : decode cX11_common 5 = .ok (.aload_n 0, 1) := by decide +kernel
theorem dX11_common_6 : decode cX11_common 6 = .ok (.iload_n 2, 1) := by decide +kernel
theorem dX11_common_7 : decode cX11_common 7 = .ok (.invokevirtual 167, 3) := by decide +kernel
theorem dX11_common_10 : decode cX11_common 10 = .ok (.aload_n 0, 1) := by decide +kernel
theorem dX11_common_11 : decode cX11_common 11 = .ok (.getfield 10, 3) := by decide +kernel
theorem dX11_common_14 : decode cX11_common 14 = .ok (.getfield 170, 3) := by decide +kernel
theorem dX11_common_17 : decode cX11_common 17 = .ok (.iload_n 1, 1) := by decide +kernel
theorem dX11_common_18 : decode cX11_common 18 = .ok (.invokevirtual 173, 3) := by decide +kernel
theorem dX11_common_21 : decode cX11_common 21 = .ok (.aload_n 0, 1) := by decide +kernel
theorem dX11_common_22 : decode cX11_common 22 = .ok (.getfield 10, 3) := by decide +kernel
theorem dX11_common_25 : decode cX11_common 25 = .ok (.getfield 170, 3) := by decide +kernel
theorem dX11_common_28 : decode cX11_common 28 = .ok (.iload_n 2, 1) := by decide +kernel
theorem dX11_common_29 : decode cX11_common 29 = .ok (.invokevirtual 173, 3) := by decide +kernel
theorem dX11_common_32 : decode cX11_common 32 = .ok (.invokestatic 258, 3) := by decide +kernel
theorem dX6_sharedStrokes_0 : decode cX6_sharedStrokes 0 = .ok (.lload_n 0, 1) := by decide +kernel
theorem dX6_sharedStrokes_1 : decode cX6_sharedStrokes 1 = .ok (.invokestatic 13, 3) := by decide +kernel
theorem dX6_sharedStrokes_4 : decode cX6_sharedStrokes 4 = .ok (.lload_n 2, 1) := by decide +kernel
theorem dX6_sharedStrokes_5 : decode cX6_sharedStrokes 5 = .ok (.invokestatic 13, 3) := by decide +kernel
theorem dX6_sharedStrokes_8 : decode cX6_sharedStrokes 8 = .ok (.invokestatic 21, 3) := by decide +kernel
theorem dX6_sharedStrokes_11 : decode cX6_sharedStrokes 11 = .ok (.istore 4, 2) := by decide +kernel
theorem dX6_sharedStrokes_13 : decode cX6_sharedStrokes 13 = .ok (.iconst 0, 1) := by decide +kernel
theorem dX6_sharedStrokes_14 : decode cX6_sharedStrokes 14 = .ok (.istore 5, 2) := by decide +kernel
theorem dX6_sharedStrokes_16 : decode cX6_sharedStrokes 16 = .ok (.iload 5, 2) := by decide +kernel
theorem dX6_sharedStrokes_18 : decode cX6_sharedStrokes 18 = .ok (.iload 4, 2) := by decide +kernel
theorem dX6_sharedStrokes_20 : decode cX6_sharedStrokes 20 = .ok (.if_icmp .ge 24, 3) := by decide +kernel
theorem dX6_sharedStrokes_44 : decode cX6_sharedStrokes 44 = .ok (.iload 5, 2) := by decide +kernel
theorem dX6_sharedStrokes_46 : decode cX6_sharedStrokes 46 = .ok (.ireturn, 1) := by decide +kernel
theorem dX6_sharedStrokes_23 : decode cX6_sharedStrokes 23 = .ok (.lload_n 0, 1) := by decide +kernel
theorem dX6_sharedStrokes_24 : decode cX6_sharedStrokes 24 = .ok (.iload 5, 2) := by decide +kernel
theorem dX6_sharedStrokes_26 : decode cX6_sharedStrokes 26 = .ok (.invokestatic 27, 3) := by decide +kernel
theorem dX6_sharedStrokes_29 : decode cX6_sharedStrokes 29 = .ok (.lload_n 2, 1) := by decide +kernel
theorem dX6_sharedStrokes_30 : decode cX6_sharedStrokes 30 = .ok (.iload 5, 2) := by decide +kernel
theorem dX6_sharedStrokes_32 : decode cX6_sharedStrokes 32 = .ok (.invokestatic 27, 3) := by decide +kernel
theorem dX6_sharedStrokes_35 : decode cX6_sharedStrokes 35 = .ok (.if_icmp .ne 9, 3) := by decide +kernel
theorem dX6_sharedStrokes_38 : decode cX6_sharedStrokes 38 = .ok (.iinc 5 1, 3) := by decide +kernel
theorem dX6_sharedStrokes_41 : decode cX6_sharedStrokes 41 = .ok (.goto (-25), 3) := by decide +kernel
set_option maxRecDepth 100000 in
set_option maxHeartbeats 4000000 in
theorem sX6_sharedStrokes_1 (l : Launch) (D : va_G) (Y : Nat → ClassId) (p0 : Int64) (p1 : Int64) (sz : Nat) : Met l yX6_sharedStrokes (WSm yX6_sharedStrokes cX6_sharedStrokes 6 (some .int)) (mkR 1 0 0 22) (PreG EX D Y [.long p0, .long p1] [] sz) (QI D (fun (_ : Int32) (_ : UU) => True) (fun (u : UU) => []) (va_A [] sz)) 0 0 (va_A [] sz) :=
  gmet_of (by decide +kernel) (Nat.le_of_ble_eq_true rfl) (fun p e s m args below meth c B EB hsz => by
    have B : VB p s m args meth c D Y (va_A [] sz) cX6_sharedStrokes 6 RX6 (some .int) := B
    refine V_lload_n 0 B dX6_sharedStrokes_0 0 rfl ?_
    refine V_gsi 1 B envX EB (st := []) (As := [.long p0]) (fun sz => sX6_lengthOf_1 l D Y  p0 sz) glS_RX6_13 ⟨rfl, rfl⟩ ⟨(Nat.le_of_ble_eq_true rfl), (Nat.le_of_ble_eq_true rfl)⟩ ⟨(Nat.le_of_ble_eq_true rfl), (Nat.le_of_ble_eq_true rfl)⟩ [] rfl rfl (Nat.le_of_ble_eq_true rfl) rfl (fun _ _ _ => rfl) dX6_sharedStrokes_1 (fun j0 u1 w2 => ?_)
    refine V_ws [] rfl ?_
    refine V_lload_n 4 B dX6_sharedStrokes_4 1 rfl ?_
    refine V_gsi 5 B envX EB (st := [.int j0]) (As := [.long p1]) (fun sz => sX6_lengthOf_1 l D Y  p1 sz) glS_RX6_13 ⟨rfl, rfl⟩ ⟨(Nat.le_of_ble_eq_true rfl), (Nat.le_of_ble_eq_true rfl)⟩ ⟨(Nat.le_of_ble_eq_true rfl), (Nat.le_of_ble_eq_true rfl)⟩ [] rfl rfl (Nat.le_of_ble_eq_true rfl) rfl (fun _ _ _ => rfl) dX6_sharedStrokes_5 (fun j3 u4 w5 => ?_)
    refine V_ws [] rfl ?_
    refine V_mmin 8 B  gm_RX6_21 dX6_sharedStrokes_8 (Nat.le_of_ble_eq_true rfl) (Nat.le_of_ble_eq_true rfl) (Nat.le_of_ble_eq_true rfl) (Nat.le_of_ble_eq_true rfl) rfl ?_
    refine V_nmi (fun j6 e7 => ?_)
    refine V_istore 11 B (lv2 := [(4, .int j6), (0, .long p0), (2, .long p1)]) dX6_sharedStrokes_11 (by decide) rfl ?_
    refine V_iconst 13 B (v := 0) dX6_sharedStrokes_13 (by decide +kernel) ?_
    refine V_istore 14 B (lv2 := [(5, .int 0), (4, .int j6), (0, .long p0), (2, .long p1)]) dX6_sharedStrokes_14 (by decide) rfl ?_
    refine V_wloop (α := UU) (fun a => (2147483647 - ((a.1 0)).toInt).toNat) (fun a => 0 ≤ ((a.1 0)).toInt) (fun a => [(5, .int (a.1 0)), (4, .int j6), (0, .long p0), (2, .long p1)]) (fun a => []) (mkU [0] [] [] [] []) (show (0 : Int) ≤ (0 : Int32).toInt by decide +kernel) rfl rfl (fun a8 hI10 IH9 => ?_)
    refine V_lv [(5, .int (a8.1 0)), (4, .int j6), (0, .long p0), (2, .long p1)] [0, 1, 2, 3] rfl ?_
    refine V_ws [] rfl ?_
    refine V_iload 16 B dX6_sharedStrokes_16 0 rfl ?_
    refine V_iload 18 B dX6_sharedStrokes_18 1 rfl ?_
    refine V_icmp_ge 20 B 44 dX6_sharedStrokes_20 (by decide) (fun k11 => ?_) (fun k11 => ?_)
    ·
      refine V_iload 44 B dX6_sharedStrokes_44 0 rfl ?_
      exact V_iret 46 B dX6_sharedStrokes_46 (mkU [] [] [] [] []) trivial rfl
    ·
      refine V_lload_n 23 B dX6_sharedStrokes_23 2 rfl ?_
      refine V_iload 24 B dX6_sharedStrokes_24 0 rfl ?_
      refine V_gsi 26 B envX EB (st := []) (As := [.long p0, .int (a8.1 0)]) (fun sz => sX6_strokeAt_1 l D Y  p0 (a8.1 0) sz) glS_RX6_27 ⟨rfl, rfl⟩ ⟨(Nat.le_of_ble_eq_true rfl), (Nat.le_of_ble_eq_true rfl)⟩ ⟨(Nat.le_of_ble_eq_true rfl), (Nat.le_of_ble_eq_true rfl)⟩ [] rfl rfl (Nat.le_of_ble_eq_true rfl) rfl (fun _ _ _ => rfl) dX6_sharedStrokes_26 (fun j12 u13 w14 => ?_)
      refine V_ws [] rfl ?_
      refine V_lload_n 29 B dX6_sharedStrokes_29 3 rfl ?_
      refine V_iload 30 B dX6_sharedStrokes_30 0 rfl ?_
      refine V_gsi 32 B envX EB (st := [.int j12]) (As := [.long p1, .int (a8.1 0)]) (fun sz => sX6_strokeAt_1 l D Y  p1 (a8.1 0) sz) glS_RX6_27 ⟨rfl, rfl⟩ ⟨(Nat.le_of_ble_eq_true rfl), (Nat.le_of_ble_eq_true rfl)⟩ ⟨(Nat.le_of_ble_eq_true rfl), (Nat.le_of_ble_eq_true rfl)⟩ [] rfl rfl (Nat.le_of_ble_eq_true rfl) rfl (fun _ _ _ => rfl) dX6_sharedStrokes_32 (fun j15 u16 w17 => ?_)
      refine V_ws [] rfl ?_
      refine V_icmp_ne 35 B 44 dX6_sharedStrokes_35 (by decide) (fun k18 => ?_) (fun k18 => ?_)
      ·
        refine V_iload 44 B dX6_sharedStrokes_44 0 rfl ?_
        exact V_iret 46 B dX6_sharedStrokes_46 (mkU [] [] [] [] []) trivial rfl
      ·
        refine V_iinc 38 B (v := ((a8.1 0) + Int32.ofInt 1)) (lv2 := [(5, .int ((a8.1 0) + Int32.ofInt 1)), (4, .int j6), (0, .long p0), (2, .long p1)]) dX6_sharedStrokes_38 0 rfl rfl (by decide) rfl ?_
        refine V_goto 41 B 16 dX6_sharedStrokes_41 (by decide) ?_
        refine V_lv [(5, .int ((a8.1 0) + Int32.ofInt 1)), (4, .int j6), (0, .long p0), (2, .long p1)] [0, 1, 2, 3] rfl ?_
        exact IH9 (mkU [((a8.1 0) + Int32.ofInt 1)] [] [] [] []) (Int.le_trans (by decide) (o_add_lo (c := Int32.ofInt 1) hI10 (o_lt_hi (o_nle k11) (i_hi j6) (k := 2147483646) (by decide +kernel)) (by decide +kernel) (by decide +kernel) (k := 1) (by decide +kernel))) (up_dec (x := (a8.1 0)) (c := Int32.ofInt 1) (by decide +kernel) hI10 (o_lt_hi (o_nle k11) (i_hi j6) (k := 2147483646) (by decide +kernel)) (by decide)))
theorem glS_RX11_258 : GLS RX11 258 yX6_sharedStrokes cX6_sharedStrokes 6 (some .int) 2 := ⟨⟨(mT7 9 rfl rfl), (mT6 128 rfl rfl), (mT1 18 rfl rfl), (mT6 129 rfl rfl)⟩, by decide +kernel⟩
theorem dX11_common_35 : decode cX11_common 35 = .ok (.ireturn, 1) := by decide +kernel
set_option maxRecDepth 100000 in
set_option maxHeartbeats 4000000 in
theorem sX11_common_1 (l : Launch) (hl9 : l.stackTraces = false) (D : va_G) (Y : Nat → ClassId) (h0 : Nat) (h1 : Nat) (h2 : Nat) (h3 : Nat) (h4 : Nat) (g0 : Nat) (g1 : Nat) (g2 : Nat) (g3 : Nat) (g4 : Nat) (g5 : Nat) (g6 : Nat) (g7 : Nat) (g8 : Nat) (g9 : Nat) (g10 : Nat) (g11 : Nat) (g12 : Nat) (g13 : Nat) (g14 : Nat) (g15 : Nat) (g16 : Nat) (g17 : Nat) (p0 : Int64) (p1 : Int32) (p2 : Int32) (p3 : Int32) (f0 : Nat → Int64) (p4 : Int32) (p5 : Int32) (sz : Nat) : vx_Met l yX11_common (WSm yX11_common cX11_common 3 (some .int)) (mkR 7 2 12 103) (PreX D Y [.ref h0, .int p4, .int p5] [(h0, oC 12 [.ref h1, .ref g0, .ref g1, .ref g2, .ref g3, .ref g4, .ref g5, .ref g6, .ref g7, .long p0]), (h1, oC 2 [.ref g8, .ref g9, .ref g10, .ref g11, .ref g12, .ref h2, .ref g13, .ref h3, .ref g14, .ref g15, .ref g16, .int p1]), (h2, oC 3 [.ref g17, .int p2]), (h3, oC 7 [.ref h4, .int p3]), (h4, aJ Y 80 f0)] sz) (QI D (fun (_ : Int32) (_ : UU) => True) (fun (u : UU) => [(h0, oC 12 [.ref h1, .ref g0, .ref g1, .ref g2, .ref g3, .ref g4, .ref g5, .ref g6, .ref g7, .long p0]), (h1, oC 2 [.ref g8, .ref g9, .ref g10, .ref g11, .ref g12, .ref h2, .ref g13, .ref h3, .ref g14, .ref g15, .ref g16, .int p1]), (h2, oC 3 [.ref g17, .int p2]), (h3, oC 7 [.ref h4, .int p3]), (h4, aJ Y 80 f0)]) (va_A [(h0, oC 12 [.ref h1, .ref g0, .ref g1, .ref g2, .ref g3, .ref g4, .ref g5, .ref g6, .ref g7, .long p0]), (h1, oC 2 [.ref g8, .ref g9, .ref g10, .ref g11, .ref g12, .ref h2, .ref g13, .ref h3, .ref g14, .ref g15, .ref g16, .int p1]), (h2, oC 3 [.ref g17, .int p2]), (h3, oC 7 [.ref h4, .int p3]), (h4, aJ Y 80 f0)] sz)) (XW D (fun (E : String) (_ : UU) => E = "java/lang/IndexOutOfBoundsException") (fun (u : UU) => [(h0, oC 12 [.ref h1, .ref g0, .ref g1, .ref g2, .ref g3, .ref g4, .ref g5, .ref g6, .ref g7, .long p0]), (h1, oC 2 [.ref g8, .ref g9, .ref g10, .ref g11, .ref g12, .ref h2, .ref g13, .ref h3, .ref g14, .ref g15, .ref g16, .int p1]), (h2, oC 3 [.ref g17, .int p2]), (h3, oC 7 [.ref h4, .int p3]), (h4, aJ Y 80 f0)]) (va_A [(h0, oC 12 [.ref h1, .ref g0, .ref g1, .ref g2, .ref g3, .ref g4, .ref g5, .ref g6, .ref g7, .long p0]), (h1, oC 2 [.ref g8, .ref g9, .ref g10, .ref g11, .ref g12, .ref h2, .ref g13, .ref h3, .ref g14, .ref g15, .ref g16, .int p1]), (h2, oC 3 [.ref g17, .int p2]), (h3, oC 7 [.ref h4, .int p3]), (h4, aJ Y 80 f0)] sz)) 2 12 (va_A [(h0, oC 12 [.ref h1, .ref g0, .ref g1, .ref g2, .ref g3, .ref g4, .ref g5, .ref g6, .ref g7, .long p0]), (h1, oC 2 [.ref g8, .ref g9, .ref g10, .ref g11, .ref g12, .ref h2, .ref g13, .ref h3, .ref g14, .ref g15, .ref g16, .int p1]), (h2, oC 3 [.ref g17, .int p2]), (h3, oC 7 [.ref h4, .int p3]), (h4, aJ Y 80 f0)] sz) :=
  xmet_of (by decide +kernel) (Nat.le_of_ble_eq_true rfl) (fun p e s m args below meth c B EB hout hsz => by
    have B : VB p s m args meth c D Y (va_A [(h0, oC 12 [.ref h1, .ref g0, .ref g1, .ref g2, .ref g3, .ref g4, .ref g5, .ref g6, .ref g7, .long p0]), (h1, oC 2 [.ref g8, .ref g9, .ref g10, .ref g11, .ref g12, .ref h2, .ref g13, .ref h3, .ref g14, .ref g15, .ref g16, .int p1]), (h2, oC 3 [.ref g17, .int p2]), (h3, oC 7 [.ref h4, .int p3]), (h4, aJ Y 80 f0)] sz) cX11_common 3 RX11 (some .int) := B
    refine V_aload_n 0 B dX11_common_0 0 rfl ?_
    refine V_iload_n 1 B dX11_common_1 1 rfl ?_
    refine V_xvv 2 B EB (st := []) (As := [.int p4]) (fun sz => sX11_needBinding_1 l hl9 D Y h0 h1 h2 g0 g1 g2 g3 g4 g5 g6 g7 g8 g9 g10 g11 g12 g13 h3 g14 g15 g16 g17 p0 p1 p2 p4 sz) glV_RX11_167 ⟨rfl, rfl⟩ ⟨(Nat.le_of_ble_eq_true rfl), (Nat.le_of_ble_eq_true rfl)⟩ ⟨(Nat.le_of_ble_eq_true rfl), (Nat.le_of_ble_eq_true rfl)⟩ [0, 0, 0] rfl 12 0 rfl rfl rfl rfl (Nat.le_of_ble_eq_true rfl) rfl (fun _ _ => rfl) (fun _ _ _ => rfl) dX11_common_2 (fun E u1 w2 => ?_) (fun u1 w2 => ?_)
    ·
      obtain rfl := w2
      exact VX_out 2 B hout (mkU [] [] [] [] []) rfl rfl (Nat.le_of_ble_eq_true rfl) (Nat.le_of_ble_eq_true rfl)
    ·
      refine V_ws [(h0, oC 12 [.ref h1, .ref g0, .ref g1, .ref g2, .ref g3, .ref g4, .ref g5, .ref g6, .ref g7, .long p0]), (h1, oC 2 [.ref g8, .ref g9, .ref g10, .ref g11, .ref g12, .ref h2, .ref g13, .ref h3, .ref g14, .ref g15, .ref g16, .int p1]), (h2, oC 3 [.ref g17, .int p2]), (h3, oC 7 [.ref h4, .int p3]), (h4, aJ Y 80 f0)] rfl ?_
      refine V_aload_n 5 B dX11_common_5 0 rfl ?_
      refine V_iload_n 6 B dX11_common_6 2 rfl ?_
      refine V_xvv 7 B EB (st := []) (As := [.int p5]) (fun sz => sX11_needBinding_1 l hl9 D Y h0 h1 h2 g0 g1 g2 g3 g4 g5 g6 g7 g8 g9 g10 g11 g12 g13 h3 g14 g15 g16 g17 p0 p1 p2 p5 sz) glV_RX11_167 ⟨rfl, rfl⟩ ⟨(Nat.le_of_ble_eq_true rfl), (Nat.le_of_ble_eq_true rfl)⟩ ⟨(Nat.le_of_ble_eq_true rfl), (Nat.le_of_ble_eq_true rfl)⟩ [0, 0, 0] rfl 12 0 rfl rfl rfl rfl (Nat.le_of_ble_eq_true rfl) rfl (fun _ _ => rfl) (fun _ _ _ => rfl) dX11_common_7 (fun E u4 w5 => ?_) (fun u4 w5 => ?_)
      ·
        obtain rfl := w5
        exact VX_out 7 B hout (mkU [] [] [] [] []) rfl rfl (Nat.le_of_ble_eq_true rfl) (Nat.le_of_ble_eq_true rfl)
      ·
        refine V_ws [(h0, oC 12 [.ref h1, .ref g0, .ref g1, .ref g2, .ref g3, .ref g4, .ref g5, .ref g6, .ref g7, .long p0]), (h1, oC 2 [.ref g8, .ref g9, .ref g10, .ref g11, .ref g12, .ref h2, .ref g13, .ref h3, .ref g14, .ref g15, .ref g16, .int p1]), (h2, oC 3 [.ref g17, .int p2]), (h3, oC 7 [.ref h4, .int p3]), (h4, aJ Y 80 f0)] rfl ?_
        refine V_aload_n 10 B dX11_common_10 0 rfl ?_
        refine V_get 11 B gf_RX11_10 0 rfl rfl dX11_common_11 ?_
        refine V_get 14 B gf_RX11_170 1 rfl rfl dX11_common_14 ?_
        refine V_iload_n 17 B dX11_common_17 1 rfl ?_
        refine V_gvl 18 B envX EB (st := []) (As := [.int p4]) (fun sz => sX5_at_1 l D Y h3 h4 p3 f0 p4 sz) glV_RX11_173 ⟨rfl, rfl⟩ ⟨(Nat.le_of_ble_eq_true rfl), (Nat.le_of_ble_eq_true rfl)⟩ ⟨(Nat.le_of_ble_eq_true rfl), (Nat.le_of_ble_eq_true rfl)⟩ [3, 0] rfl 7 0 rfl rfl rfl rfl (Nat.le_of_ble_eq_true rfl) rfl (fun _ _ _ => rfl) dX11_common_18 (fun o6 u7 w8 => ?_)
        refine V_ws [(h0, oC 12 [.ref h1, .ref g0, .ref g1, .ref g2, .ref g3, .ref g4, .ref g5, .ref g6, .ref g7, .long p0]), (h1, oC 2 [.ref g8, .ref g9, .ref g10, .ref g11, .ref g12, .ref h2, .ref g13, .ref h3, .ref g14, .ref g15, .ref g16, .int p1]), (h2, oC 3 [.ref g17, .int p2]), (h3, oC 7 [.ref h4, .int p3]), (h4, aJ Y 80 f0)] rfl ?_
        refine V_aload_n 21 B dX11_common_21 0 rfl ?_
        refine V_get 22 B gf_RX11_10 0 rfl rfl dX11_common_22 ?_
        refine V_get 25 B gf_RX11_170 1 rfl rfl dX11_common_25 ?_
        refine V_iload_n 28 B dX11_common_28 2 rfl ?_
        refine V_gvl 29 B envX EB (st := [.long o6]) (As := [.int p5]) (fun sz => sX5_at_1 l D Y h3 h4 p3 f0 p5 sz) glV_RX11_173 ⟨rfl, rfl⟩ ⟨(Nat.le_of_ble_eq_true rfl), (Nat.le_of_ble_eq_true rfl)⟩ ⟨(Nat.le_of_ble_eq_true rfl), (Nat.le_of_ble_eq_true rfl)⟩ [3, 0] rfl 7 0 rfl rfl rfl rfl (Nat.le_of_ble_eq_true rfl) rfl (fun _ _ _ => rfl) dX11_common_29 (fun o9 u10 w11 => ?_)
        refine V_ws [(h0, oC 12 [.ref h1, .ref g0, .ref g1, .ref g2, .ref g3, .ref g4, .ref g5, .ref g6, .ref g7, .long p0]), (h1, oC 2 [.ref g8, .ref g9, .ref g10, .ref g11, .ref g12, .ref h2, .ref g13, .ref h3, .ref g14, .ref g15, .ref g16, .int p1]), (h2, oC 3 [.ref g17, .int p2]), (h3, oC 7 [.ref h4, .int p3]), (h4, aJ Y 80 f0)] rfl ?_
        refine V_gsi 32 B envX EB (st := []) (As := [.long o6, .long o9]) (fun sz => sX6_sharedStrokes_1 l D Y  o6 o9 sz) glS_RX11_258 ⟨rfl, rfl⟩ ⟨(Nat.le_of_ble_eq_true rfl), (Nat.le_of_ble_eq_true rfl)⟩ ⟨(Nat.le_of_ble_eq_true rfl), (Nat.le_of_ble_eq_true rfl)⟩ [] rfl rfl (Nat.le_of_ble_eq_true rfl) rfl (fun _ _ _ => rfl) dX11_common_32 (fun j12 u13 w14 => ?_)
        refine V_ws [(h0, oC 12 [.ref h1, .ref g0, .ref g1, .ref g2, .ref g3, .ref g4, .ref g5, .ref g6, .ref g7, .long p0]), (h1, oC 2 [.ref g8, .ref g9, .ref g10, .ref g11, .ref g12, .ref h2, .ref g13, .ref h3, .ref g14, .ref g15, .ref g16, .int p1]), (h2, oC 3 [.ref g17, .int p2]), (h3, oC 7 [.ref h4, .int p3]), (h4, aJ Y 80 f0)] rfl ?_
        refine V_xret ?_
        refine V_widen (k := 2) (n := 12) (Nat.le_of_ble_eq_true rfl) (Nat.le_of_ble_eq_true rfl) ?_
        exact V_iret 35 B dX11_common_35 (mkU [] [] [] [] []) trivial rfl)
theorem dX11_leadingSwitches_0 : decode cX11_leadingSwitches 0 = .ok (.iconst 0, 1) := by decide +kernel
theorem dX11_leadingSwitches_1 : decode cX11_leadingSwitches 1 = .ok (.istore_n 1, 1) := by decide +kernel
theorem dX11_leadingSwitches_2 : decode cX11_leadingSwitches 2 = .ok (.aload_n 0, 1) := by decide +kernel
theorem dX11_leadingSwitches_3 : decode cX11_leadingSwitches 3 = .ok (.getfield 10, 3) := by decide +kernel
theorem dX11_leadingSwitches_6 : decode cX11_leadingSwitches 6 = .ok (.getfield 213, 3) := by decide +kernel
theorem dX11_leadingSwitches_9 : decode cX11_leadingSwitches 9 = .ok (.invokevirtual 95, 3) := by decide +kernel
theorem dX11_leadingSwitches_12 : decode cX11_leadingSwitches 12 = .ok (.istore_n 2, 1) := by decide +kernel
theorem dX11_leadingSwitches_13 : decode cX11_leadingSwitches 13 = .ok (.iload_n 1, 1) := by decide +kernel
theorem dX11_leadingSwitches_14 : decode cX11_leadingSwitches 14 = .ok (.iload_n 2, 1) := by decide +kernel
theorem dX11_leadingSwitches_15 : decode cX11_leadingSwitches 15 = .ok (.if_icmp .ge 34, 3) := by decide +kernel
theorem dX11_leadingSwitches_49 : decode cX11_leadingSwitches 49 = .ok (.iload_n 1, 1) := by decide +kernel
theorem dX11_leadingSwitches_50 : decode cX11_leadingSwitches 50 = .ok (.ireturn, 1) := by decide +kernel
theorem dX11_leadingSwitches_18 : decode cX11_leadingSwitches 18 = .ok (.aload_n 0, 1) := by decide +kernel
theorem dX11_leadingSwitches_19 : decode cX11_leadingSwitches 19 = .ok (.getfield 10, 3) := by decide +kernel
theorem dX11_leadingSwitches_22 : decode cX11_leadingSwitches 22 = .ok (.getfield 119, 3) := by decide +kernel
theorem dX11_leadingSwitches_25 : decode cX11_leadingSwitches 25 = .ok (.aload_n 0, 1) := by decide +kernel
theorem dX11_leadingSwitches_26 : decode cX11_leadingSwitches 26 = .ok (.getfield 10, 3) := by decide +kernel
theorem dX11_leadingSwitches_29 : decode cX11_leadingSwitches 29 = .ok (.getfield 213, 3) := by decide +kernel
theorem dX11_leadingSwitches_32 : decode cX11_leadingSwitches 32 = .ok (.iload_n 1, 1) := by decide +kernel
theorem dX11_leadingSwitches_33 : decode cX11_leadingSwitches 33 = .ok (.invokevirtual 187, 3) := by decide +kernel
theorem dX11_leadingSwitches_36 : decode cX11_leadingSwitches 36 = .ok (.invokevirtual 187, 3) := by decide +kernel
theorem dX11_leadingSwitches_39 : decode cX11_leadingSwitches 39 = .ok (.iconst 1, 1) := by decide +kernel
theorem dX11_leadingSwitches_40 : decode cX11_leadingSwitches 40 = .ok (.if_icmp .ne 9, 3) := by decide +kernel
theorem dX11_leadingSwitches_43 : decode cX11_leadingSwitches 43 = .ok (.iinc 1 1, 3) := by decide +kernel
theorem dX11_leadingSwitches_46 : decode cX11_leadingSwitches 46 = .ok (.goto (-33), 3) := by decide +kernel
set_option maxRecDepth 100000 in
set_option maxHeartbeats 4000000 in
theorem sX11_leadingSwitches_1 (l : Launch) (D : va_G) (Y : Nat → ClassId) (h0 : Nat) (h1 : Nat) (h2 : Nat) (h3 : Nat) (h4 : Nat) (h5 : Nat) (g0 : Nat) (g1 : Nat) (g2 : Nat) (g3 : Nat) (g4 : Nat) (g5 : Nat) (g6 : Nat) (g7 : Nat) (g8 : Nat) (g9 : Nat) (g10 : Nat) (g11 : Nat) (g12 : Nat) (g13 : Nat) (g14 : Nat) (g15 : Nat) (g16 : Nat) (p0 : Int64) (p1 : Int32) (p2 : Int32) (f0 : Nat → Int32) (p3 : Int32) (f1 : Nat → Int32) (sz : Nat) : Met l yX11_leadingSwitches (WSm yX11_leadingSwitches cX11_leadingSwitches 3 (some .int)) (mkR 1 0 0 21) (PreG EX D Y [.ref h0] [(h0, oC 12 [.ref h1, .ref g0, .ref g1, .ref g2, .ref g3, .ref g4, .ref g5, .ref g6, .ref g7, .long p0]), (h1, oC 2 [.ref g8, .ref h2, .ref g9, .ref g10, .ref g11, .ref g12, .ref h4, .ref g13, .ref g14, .ref g15, .ref g16, .int p1]), (h2, oC 3 [.ref h3, .int p2]), (h3, aI Y 40 f0), (h4, oC 3 [.ref h5, .int p3]), (h5, aI Y 80 f1)] sz) (QI D (fun (_ : Int32) (_ : UU) => True) (fun (u : UU) => [(h0, oC 12 [.ref h1, .ref g0, .ref g1, .ref g2, .ref g3, .ref g4, .ref g5, .ref g6, .ref g7, .long p0]), (h1, oC 2 [.ref g8, .ref h2, .ref g9, .ref g10, .ref g11, .ref g12, .ref h4, .ref g13, .ref g14, .ref g15, .ref g16, .int p1]), (h2, oC 3 [.ref h3, .int p2]), (h3, aI Y 40 f0), (h4, oC 3 [.ref h5, .int p3]), (h5, aI Y 80 f1)]) (va_A [(h0, oC 12 [.ref h1, .ref g0, .ref g1, .ref g2, .ref g3, .ref g4, .ref g5, .ref g6, .ref g7, .long p0]), (h1, oC 2 [.ref g8, .ref h2, .ref g9, .ref g10, .ref g11, .ref g12, .ref h4, .ref g13, .ref g14, .ref g15, .ref g16, .int p1]), (h2, oC 3 [.ref h3, .int p2]), (h3, aI Y 40 f0), (h4, oC 3 [.ref h5, .int p3]), (h5, aI Y 80 f1)] sz)) 0 0 (va_A [(h0, oC 12 [.ref h1, .ref g0, .ref g1, .ref g2, .ref g3, .ref g4, .ref g5, .ref g6, .ref g7, .long p0]), (h1, oC 2 [.ref g8, .ref h2, .ref g9, .ref g10, .ref g11, .ref g12, .ref h4, .ref g13, .ref g14, .ref g15, .ref g16, .int p1]), (h2, oC 3 [.ref h3, .int p2]), (h3, aI Y 40 f0), (h4, oC 3 [.ref h5, .int p3]), (h5, aI Y 80 f1)] sz) :=
  gmet_of (by decide +kernel) (Nat.le_of_ble_eq_true rfl) (fun p e s m args below meth c B EB hsz => by
    have B : VB p s m args meth c D Y (va_A [(h0, oC 12 [.ref h1, .ref g0, .ref g1, .ref g2, .ref g3, .ref g4, .ref g5, .ref g6, .ref g7, .long p0]), (h1, oC 2 [.ref g8, .ref h2, .ref g9, .ref g10, .ref g11, .ref g12, .ref h4, .ref g13, .ref g14, .ref g15, .ref g16, .int p1]), (h2, oC 3 [.ref h3, .int p2]), (h3, aI Y 40 f0), (h4, oC 3 [.ref h5, .int p3]), (h5, aI Y 80 f1)] sz) cX11_leadingSwitches 3 RX11 (some .int) := B
    refine V_iconst 0 B (v := 0) dX11_leadingSwitches_0 (by decide +kernel) ?_
    refine V_istore_n 1 B (lv2 := [(1, .int 0), (0, .ref h0)]) dX11_leadingSwitches_1 (by decide) rfl ?_
    refine V_aload_n 2 B dX11_leadingSwitches_2 1 rfl ?_
    refine V_get 3 B gf_RX11_10 0 rfl rfl dX11_leadingSwitches_3 ?_
    refine V_get 6 B gf_RX11_213 1 rfl rfl dX11_leadingSwitches_6 ?_
    refine V_gvi 9 B envX EB (st := []) (As := []) (fun sz => sX1_size_1 l D Y h4 h5 p3 sz) glV_RX11_95 ⟨rfl, rfl⟩ ⟨(Nat.le_of_ble_eq_true rfl), (Nat.le_of_ble_eq_true rfl)⟩ ⟨(Nat.le_of_ble_eq_true rfl), (Nat.le_of_ble_eq_true rfl)⟩ [4] rfl 3 0 rfl rfl rfl rfl (Nat.le_of_ble_eq_true rfl) rfl (fun _ _ _ => rfl) dX11_leadingSwitches_9 (fun j0 u1 w2 => ?_)
    refine V_ws [(h0, oC 12 [.ref h1, .ref g0, .ref g1, .ref g2, .ref g3, .ref g4, .ref g5, .ref g6, .ref g7, .long p0]), (h1, oC 2 [.ref g8, .ref h2, .ref g9, .ref g10, .ref g11, .ref g12, .ref h4, .ref g13, .ref g14, .ref g15, .ref g16, .int p1]), (h2, oC 3 [.ref h3, .int p2]), (h3, aI Y 40 f0), (h4, oC 3 [.ref h5, .int p3]), (h5, aI Y 80 f1)] rfl ?_
    refine V_istore_n 12 B (lv2 := [(2, .int j0), (1, .int 0), (0, .ref h0)]) dX11_leadingSwitches_12 (by decide) rfl ?_
    refine V_wloop (α := UU) (fun a => (2147483647 - ((a.1 0)).toInt).toNat) (fun a => 0 ≤ ((a.1 0)).toInt) (fun a => [(2, .int j0), (1, .int (a.1 0)), (0, .ref h0)]) (fun a => [(h0, oC 12 [.ref h1, .ref g0, .ref g1, .ref g2, .ref g3, .ref g4, .ref g5, .ref g6, .ref g7, .long p0]), (h1, oC 2 [.ref g8, .ref h2, .ref g9, .ref g10, .ref g11, .ref g12, .ref h4, .ref g13, .ref g14, .ref g15, .ref g16, .int p1]), (h2, oC 3 [.ref h3, .int p2]), (h3, aI Y 40 f0), (h4, oC 3 [.ref h5, .int p3]), (h5, aI Y 80 f1)]) (mkU [0] [] [] [] []) (show (0 : Int) ≤ (0 : Int32).toInt by decide +kernel) rfl rfl (fun a3 hI5 IH4 => ?_)
    refine V_lv [(2, .int j0), (1, .int (a3.1 0)), (0, .ref h0)] [0, 1, 2] rfl ?_
    refine V_ws [(h0, oC 12 [.ref h1, .ref g0, .ref g1, .ref g2, .ref g3, .ref g4, .ref g5, .ref g6, .ref g7, .long p0]), (h1, oC 2 [.ref g8, .ref h2, .ref g9, .ref g10, .ref g11, .ref g12, .ref h4, .ref g13, .ref g14, .ref g15, .ref g16, .int p1]), (h2, oC 3 [.ref h3, .int p2]), (h3, aI Y 40 f0), (h4, oC 3 [.ref h5, .int p3]), (h5, aI Y 80 f1)] rfl ?_
    refine V_iload_n 13 B dX11_leadingSwitches_13 1 rfl ?_
    refine V_iload_n 14 B dX11_leadingSwitches_14 0 rfl ?_
    refine V_icmp_ge 15 B 49 dX11_leadingSwitches_15 (by decide) (fun k6 => ?_) (fun k6 => ?_)
    ·
      refine V_iload_n 49 B dX11_leadingSwitches_49 1 rfl ?_
      exact V_iret 50 B dX11_leadingSwitches_50 (mkU [] [] [] [] []) trivial rfl
    ·
      refine V_aload_n 18 B dX11_leadingSwitches_18 2 rfl ?_
      refine V_get 19 B gf_RX11_10 0 rfl rfl dX11_leadingSwitches_19 ?_
      refine V_get 22 B gf_RX11_119 1 rfl rfl dX11_leadingSwitches_22 ?_
      refine V_aload_n 25 B dX11_leadingSwitches_25 2 rfl ?_
      refine V_get 26 B gf_RX11_10 0 rfl rfl dX11_leadingSwitches_26 ?_
      refine V_get 29 B gf_RX11_213 1 rfl rfl dX11_leadingSwitches_29 ?_
      refine V_iload_n 32 B dX11_leadingSwitches_32 1 rfl ?_
      refine V_gvi 33 B envX EB (st := [.ref h2]) (As := [.int (a3.1 0)]) (fun sz => sX1_at_3 l D Y h4 h5 p3 f1 (a3.1 0) sz) glV_RX11_187 ⟨rfl, rfl⟩ ⟨(Nat.le_of_ble_eq_true rfl), (Nat.le_of_ble_eq_true rfl)⟩ ⟨(Nat.le_of_ble_eq_true rfl), (Nat.le_of_ble_eq_true rfl)⟩ [4, 0] rfl 3 0 rfl rfl rfl rfl (Nat.le_of_ble_eq_true rfl) rfl (fun _ _ _ => rfl) dX11_leadingSwitches_33 (fun j7 u8 w9 => ?_)
      refine V_ws [(h0, oC 12 [.ref h1, .ref g0, .ref g1, .ref g2, .ref g3, .ref g4, .ref g5, .ref g6, .ref g7, .long p0]), (h1, oC 2 [.ref g8, .ref h2, .ref g9, .ref g10, .ref g11, .ref g12, .ref h4, .ref g13, .ref g14, .ref g15, .ref g16, .int p1]), (h2, oC 3 [.ref h3, .int p2]), (h3, aI Y 40 f0), (h4, oC 3 [.ref h5, .int p3]), (h5, aI Y 80 f1)] rfl ?_
      refine V_gvi 36 B envX EB (st := []) (As := [.int j7]) (fun sz => sX1_at_1 l D Y h2 h3 p2 f0 j7 sz) glV_RX11_187 ⟨rfl, rfl⟩ ⟨(Nat.le_of_ble_eq_true rfl), (Nat.le_of_ble_eq_true rfl)⟩ ⟨(Nat.le_of_ble_eq_true rfl), (Nat.le_of_ble_eq_true rfl)⟩ [2, 0] rfl 3 0 rfl rfl rfl rfl (Nat.le_of_ble_eq_true rfl) rfl (fun _ _ _ => rfl) dX11_leadingSwitches_36 (fun j10 u11 w12 => ?_)
      refine V_ws [(h0, oC 12 [.ref h1, .ref g0, .ref g1, .ref g2, .ref g3, .ref g4, .ref g5, .ref g6, .ref g7, .long p0]), (h1, oC 2 [.ref g8, .ref h2, .ref g9, .ref g10, .ref g11, .ref g12, .ref h4, .ref g13, .ref g14, .ref g15, .ref g16, .int p1]), (h2, oC 3 [.ref h3, .int p2]), (h3, aI Y 40 f0), (h4, oC 3 [.ref h5, .int p3]), (h5, aI Y 80 f1)] rfl ?_
      refine V_iconst 39 B (v := 1) dX11_leadingSwitches_39 (by decide +kernel) ?_
      refine V_icmp_ne 40 B 49 dX11_leadingSwitches_40 (by decide) (fun k13 => ?_) (fun k13 => ?_)
      ·
        refine V_iload_n 49 B dX11_leadingSwitches_49 1 rfl ?_
        exact V_iret 50 B dX11_leadingSwitches_50 (mkU [] [] [] [] []) trivial rfl
      ·
        obtain rfl : j10 = 1 := k13
        refine V_iinc 43 B (v := ((a3.1 0) + Int32.ofInt 1)) (lv2 := [(1, .int ((a3.1 0) + Int32.ofInt 1)), (2, .int j0), (0, .ref h0)]) dX11_leadingSwitches_43 1 rfl rfl (by decide) rfl ?_
        refine V_goto 46 B 13 dX11_leadingSwitches_46 (by decide) ?_
        refine V_lv [(2, .int j0), (1, .int ((a3.1 0) + Int32.ofInt 1)), (0, .ref h0)] [1, 0, 2] rfl ?_
        exact IH4 (mkU [((a3.1 0) + Int32.ofInt 1)] [] [] [] []) (Int.le_trans (by decide) (o_add_lo (c := Int32.ofInt 1) hI5 (o_lt_hi (o_nle k6) (i_hi j0) (k := 2147483646) (by decide +kernel)) (by decide +kernel) (by decide +kernel) (k := 1) (by decide +kernel))) (up_dec (x := (a3.1 0)) (c := Int32.ofInt 1) (by decide +kernel) hI5 (o_lt_hi (o_nle k6) (i_hi j0) (k := 2147483646) (by decide +kernel)) (by decide)))
theorem dX11_clashPairs_0 : decode cX11_clashPairs 0 = .ok (.aload_n 0, 1) := by decide +kernel
theorem dX11_clashPairs_1 : decode cX11_clashPairs 1 = .ok (.iload_n 1, 1) := by decide +kernel
theorem dX11_clashPairs_2 : decode cX11_clashPairs 2 = .ok (.invokevirtual 180, 3) := by decide +kernel
theorem dX11_clashPairs_5 : decode cX11_clashPairs 5 = .ok (.aload_n 0, 1) := by decide +kernel
theorem dX11_clashPairs_6 : decode cX11_clashPairs 6 = .ok (.iload_n 2, 1) := by decide +kernel
theorem dX11_clashPairs_7 : decode cX11_clashPairs 7 = .ok (.invokevirtual 180, 3) := by decide +kernel
theorem dX11_clashPairs_10 : decode cX11_clashPairs 10 = .ok (.iload_n 1, 1) := by decide +kernel
theorem dX11_clashPairs_11 : decode cX11_clashPairs 11 = .ok (.iload_n 2, 1) := by decide +kernel
theorem dX11_clashPairs_12 : decode cX11_clashPairs 12 = .ok (.if_icmp .ne 14, 3) := by decide +kernel
theorem dX11_clashPairs_26 : decode cX11_clashPairs 26 = .ok (.iconst 0, 1) := by decide +kernel
theorem dX11_clashPairs_27 : decode cX11_clashPairs 27 = .ok (.istore_n 3, 1) := by decide +kernel
theorem dX11_clashPairs_28 : decode cX11_clashPairs 28 = .ok (.iconst 0, 1) := by decide +kernel
theorem dX11_clashPairs_29 : decode cX11_clashPairs 29 = .ok (.istore 4, 2) := by decide +kernel
theorem dX11_clashPairs_31 : decode cX11_clashPairs 31 = .ok (.iload 4, 2) := by decide +kernel
theorem dX11_clashPairs_33 : decode cX11_clashPairs 33 = .ok (.aload_n 0, 1) := by decide +kernel
theorem dX11_clashPairs_34 : decode cX11_clashPairs 34 = .ok (.getfield 10, 3) := by decide +kernel
theorem dX11_clashPairs_37 : decode cX11_clashPairs 37 = .ok (.getfield 91, 3) := by decide +kernel
theorem dX11_clashPairs_40 : decode cX11_clashPairs 40 = .ok (.invokevirtual 95, 3) := by decide +kernel
theorem dX11_clashPairs_43 : decode cX11_clashPairs 43 = .ok (.if_icmp .ge 48, 3) := by decide +kernel
theorem dX11_clashPairs_91 : decode cX11_clashPairs 91 = .ok (.iload_n 3, 1) := by decide +kernel
theorem dX11_clashPairs_92 : decode cX11_clashPairs 92 = .ok (.ireturn, 1) := by decide +kernel
theorem dX11_clashPairs_46 : decode cX11_clashPairs 46 = .ok (.aload_n 0, 1) := by decide +kernel
theorem dX11_clashPairs_47 : decode cX11_clashPairs 47 = .ok (.getfield 10, 3) := by decide +kernel
theorem dX11_clashPairs_50 : decode cX11_clashPairs 50 = .ok (.getfield 91, 3) := by decide +kernel
theorem dX11_clashPairs_53 : decode cX11_clashPairs 53 = .ok (.iload 4, 2) := by decide +kernel
theorem dX11_clashPairs_55 : decode cX11_clashPairs 55 = .ok (.invokevirtual 187, 3) := by decide +kernel
theorem dX11_clashPairs_58 : decode cX11_clashPairs 58 = .ok (.iload_n 1, 1) := by decide +kernel
theorem dX11_clashPairs_59 : decode cX11_clashPairs 59 = .ok (.if_icmp .ne 26, 3) := by decide +kernel
theorem dX11_clashPairs_85 : decode cX11_clashPairs 85 = .ok (.iinc 4 1, 3) := by decide +kernel
theorem dX11_clashPairs_88 : decode cX11_clashPairs 88 = .ok (.goto (-57), 3) := by decide +kernel
theorem dX11_clashPairs_62 : decode cX11_clashPairs 62 = .ok (.iload_n 3, 1) := by decide +kernel
theorem dX11_clashPairs_63 : decode cX11_clashPairs 63 = .ok (.aload_n 0, 1) := by decide +kernel
theorem dX11_clashPairs_64 : decode cX11_clashPairs 64 = .ok (.getfield 10, 3) := by decide +kernel
theorem dX11_clashPairs_67 : decode cX11_clashPairs 67 = .ok (.iload_n 2, 1) := by decide +kernel
theorem dX11_clashPairs_68 : decode cX11_clashPairs 68 = .ok (.aload_n 0, 1) := by decide +kernel
theorem dX11_clashPairs_69 : decode cX11_clashPairs 69 = .ok (.getfield 10, 3) := by decide +kernel
theorem dX11_clashPairs_72 : decode cX11_clashPairs 72 = .ok (.getfield 170, 3) := by decide +kernel
theorem dX11_clashPairs_75 : decode cX11_clashPairs 75 = .ok (.iload 4, 2) := by decide +kernel
theorem dX11_clashPairs_77 : decode cX11_clashPairs 77 = .ok (.invokevirtual 173, 3) := by decide +kernel
theorem dX11_clashPairs_80 : decode cX11_clashPairs 80 = .ok (.invokevirtual 248, 3) := by decide +kernel
theorem dX11_clashPairs_83 : decode cX11_clashPairs 83 = .ok (.iadd, 1) := by decide +kernel
theorem dX11_clashPairs_84 : decode cX11_clashPairs 84 = .ok (.istore_n 3, 1) := by decide +kernel
theorem dX11_clashPairs_15 : decode cX11_clashPairs 15 = .ok (.new 190, 3) := by decide +kernel
theorem gt_RX11_190_262_194 : GT RX11 190 262 194 "java/lang/IllegalArgumentException" "both modes are one" ["java/lang/RuntimeException", "java/lang/Exception"] := ⟨rfl, (mT5 31 rfl rfl), (mT1 22 rfl rfl), List.mem_of_getElem? (i := 2) rfl, by decide +kernel, by decide +kernel, List.mem_of_getElem? (i := 0) rfl, gta_194⟩
theorem dX11_clashPairs_18 : decode cX11_clashPairs 18 = .ok (.dup, 1) := by decide +kernel
theorem dX11_clashPairs_19 : decode cX11_clashPairs 19 = .ok (.ldc_w 262, 3) := by decide +kernel
theorem dX11_clashPairs_22 : decode cX11_clashPairs 22 = .ok (.invokespecial 194, 3) := by decide +kernel
theorem dX11_clashPairs_25 : decode cX11_clashPairs 25 = .ok (.athrow, 1) := by decide +kernel
set_option maxRecDepth 100000 in
set_option maxHeartbeats 4000000 in
theorem sX11_clashPairs_1 (l : Launch) (hl9 : l.stackTraces = false) (D : va_G) (Y : Nat → ClassId) (h0 : Nat) (h1 : Nat) (h2 : Nat) (h3 : Nat) (h4 : Nat) (h5 : Nat) (h6 : Nat) (g0 : Nat) (g1 : Nat) (g2 : Nat) (g3 : Nat) (g4 : Nat) (g5 : Nat) (g6 : Nat) (g7 : Nat) (g8 : Nat) (g9 : Nat) (g10 : Nat) (g11 : Nat) (g12 : Nat) (g13 : Nat) (g14 : Nat) (g15 : Nat) (g16 : Nat) (p0 : Int64) (p1 : Int32) (p2 : Int32) (p3 : Int32) (f0 : Nat → Int32) (p4 : Int32) (f1 : Nat → Int64) (p5 : Int32) (p6 : Int32) (sz : Nat) : vx_Met l yX11_clashPairs (WSm yX11_clashPairs cX11_clashPairs 5 (some .int)) (mkR 7 3 18 103) (PreX D Y [.ref h0, .int p5, .int p6] [(h0, oC 12 [.ref h1, .ref g0, .ref g1, .ref g2, .ref g3, .ref g4, .ref g5, .ref g6, .ref g7, .long p0]), (h1, oC 2 [.ref h2, .ref g8, .ref g9, .ref g10, .ref g11, .ref h3, .ref g12, .ref h5, .ref g13, .ref g14, .ref g15, .int p1]), (h2, oC 3 [.ref g16, .int p2]), (h3, oC 3 [.ref h4, .int p3]), (h4, aI Y 80 f0), (h5, oC 7 [.ref h6, .int p4]), (h6, aJ Y 80 f1)] sz) (QI D (fun (_ : Int32) (_ : UU) => True) (fun (u : UU) => [(h0, oC 12 [.ref h1, .ref g0, .ref g1, .ref g2, .ref g3, .ref g4, .ref g5, .ref g6, .ref g7, .long p0]), (h1, oC 2 [.ref h2, .ref g8, .ref g9, .ref g10, .ref g11, .ref h3, .ref g12, .ref h5, .ref g13, .ref g14, .ref g15, .int p1]), (h2, oC 3 [.ref g16, .int p2]), (h3, oC 3 [.ref h4, .int p3]), (h4, aI Y 80 f0), (h5, oC 7 [.ref h6, .int p4]), (h6, aJ Y 80 f1)]) (va_A [(h0, oC 12 [.ref h1, .ref g0, .ref g1, .ref g2, .ref g3, .ref g4, .ref g5, .ref g6, .ref g7, .long p0]), (h1, oC 2 [.ref h2, .ref g8, .ref g9, .ref g10, .ref g11, .ref h3, .ref g12, .ref h5, .ref g13, .ref g14, .ref g15, .int p1]), (h2, oC 3 [.ref g16, .int p2]), (h3, oC 3 [.ref h4, .int p3]), (h4, aI Y 80 f0), (h5, oC 7 [.ref h6, .int p4]), (h6, aJ Y 80 f1)] sz)) (XW D (fun (E : String) (_ : UU) => E = "java/lang/IllegalArgumentException" ∨ E = "java/lang/IndexOutOfBoundsException") (fun (u : UU) => [(h0, oC 12 [.ref h1, .ref g0, .ref g1, .ref g2, .ref g3, .ref g4, .ref g5, .ref g6, .ref g7, .long p0]), (h1, oC 2 [.ref h2, .ref g8, .ref g9, .ref g10, .ref g11, .ref h3, .ref g12, .ref h5, .ref g13, .ref g14, .ref g15, .int p1]), (h2, oC 3 [.ref g16, .int p2]), (h3, oC 3 [.ref h4, .int p3]), (h4, aI Y 80 f0), (h5, oC 7 [.ref h6, .int p4]), (h6, aJ Y 80 f1)]) (va_A [(h0, oC 12 [.ref h1, .ref g0, .ref g1, .ref g2, .ref g3, .ref g4, .ref g5, .ref g6, .ref g7, .long p0]), (h1, oC 2 [.ref h2, .ref g8, .ref g9, .ref g10, .ref g11, .ref h3, .ref g12, .ref h5, .ref g13, .ref g14, .ref g15, .int p1]), (h2, oC 3 [.ref g16, .int p2]), (h3, oC 3 [.ref h4, .int p3]), (h4, aI Y 80 f0), (h5, oC 7 [.ref h6, .int p4]), (h6, aJ Y 80 f1)] sz)) 3 18 (va_A [(h0, oC 12 [.ref h1, .ref g0, .ref g1, .ref g2, .ref g3, .ref g4, .ref g5, .ref g6, .ref g7, .long p0]), (h1, oC 2 [.ref h2, .ref g8, .ref g9, .ref g10, .ref g11, .ref h3, .ref g12, .ref h5, .ref g13, .ref g14, .ref g15, .int p1]), (h2, oC 3 [.ref g16, .int p2]), (h3, oC 3 [.ref h4, .int p3]), (h4, aI Y 80 f0), (h5, oC 7 [.ref h6, .int p4]), (h6, aJ Y 80 f1)] sz) :=
  xmet_of (by decide +kernel) (Nat.le_of_ble_eq_true rfl) (fun p e s m args below meth c B EB hout hsz => by
    have B : VB p s m args meth c D Y (va_A [(h0, oC 12 [.ref h1, .ref g0, .ref g1, .ref g2, .ref g3, .ref g4, .ref g5, .ref g6, .ref g7, .long p0]), (h1, oC 2 [.ref h2, .ref g8, .ref g9, .ref g10, .ref g11, .ref h3, .ref g12, .ref h5, .ref g13, .ref g14, .ref g15, .int p1]), (h2, oC 3 [.ref g16, .int p2]), (h3, oC 3 [.ref h4, .int p3]), (h4, aI Y 80 f0), (h5, oC 7 [.ref h6, .int p4]), (h6, aJ Y 80 f1)] sz) cX11_clashPairs 5 RX11 (some .int) := B
    refine V_aload_n 0 B dX11_clashPairs_0 0 rfl ?_
    refine V_iload_n 1 B dX11_clashPairs_1 1 rfl ?_
    refine V_xvv 2 B EB (st := []) (As := [.int p5]) (fun sz => sX11_needMode_1 l hl9 D Y h0 h1 h2 g0 g1 g2 g3 g4 g5 g6 g7 g8 g9 g10 g11 h3 g12 h5 g13 g14 g15 g16 p0 p1 p2 p5 sz) glV_RX11_180 ⟨rfl, rfl⟩ ⟨(Nat.le_of_ble_eq_true rfl), (Nat.le_of_ble_eq_true rfl)⟩ ⟨(Nat.le_of_ble_eq_true rfl), (Nat.le_of_ble_eq_true rfl)⟩ [0, 0, 0] rfl 12 0 rfl rfl rfl rfl (Nat.le_of_ble_eq_true rfl) rfl (fun _ _ => rfl) (fun _ _ _ => rfl) dX11_clashPairs_2 (fun E u1 w2 => ?_) (fun u1 w2 => ?_)
    ·
      obtain rfl := w2
      exact VX_out 2 B hout (mkU [] [] [] [] []) (Or.inr rfl) rfl (Nat.le_of_ble_eq_true rfl) (Nat.le_of_ble_eq_true rfl)
    ·
      refine V_ws [(h0, oC 12 [.ref h1, .ref g0, .ref g1, .ref g2, .ref g3, .ref g4, .ref g5, .ref g6, .ref g7, .long p0]), (h1, oC 2 [.ref h2, .ref g8, .ref g9, .ref g10, .ref g11, .ref h3, .ref g12, .ref h5, .ref g13, .ref g14, .ref g15, .int p1]), (h2, oC 3 [.ref g16, .int p2]), (h3, oC 3 [.ref h4, .int p3]), (h4, aI Y 80 f0), (h5, oC 7 [.ref h6, .int p4]), (h6, aJ Y 80 f1)] rfl ?_
      refine V_aload_n 5 B dX11_clashPairs_5 0 rfl ?_
      refine V_iload_n 6 B dX11_clashPairs_6 2 rfl ?_
      refine V_xvv 7 B EB (st := []) (As := [.int p6]) (fun sz => sX11_needMode_1 l hl9 D Y h0 h1 h2 g0 g1 g2 g3 g4 g5 g6 g7 g8 g9 g10 g11 h3 g12 h5 g13 g14 g15 g16 p0 p1 p2 p6 sz) glV_RX11_180 ⟨rfl, rfl⟩ ⟨(Nat.le_of_ble_eq_true rfl), (Nat.le_of_ble_eq_true rfl)⟩ ⟨(Nat.le_of_ble_eq_true rfl), (Nat.le_of_ble_eq_true rfl)⟩ [0, 0, 0] rfl 12 0 rfl rfl rfl rfl (Nat.le_of_ble_eq_true rfl) rfl (fun _ _ => rfl) (fun _ _ _ => rfl) dX11_clashPairs_7 (fun E u4 w5 => ?_) (fun u4 w5 => ?_)
      ·
        obtain rfl := w5
        exact VX_out 7 B hout (mkU [] [] [] [] []) (Or.inr rfl) rfl (Nat.le_of_ble_eq_true rfl) (Nat.le_of_ble_eq_true rfl)
      ·
        refine V_ws [(h0, oC 12 [.ref h1, .ref g0, .ref g1, .ref g2, .ref g3, .ref g4, .ref g5, .ref g6, .ref g7, .long p0]), (h1, oC 2 [.ref h2, .ref g8, .ref g9, .ref g10, .ref g11, .ref h3, .ref g12, .ref h5, .ref g13, .ref g14, .ref g15, .int p1]), (h2, oC 3 [.ref g16, .int p2]), (h3, oC 3 [.ref h4, .int p3]), (h4, aI Y 80 f0), (h5, oC 7 [.ref h6, .int p4]), (h6, aJ Y 80 f1)] rfl ?_
        refine V_iload_n 10 B dX11_clashPairs_10 1 rfl ?_
        refine V_iload_n 11 B dX11_clashPairs_11 2 rfl ?_
        refine V_icmp_ne 12 B 26 dX11_clashPairs_12 (by decide) (fun k6 => ?_) (fun k6 => ?_)
        ·
          refine V_iconst 26 B (v := 0) dX11_clashPairs_26 (by decide +kernel) ?_
          refine V_istore_n 27 B (lv2 := [(3, .int 0), (0, .ref h0), (1, .int p5), (2, .int p6)]) dX11_clashPairs_27 (by decide) rfl ?_
          refine V_iconst 28 B (v := 0) dX11_clashPairs_28 (by decide +kernel) ?_
          refine V_istore 29 B (lv2 := [(4, .int 0), (3, .int 0), (0, .ref h0), (1, .int p5), (2, .int p6)]) dX11_clashPairs_29 (by decide) rfl ?_
          refine V_wloop (α := UU) (fun a => (2147483647 - ((a.1 0)).toInt).toNat) (fun a => 0 ≤ ((a.1 0)).toInt) (fun a => [(4, .int (a.1 0)), (3, .int (a.1 1)), (0, .ref h0), (1, .int p5), (2, .int p6)]) (fun a => [(h0, oC 12 [.ref h1, .ref g0, .ref g1, .ref g2, .ref g3, .ref g4, .ref g5, .ref g6, .ref g7, .long p0]), (h1, oC 2 [.ref h2, .ref g8, .ref g9, .ref g10, .ref g11, .ref h3, .ref g12, .ref h5, .ref g13, .ref g14, .ref g15, .int p1]), (h2, oC 3 [.ref g16, .int p2]), (h3, oC 3 [.ref h4, .int p3]), (h4, aI Y 80 f0), (h5, oC 7 [.ref h6, .int p4]), (h6, aJ Y 80 f1)]) (mkU [0, 0] [] [] [] []) (show (0 : Int) ≤ (0 : Int32).toInt by decide +kernel) rfl rfl (fun a7 hI9 IH8 => ?_)
          refine V_lv [(4, .int (a7.1 0)), (3, .int (a7.1 1)), (0, .ref h0), (1, .int p5), (2, .int p6)] [0, 1, 2, 3, 4] rfl ?_
          refine V_ws [(h0, oC 12 [.ref h1, .ref g0, .ref g1, .ref g2, .ref g3, .ref g4, .ref g5, .ref g6, .ref g7, .long p0]), (h1, oC 2 [.ref h2, .ref g8, .ref g9, .ref g10, .ref g11, .ref h3, .ref g12, .ref h5, .ref g13, .ref g14, .ref g15, .int p1]), (h2, oC 3 [.ref g16, .int p2]), (h3, oC 3 [.ref h4, .int p3]), (h4, aI Y 80 f0), (h5, oC 7 [.ref h6, .int p4]), (h6, aJ Y 80 f1)] rfl ?_
          refine V_iload 31 B dX11_clashPairs_31 0 rfl ?_
          refine V_aload_n 33 B dX11_clashPairs_33 2 rfl ?_
          refine V_get 34 B gf_RX11_10 0 rfl rfl dX11_clashPairs_34 ?_
          refine V_get 37 B gf_RX11_91 1 rfl rfl dX11_clashPairs_37 ?_
          refine V_gvi 40 B envX EB (st := [.int (a7.1 0)]) (As := []) (fun sz => sX1_size_1 l D Y h3 h4 p3 sz) glV_RX11_95 ⟨rfl, rfl⟩ ⟨(Nat.le_of_ble_eq_true rfl), (Nat.le_of_ble_eq_true rfl)⟩ ⟨(Nat.le_of_ble_eq_true rfl), (Nat.le_of_ble_eq_true rfl)⟩ [3] rfl 3 0 rfl rfl rfl rfl (Nat.le_of_ble_eq_true rfl) rfl (fun _ _ _ => rfl) dX11_clashPairs_40 (fun j10 u11 w12 => ?_)
          refine V_ws [(h0, oC 12 [.ref h1, .ref g0, .ref g1, .ref g2, .ref g3, .ref g4, .ref g5, .ref g6, .ref g7, .long p0]), (h1, oC 2 [.ref h2, .ref g8, .ref g9, .ref g10, .ref g11, .ref h3, .ref g12, .ref h5, .ref g13, .ref g14, .ref g15, .int p1]), (h2, oC 3 [.ref g16, .int p2]), (h3, oC 3 [.ref h4, .int p3]), (h4, aI Y 80 f0), (h5, oC 7 [.ref h6, .int p4]), (h6, aJ Y 80 f1)] rfl ?_
          refine V_icmp_ge 43 B 91 dX11_clashPairs_43 (by decide) (fun k13 => ?_) (fun k13 => ?_)
          ·
            refine V_iload_n 91 B dX11_clashPairs_91 1 rfl ?_
            refine V_xret ?_
            refine V_widen (k := 3) (n := 18) (Nat.le_of_ble_eq_true rfl) (Nat.le_of_ble_eq_true rfl) ?_
            exact V_iret 92 B dX11_clashPairs_92 (mkU [] [] [] [] []) trivial rfl
          ·
            refine V_aload_n 46 B dX11_clashPairs_46 2 rfl ?_
            refine V_get 47 B gf_RX11_10 0 rfl rfl dX11_clashPairs_47 ?_
            refine V_get 50 B gf_RX11_91 1 rfl rfl dX11_clashPairs_50 ?_
            refine V_iload 53 B dX11_clashPairs_53 0 rfl ?_
            refine V_gvi 55 B envX EB (st := []) (As := [.int (a7.1 0)]) (fun sz => sX1_at_3 l D Y h3 h4 p3 f0 (a7.1 0) sz) glV_RX11_187 ⟨rfl, rfl⟩ ⟨(Nat.le_of_ble_eq_true rfl), (Nat.le_of_ble_eq_true rfl)⟩ ⟨(Nat.le_of_ble_eq_true rfl), (Nat.le_of_ble_eq_true rfl)⟩ [3, 0] rfl 3 0 rfl rfl rfl rfl (Nat.le_of_ble_eq_true rfl) rfl (fun _ _ _ => rfl) dX11_clashPairs_55 (fun j14 u15 w16 => ?_)
            refine V_ws [(h0, oC 12 [.ref h1, .ref g0, .ref g1, .ref g2, .ref g3, .ref g4, .ref g5, .ref g6, .ref g7, .long p0]), (h1, oC 2 [.ref h2, .ref g8, .ref g9, .ref g10, .ref g11, .ref h3, .ref g12, .ref h5, .ref g13, .ref g14, .ref g15, .int p1]), (h2, oC 3 [.ref g16, .int p2]), (h3, oC 3 [.ref h4, .int p3]), (h4, aI Y 80 f0), (h5, oC 7 [.ref h6, .int p4]), (h6, aJ Y 80 f1)] rfl ?_
            refine V_iload_n 58 B dX11_clashPairs_58 3 rfl ?_
            refine V_icmp_ne 59 B 85 dX11_clashPairs_59 (by decide) (fun k17 => ?_) (fun k17 => ?_)
            ·
              refine V_iinc 85 B (v := ((a7.1 0) + Int32.ofInt 1)) (lv2 := [(4, .int ((a7.1 0) + Int32.ofInt 1)), (3, .int (a7.1 1)), (0, .ref h0), (1, .int p5), (2, .int p6)]) dX11_clashPairs_85 0 rfl rfl (by decide) rfl ?_
              refine V_goto 88 B 31 dX11_clashPairs_88 (by decide) ?_
              refine V_lv [(4, .int ((a7.1 0) + Int32.ofInt 1)), (3, .int (a7.1 1)), (0, .ref h0), (1, .int p5), (2, .int p6)] [0, 1, 2, 3, 4] rfl ?_
              exact IH8 (mkU [((a7.1 0) + Int32.ofInt 1), (a7.1 1)] [] [] [] []) (Int.le_trans (by decide) (o_add_lo (c := Int32.ofInt 1) hI9 (o_lt_hi (o_nle k13) (i_hi j10) (k := 2147483646) (by decide +kernel)) (by decide +kernel) (by decide +kernel) (k := 1) (by decide +kernel))) (up_dec (x := (a7.1 0)) (c := Int32.ofInt 1) (by decide +kernel) hI9 (o_lt_hi (o_nle k13) (i_hi j10) (k := 2147483646) (by decide +kernel)) (by decide))
            ·
              refine V_iload_n 62 B dX11_clashPairs_62 1 rfl ?_
              refine V_aload_n 63 B dX11_clashPairs_63 2 rfl ?_
              refine V_get 64 B gf_RX11_10 0 rfl rfl dX11_clashPairs_64 ?_
              refine V_iload_n 67 B dX11_clashPairs_67 4 rfl ?_
              refine V_aload_n 68 B dX11_clashPairs_68 2 rfl ?_
              refine V_get 69 B gf_RX11_10 0 rfl rfl dX11_clashPairs_69 ?_
              refine V_get 72 B gf_RX11_170 1 rfl rfl dX11_clashPairs_72 ?_
              refine V_iload 75 B dX11_clashPairs_75 0 rfl ?_
              refine V_gvl 77 B envX EB (st := [.int p6, .ref h1, .int (a7.1 1)]) (As := [.int (a7.1 0)]) (fun sz => sX5_at_1 l D Y h5 h6 p4 f1 (a7.1 0) sz) glV_RX11_173 ⟨rfl, rfl⟩ ⟨(Nat.le_of_ble_eq_true rfl), (Nat.le_of_ble_eq_true rfl)⟩ ⟨(Nat.le_of_ble_eq_true rfl), (Nat.le_of_ble_eq_true rfl)⟩ [5, 0] rfl 7 0 rfl rfl rfl rfl (Nat.le_of_ble_eq_true rfl) rfl (fun _ _ _ => rfl) dX11_clashPairs_77 (fun o18 u19 w20 => ?_)
              refine V_ws [(h0, oC 12 [.ref h1, .ref g0, .ref g1, .ref g2, .ref g3, .ref g4, .ref g5, .ref g6, .ref g7, .long p0]), (h1, oC 2 [.ref h2, .ref g8, .ref g9, .ref g10, .ref g11, .ref h3, .ref g12, .ref h5, .ref g13, .ref g14, .ref g15, .int p1]), (h2, oC 3 [.ref g16, .int p2]), (h3, oC 3 [.ref h4, .int p3]), (h4, aI Y 80 f0), (h5, oC 7 [.ref h6, .int p4]), (h6, aJ Y 80 f1)] rfl ?_
              refine V_gvi 80 B envX EB (st := [.int (a7.1 1)]) (As := [.int p6, .long o18]) (fun sz => sX0_ownClashes_1 l D Y h1 h3 h4 h5 h6 h2 g8 g9 g10 g11 g12 g13 g14 g15 p1 p3 f0 p4 f1 p6 o18 sz) glV_RX11_248 ⟨rfl, rfl⟩ ⟨(Nat.le_of_ble_eq_true rfl), (Nat.le_of_ble_eq_true rfl)⟩ ⟨(Nat.le_of_ble_eq_true rfl), (Nat.le_of_ble_eq_true rfl)⟩ [1, 1, 0, 0, 0] rfl 2 0 rfl rfl rfl rfl (Nat.le_of_ble_eq_true rfl) rfl (fun _ _ _ => rfl) dX11_clashPairs_80 (fun j21 u22 w23 => ?_)
              refine V_ws [(h0, oC 12 [.ref h1, .ref g0, .ref g1, .ref g2, .ref g3, .ref g4, .ref g5, .ref g6, .ref g7, .long p0]), (h1, oC 2 [.ref h2, .ref g8, .ref g9, .ref g10, .ref g11, .ref h3, .ref g12, .ref h5, .ref g13, .ref g14, .ref g15, .int p1]), (h2, oC 3 [.ref g16, .int p2]), (h3, oC 3 [.ref h4, .int p3]), (h4, aI Y 80 f0), (h5, oC 7 [.ref h6, .int p4]), (h6, aJ Y 80 f1)] rfl ?_
              refine V_iadd 83 B dX11_clashPairs_83 rfl ?_
              refine V_nmi (fun j24 _ => ?_)
              refine V_istore_n 84 B (lv2 := [(3, .int j24), (4, .int (a7.1 0)), (0, .ref h0), (1, .int p5), (2, .int p6)]) dX11_clashPairs_84 (by decide) rfl ?_
              refine V_iinc 85 B (v := ((a7.1 0) + Int32.ofInt 1)) (lv2 := [(4, .int ((a7.1 0) + Int32.ofInt 1)), (3, .int j24), (0, .ref h0), (1, .int p5), (2, .int p6)]) dX11_clashPairs_85 1 rfl rfl (by decide) rfl ?_
              refine V_goto 88 B 31 dX11_clashPairs_88 (by decide) ?_
              refine V_lv [(4, .int ((a7.1 0) + Int32.ofInt 1)), (3, .int j24), (0, .ref h0), (1, .int p5), (2, .int p6)] [0, 1, 2, 3, 4] rfl ?_
              exact IH8 (mkU [((a7.1 0) + Int32.ofInt 1), j24] [] [] [] []) (Int.le_trans (by decide) (o_add_lo (c := Int32.ofInt 1) hI9 (o_lt_hi (o_nle k13) (i_hi j10) (k := 2147483646) (by decide +kernel)) (by decide +kernel) (by decide +kernel) (k := 1) (by decide +kernel))) (up_dec (x := (a7.1 0)) (c := Int32.ofInt 1) (by decide +kernel) hI9 (o_lt_hi (o_nle k13) (i_hi j10) (k := 2147483646) (by decide +kernel)) (by decide))
        ·
          exact V_throwSW 15 B EB hl9 gt_RX11_190_262_194 hout dX11_clashPairs_15 dX11_clashPairs_18 dX11_clashPairs_19 dX11_clashPairs_22 dX11_clashPairs_25 (Nat.le_of_ble_eq_true rfl) (Nat.le_of_ble_eq_true rfl) (Nat.le_of_ble_eq_true rfl) (Nat.le_of_ble_eq_true rfl) (Nat.le_of_ble_eq_true rfl) (Nat.le_of_ble_eq_true rfl) (mkU [] [] [] [] []) (Or.inl rfl) rfl)
theorem dX11_digest_0 : decode cX11_digest 0 = .ok (.bipush 7, 2) := by decide +kernel
theorem dX11_digest_2 : decode cX11_digest 2 = .ok (.istore_n 1, 1) := by decide +kernel
theorem dX11_digest_3 : decode cX11_digest 3 = .ok (.iconst 0, 1) := by decide +kernel
theorem dX11_digest_4 : decode cX11_digest 4 = .ok (.istore_n 2, 1) := by decide +kernel
theorem dX11_digest_5 : decode cX11_digest 5 = .ok (.iload_n 2, 1) := by decide +kernel
theorem dX11_digest_6 : decode cX11_digest 6 = .ok (.aload_n 0, 1) := by decide +kernel
theorem dX11_digest_7 : decode cX11_digest 7 = .ok (.getfield 10, 3) := by decide +kernel
theorem dX11_digest_10 : decode cX11_digest 10 = .ok (.getfield 91, 3) := by decide +kernel
theorem dX11_digest_13 : decode cX11_digest 13 = .ok (.invokevirtual 95, 3) := by decide +kernel
theorem dX11_digest_16 : decode cX11_digest 16 = .ok (.if_icmp .ge 89, 3) := by decide +kernel
theorem dX11_digest_105 : decode cX11_digest 105 = .ok (.iload_n 1, 1) := by decide +kernel
theorem dX11_digest_106 : decode cX11_digest 106 = .ok (.ireturn, 1) := by decide +kernel
theorem dX11_digest_19 : decode cX11_digest 19 = .ok (.bipush 31, 2) := by decide +kernel
theorem dX11_digest_21 : decode cX11_digest 21 = .ok (.iload_n 1, 1) := by decide +kernel
theorem dX11_digest_22 : decode cX11_digest 22 = .ok (.imul, 1) := by decide +kernel
theorem dX11_digest_23 : decode cX11_digest 23 = .ok (.aload_n 0, 1) := by decide +kernel
theorem dX11_digest_24 : decode cX11_digest 24 = .ok (.getfield 10, 3) := by decide +kernel
theorem dX11_digest_27 : decode cX11_digest 27 = .ok (.getfield 91, 3) := by decide +kernel
theorem dX11_digest_30 : decode cX11_digest 30 = .ok (.iload_n 2, 1) := by decide +kernel
theorem dX11_digest_31 : decode cX11_digest 31 = .ok (.invokevirtual 187, 3) := by decide +kernel
theorem dX11_digest_34 : decode cX11_digest 34 = .ok (.iadd, 1) := by decide +kernel
theorem dX11_digest_35 : decode cX11_digest 35 = .ok (.istore_n 1, 1) := by decide +kernel
theorem dX11_digest_36 : decode cX11_digest 36 = .ok (.bipush 31, 2) := by decide +kernel
theorem dX11_digest_38 : decode cX11_digest 38 = .ok (.iload_n 1, 1) := by decide +kernel
theorem dX11_digest_39 : decode cX11_digest 39 = .ok (.imul, 1) := by decide +kernel
theorem dX11_digest_40 : decode cX11_digest 40 = .ok (.aload_n 0, 1) := by decide +kernel
theorem dX11_digest_41 : decode cX11_digest 41 = .ok (.getfield 10, 3) := by decide +kernel
theorem dX11_digest_44 : decode cX11_digest 44 = .ok (.getfield 213, 3) := by decide +kernel
theorem dX11_digest_47 : decode cX11_digest 47 = .ok (.iload_n 2, 1) := by decide +kernel
theorem dX11_digest_48 : decode cX11_digest 48 = .ok (.invokevirtual 187, 3) := by decide +kernel
theorem dX11_digest_51 : decode cX11_digest 51 = .ok (.iadd, 1) := by decide +kernel
theorem dX11_digest_52 : decode cX11_digest 52 = .ok (.istore_n 1, 1) := by decide +kernel
theorem dX11_digest_53 : decode cX11_digest 53 = .ok (.aload_n 0, 1) := by decide +kernel
theorem dX11_digest_54 : decode cX11_digest 54 = .ok (.getfield 10, 3) := by decide +kernel
theorem dX11_digest_57 : decode cX11_digest 57 = .ok (.getfield 170, 3) := by decide +kernel
theorem dX11_digest_60 : decode cX11_digest 60 = .ok (.iload_n 2, 1) := by decide +kernel
theorem dX11_digest_61 : decode cX11_digest 61 = .ok (.invokevirtual 173, 3) := by decide +kernel
theorem dX11_digest_64 : decode cX11_digest 64 = .ok (.lstore_n 3, 1) := by decide +kernel
theorem dX11_digest_65 : decode cX11_digest 65 = .ok (.lload_n 3, 1) := by decide +kernel
theorem dX11_digest_66 : decode cX11_digest 66 = .ok (.invokestatic 138, 3) := by decide +kernel
theorem dX11_digest_69 : decode cX11_digest 69 = .ok (.istore 5, 2) := by decide +kernel
theorem dX11_digest_71 : decode cX11_digest 71 = .ok (.iconst 0, 1) := by decide +kernel
theorem dX11_digest_72 : decode cX11_digest 72 = .ok (.istore 6, 2) := by decide +kernel
theorem dX11_digest_74 : decode cX11_digest 74 = .ok (.iload 6, 2) := by decide +kernel
theorem dX11_digest_76 : decode cX11_digest 76 = .ok (.iload 5, 2) := by decide +kernel
theorem dX11_digest_78 : decode cX11_digest 78 = .ok (.if_icmp .ge 21, 3) := by decide +kernel
theorem dX11_digest_99 : decode cX11_digest 99 = .ok (.iinc 2 1, 3) := by decide +kernel
theorem dX11_digest_102 : decode cX11_digest 102 = .ok (.goto (-97), 3) := by decide +kernel
theorem dX11_digest_81 : decode cX11_digest 81 = .ok (.bipush 31, 2) := by decide +kernel
theorem dX11_digest_83 : decode cX11_digest 83 = .ok (.iload_n 1, 1) := by decide +kernel
theorem dX11_digest_84 : decode cX11_digest 84 = .ok (.imul, 1) := by decide +kernel
theorem dX11_digest_85 : decode cX11_digest 85 = .ok (.lload_n 3, 1) := by decide +kernel
theorem dX11_digest_86 : decode cX11_digest 86 = .ok (.iload 6, 2) := by decide +kernel
theorem dX11_digest_88 : decode cX11_digest 88 = .ok (.invokestatic 163, 3) := by decide +kernel
theorem dX11_digest_91 : decode cX11_digest 91 = .ok (.iadd, 1) := by decide +kernel
theorem dX11_digest_92 : decode cX11_digest 92 = .ok (.istore_n 1, 1) := by decide +kernel
theorem dX11_digest_93 : decode cX11_digest 93 = .ok (.iinc 6 1, 3) := by decide +kernel
theorem dX11_digest_96 : decode cX11_digest 96 = .ok (.goto (-22), 3) := by decide +kernel
set_option maxRecDepth 100000 in
set_option maxHeartbeats 4000000 in
theorem sX11_digest_1 (l : Launch) (D : va_G) (Y : Nat → ClassId) (h0 : Nat) (h1 : Nat) (h2 : Nat) (h3 : Nat) (h4 : Nat) (h5 : Nat) (h6 : Nat) (h7 : Nat) (g0 : Nat) (g1 : Nat) (g2 : Nat) (g3 : Nat) (g4 : Nat) (g5 : Nat) (g6 : Nat) (g7 : Nat) (g8 : Nat) (g9 : Nat) (g10 : Nat) (g11 : Nat) (g12 : Nat) (g13 : Nat) (g14 : Nat) (g15 : Nat) (p0 : Int64) (p1 : Int32) (p2 : Int32) (f0 : Nat → Int32) (p3 : Int32) (f1 : Nat → Int32) (p4 : Int32) (f2 : Nat → Int64) (sz : Nat) : Met l yX11_digest (WSm yX11_digest cX11_digest 7 (some .int)) (mkR 1 0 0 22) (PreG EX D Y [.ref h0] [(h0, oC 12 [.ref h1, .ref g0, .ref g1, .ref g2, .ref g3, .ref g4, .ref g5, .ref g6, .ref g7, .long p0]), (h1, oC 2 [.ref g8, .ref g9, .ref g10, .ref g11, .ref g12, .ref h2, .ref h4, .ref h6, .ref g13, .ref g14, .ref g15, .int p1]), (h2, oC 3 [.ref h3, .int p2]), (h3, aI Y 80 f0), (h4, oC 3 [.ref h5, .int p3]), (h5, aI Y 80 f1), (h6, oC 7 [.ref h7, .int p4]), (h7, aJ Y 80 f2)] sz) (QI D (fun (_ : Int32) (_ : UU) => True) (fun (u : UU) => [(h0, oC 12 [.ref h1, .ref g0, .ref g1, .ref g2, .ref g3, .ref g4, .ref g5, .ref g6, .ref g7, .long p0]), (h1, oC 2 [.ref g8, .ref g9, .ref g10, .ref g11, .ref g12, .ref h2, .ref h4, .ref h6, .ref g13, .ref g14, .ref g15, .int p1]), (h2, oC 3 [.ref h3, .int p2]), (h3, aI Y 80 f0), (h4, oC 3 [.ref h5, .int p3]), (h5, aI Y 80 f1), (h6, oC 7 [.ref h7, .int p4]), (h7, aJ Y 80 f2)]) (va_A [(h0, oC 12 [.ref h1, .ref g0, .ref g1, .ref g2, .ref g3, .ref g4, .ref g5, .ref g6, .ref g7, .long p0]), (h1, oC 2 [.ref g8, .ref g9, .ref g10, .ref g11, .ref g12, .ref h2, .ref h4, .ref h6, .ref g13, .ref g14, .ref g15, .int p1]), (h2, oC 3 [.ref h3, .int p2]), (h3, aI Y 80 f0), (h4, oC 3 [.ref h5, .int p3]), (h5, aI Y 80 f1), (h6, oC 7 [.ref h7, .int p4]), (h7, aJ Y 80 f2)] sz)) 0 0 (va_A [(h0, oC 12 [.ref h1, .ref g0, .ref g1, .ref g2, .ref g3, .ref g4, .ref g5, .ref g6, .ref g7, .long p0]), (h1, oC 2 [.ref g8, .ref g9, .ref g10, .ref g11, .ref g12, .ref h2, .ref h4, .ref h6, .ref g13, .ref g14, .ref g15, .int p1]), (h2, oC 3 [.ref h3, .int p2]), (h3, aI Y 80 f0), (h4, oC 3 [.ref h5, .int p3]), (h5, aI Y 80 f1), (h6, oC 7 [.ref h7, .int p4]), (h7, aJ Y 80 f2)] sz) :=
  gmet_of (by decide +kernel) (Nat.le_of_ble_eq_true rfl) (fun p e s m args below meth c B EB hsz => by
    have B : VB p s m args meth c D Y (va_A [(h0, oC 12 [.ref h1, .ref g0, .ref g1, .ref g2, .ref g3, .ref g4, .ref g5, .ref g6, .ref g7, .long p0]), (h1, oC 2 [.ref g8, .ref g9, .ref g10, .ref g11, .ref g12, .ref h2, .ref h4, .ref h6, .ref g13, .ref g14, .ref g15, .int p1]), (h2, oC 3 [.ref h3, .int p2]), (h3, aI Y 80 f0), (h4, oC 3 [.ref h5, .int p3]), (h5, aI Y 80 f1), (h6, oC 7 [.ref h7, .int p4]), (h7, aJ Y 80 f2)] sz) cX11_digest 7 RX11 (some .int) := B
    refine V_bipush 0 B (v := 7) dX11_digest_0 (by decide +kernel) ?_
    refine V_istore_n 2 B (lv2 := [(1, .int 7), (0, .ref h0)]) dX11_digest_2 (by decide) rfl ?_
    refine V_iconst 3 B (v := 0) dX11_digest_3 (by decide +kernel) ?_
    refine V_istore_n 4 B (lv2 := [(2, .int 0), (1, .int 7), (0, .ref h0)]) dX11_digest_4 (by decide) rfl ?_
    refine V_wloop (α := UU) (fun a => (2147483647 - ((a.1 0)).toInt).toNat) (fun a => 0 ≤ ((a.1 0)).toInt) (fun a => [(2, .int (a.1 0)), (1, .int (a.1 1)), (0, .ref h0)]) (fun a => [(h0, oC 12 [.ref h1, .ref g0, .ref g1, .ref g2, .ref g3, .ref g4, .ref g5, .ref g6, .ref g7, .long p0]), (h1, oC 2 [.ref g8, .ref g9, .ref g10, .ref g11, .ref g12, .ref h2, .ref h4, .ref h6, .ref g13, .ref g14, .ref g15, .int p1]), (h2, oC 3 [.ref h3, .int p2]), (h3, aI Y 80 f0), (h4, oC 3 [.ref h5, .int p3]), (h5, aI Y 80 f1), (h6, oC 7 [.ref h7, .int p4]), (h7, aJ Y 80 f2)]) (mkU [0, 7] [] [] [] []) (show (0 : Int) ≤ (0 : Int32).toInt by decide +kernel) rfl rfl (fun a0 hI2 IH1 => ?_)
    refine V_lv [(2, .int (a0.1 0)), (1, .int (a0.1 1)), (0, .ref h0)] [0, 1, 2] rfl ?_
    refine V_ws [(h0, oC 12 [.ref h1, .ref g0, .ref g1, .ref g2, .ref g3, .ref g4, .ref g5, .ref g6, .ref g7, .long p0]), (h1, oC 2 [.ref g8, .ref g9, .ref g10, .ref g11, .ref g12, .ref h2, .ref h4, .ref h6, .ref g13, .ref g14, .ref g15, .int p1]), (h2, oC 3 [.ref h3, .int p2]), (h3, aI Y 80 f0), (h4, oC 3 [.ref h5, .int p3]), (h5, aI Y 80 f1), (h6, oC 7 [.ref h7, .int p4]), (h7, aJ Y 80 f2)] rfl ?_
    refine V_iload_n 5 B dX11_digest_5 0 rfl ?_
    refine V_aload_n 6 B dX11_digest_6 2 rfl ?_
    refine V_get 7 B gf_RX11_10 0 rfl rfl dX11_digest_7 ?_
    refine V_get 10 B gf_RX11_91 1 rfl rfl dX11_digest_10 ?_
    refine V_gvi 13 B envX EB (st := [.int (a0.1 0)]) (As := []) (fun sz => sX1_size_1 l D Y h2 h3 p2 sz) glV_RX11_95 ⟨rfl, rfl⟩ ⟨(Nat.le_of_ble_eq_true rfl), (Nat.le_of_ble_eq_true rfl)⟩ ⟨(Nat.le_of_ble_eq_true rfl), (Nat.le_of_ble_eq_true rfl)⟩ [2] rfl 3 0 rfl rfl rfl rfl (Nat.le_of_ble_eq_true rfl) rfl (fun _ _ _ => rfl) dX11_digest_13 (fun j3 u4 w5 => ?_)
    refine V_ws [(h0, oC 12 [.ref h1, .ref g0, .ref g1, .ref g2, .ref g3, .ref g4, .ref g5, .ref g6, .ref g7, .long p0]), (h1, oC 2 [.ref g8, .ref g9, .ref g10, .ref g11, .ref g12, .ref h2, .ref h4, .ref h6, .ref g13, .ref g14, .ref g15, .int p1]), (h2, oC 3 [.ref h3, .int p2]), (h3, aI Y 80 f0), (h4, oC 3 [.ref h5, .int p3]), (h5, aI Y 80 f1), (h6, oC 7 [.ref h7, .int p4]), (h7, aJ Y 80 f2)] rfl ?_
    refine V_icmp_ge 16 B 105 dX11_digest_16 (by decide) (fun k6 => ?_) (fun k6 => ?_)
    ·
      refine V_iload_n 105 B dX11_digest_105 1 rfl ?_
      exact V_iret 106 B dX11_digest_106 (mkU [] [] [] [] []) trivial rfl
    ·
      refine V_bipush 19 B (v := 31) dX11_digest_19 (by decide +kernel) ?_
      refine V_iload_n 21 B dX11_digest_21 1 rfl ?_
      refine V_imul 22 B dX11_digest_22 rfl ?_
      refine V_nmi (fun j7 _ => ?_)
      refine V_aload_n 23 B dX11_digest_23 2 rfl ?_
      refine V_get 24 B gf_RX11_10 0 rfl rfl dX11_digest_24 ?_
      refine V_get 27 B gf_RX11_91 1 rfl rfl dX11_digest_27 ?_
      refine V_iload_n 30 B dX11_digest_30 0 rfl ?_
      refine V_gvi 31 B envX EB (st := [.int j7]) (As := [.int (a0.1 0)]) (fun sz => sX1_at_3 l D Y h2 h3 p2 f0 (a0.1 0) sz) glV_RX11_187 ⟨rfl, rfl⟩ ⟨(Nat.le_of_ble_eq_true rfl), (Nat.le_of_ble_eq_true rfl)⟩ ⟨(Nat.le_of_ble_eq_true rfl), (Nat.le_of_ble_eq_true rfl)⟩ [2, 0] rfl 3 0 rfl rfl rfl rfl (Nat.le_of_ble_eq_true rfl) rfl (fun _ _ _ => rfl) dX11_digest_31 (fun j8 u9 w10 => ?_)
      refine V_ws [(h0, oC 12 [.ref h1, .ref g0, .ref g1, .ref g2, .ref g3, .ref g4, .ref g5, .ref g6, .ref g7, .long p0]), (h1, oC 2 [.ref g8, .ref g9, .ref g10, .ref g11, .ref g12, .ref h2, .ref h4, .ref h6, .ref g13, .ref g14, .ref g15, .int p1]), (h2, oC 3 [.ref h3, .int p2]), (h3, aI Y 80 f0), (h4, oC 3 [.ref h5, .int p3]), (h5, aI Y 80 f1), (h6, oC 7 [.ref h7, .int p4]), (h7, aJ Y 80 f2)] rfl ?_
      refine V_iadd 34 B dX11_digest_34 rfl ?_
      refine V_nmi (fun j11 _ => ?_)
      refine V_istore_n 35 B (lv2 := [(1, .int j11), (2, .int (a0.1 0)), (0, .ref h0)]) dX11_digest_35 (by decide) rfl ?_
      refine V_bipush 36 B (v := 31) dX11_digest_36 (by decide +kernel) ?_
      refine V_iload_n 38 B dX11_digest_38 0 rfl ?_
      refine V_imul 39 B dX11_digest_39 rfl ?_
      refine V_nmi (fun j12 _ => ?_)
      refine V_aload_n 40 B dX11_digest_40 2 rfl ?_
      refine V_get 41 B gf_RX11_10 0 rfl rfl dX11_digest_41 ?_
      refine V_get 44 B gf_RX11_213 1 rfl rfl dX11_digest_44 ?_
      refine V_iload_n 47 B dX11_digest_47 1 rfl ?_
      refine V_gvi 48 B envX EB (st := [.int j12]) (As := [.int (a0.1 0)]) (fun sz => sX1_at_3 l D Y h4 h5 p3 f1 (a0.1 0) sz) glV_RX11_187 ⟨rfl, rfl⟩ ⟨(Nat.le_of_ble_eq_true rfl), (Nat.le_of_ble_eq_true rfl)⟩ ⟨(Nat.le_of_ble_eq_true rfl), (Nat.le_of_ble_eq_true rfl)⟩ [4, 0] rfl 3 0 rfl rfl rfl rfl (Nat.le_of_ble_eq_true rfl) rfl (fun _ _ _ => rfl) dX11_digest_48 (fun j13 u14 w15 => ?_)
      refine V_ws [(h0, oC 12 [.ref h1, .ref g0, .ref g1, .ref g2, .ref g3, .ref g4, .ref g5, .ref g6, .ref g7, .long p0]), (h1, oC 2 [.ref g8, .ref g9, .ref g10, .ref g11, .ref g12, .ref h2, .ref h4, .ref h6, .ref g13, .ref g14, .ref g15, .int p1]), (h2, oC 3 [.ref h3, .int p2]), (h3, aI Y 80 f0), (h4, oC 3 [.ref h5, .int p3]), (h5, aI Y 80 f1), (h6, oC 7 [.ref h7, .int p4]), (h7, aJ Y 80 f2)] rfl ?_
      refine V_iadd 51 B dX11_digest_51 rfl ?_
      refine V_nmi (fun j16 _ => ?_)
      refine V_istore_n 52 B (lv2 := [(1, .int j16), (2, .int (a0.1 0)), (0, .ref h0)]) dX11_digest_52 (by decide) rfl ?_
      refine V_aload_n 53 B dX11_digest_53 2 rfl ?_
      refine V_get 54 B gf_RX11_10 0 rfl rfl dX11_digest_54 ?_
      refine V_get 57 B gf_RX11_170 1 rfl rfl dX11_digest_57 ?_
      refine V_iload_n 60 B dX11_digest_60 1 rfl ?_
      refine V_gvl 61 B envX EB (st := []) (As := [.int (a0.1 0)]) (fun sz => sX5_at_1 l D Y h6 h7 p4 f2 (a0.1 0) sz) glV_RX11_173 ⟨rfl, rfl⟩ ⟨(Nat.le_of_ble_eq_true rfl), (Nat.le_of_ble_eq_true rfl)⟩ ⟨(Nat.le_of_ble_eq_true rfl), (Nat.le_of_ble_eq_true rfl)⟩ [6, 0] rfl 7 0 rfl rfl rfl rfl (Nat.le_of_ble_eq_true rfl) rfl (fun _ _ _ => rfl) dX11_digest_61 (fun o17 u18 w19 => ?_)
      refine V_ws [(h0, oC 12 [.ref h1, .ref g0, .ref g1, .ref g2, .ref g3, .ref g4, .ref g5, .ref g6, .ref g7, .long p0]), (h1, oC 2 [.ref g8, .ref g9, .ref g10, .ref g11, .ref g12, .ref h2, .ref h4, .ref h6, .ref g13, .ref g14, .ref g15, .int p1]), (h2, oC 3 [.ref h3, .int p2]), (h3, aI Y 80 f0), (h4, oC 3 [.ref h5, .int p3]), (h5, aI Y 80 f1), (h6, oC 7 [.ref h7, .int p4]), (h7, aJ Y 80 f2)] rfl ?_
      refine V_lstore_n 64 B (lv2 := [(3, .long o17), (1, .int j16), (2, .int (a0.1 0)), (0, .ref h0)]) dX11_digest_64 (by decide) rfl ?_
      refine V_lload_n 65 B dX11_digest_65 0 rfl ?_
      refine V_gsi 66 B envX EB (st := []) (As := [.long o17]) (fun sz => sX6_lengthOf_1 l D Y  o17 sz) glS_RX11_138 ⟨rfl, rfl⟩ ⟨(Nat.le_of_ble_eq_true rfl), (Nat.le_of_ble_eq_true rfl)⟩ ⟨(Nat.le_of_ble_eq_true rfl), (Nat.le_of_ble_eq_true rfl)⟩ [] rfl rfl (Nat.le_of_ble_eq_true rfl) rfl (fun _ _ _ => rfl) dX11_digest_66 (fun j20 u21 w22 => ?_)
      refine V_ws [(h0, oC 12 [.ref h1, .ref g0, .ref g1, .ref g2, .ref g3, .ref g4, .ref g5, .ref g6, .ref g7, .long p0]), (h1, oC 2 [.ref g8, .ref g9, .ref g10, .ref g11, .ref g12, .ref h2, .ref h4, .ref h6, .ref g13, .ref g14, .ref g15, .int p1]), (h2, oC 3 [.ref h3, .int p2]), (h3, aI Y 80 f0), (h4, oC 3 [.ref h5, .int p3]), (h5, aI Y 80 f1), (h6, oC 7 [.ref h7, .int p4]), (h7, aJ Y 80 f2)] rfl ?_
      refine V_istore 69 B (lv2 := [(5, .int j20), (3, .long o17), (1, .int j16), (2, .int (a0.1 0)), (0, .ref h0)]) dX11_digest_69 (by decide) rfl ?_
      refine V_iconst 71 B (v := 0) dX11_digest_71 (by decide +kernel) ?_
      refine V_istore 72 B (lv2 := [(6, .int 0), (5, .int j20), (3, .long o17), (1, .int j16), (2, .int (a0.1 0)), (0, .ref h0)]) dX11_digest_72 (by decide) rfl ?_
      refine V_wloop (α := UU) (fun a => (2147483647 - ((a.1 0)).toInt).toNat) (fun a => 0 ≤ ((a.1 0)).toInt) (fun a => [(6, .int (a.1 0)), (5, .int j20), (3, .long o17), (1, .int (a.1 1)), (2, .int (a0.1 0)), (0, .ref h0)]) (fun a => [(h0, oC 12 [.ref h1, .ref g0, .ref g1, .ref g2, .ref g3, .ref g4, .ref g5, .ref g6, .ref g7, .long p0]), (h1, oC 2 [.ref g8, .ref g9, .ref g10, .ref g11, .ref g12, .ref h2, .ref h4, .ref h6, .ref g13, .ref g14, .ref g15, .int p1]), (h2, oC 3 [.ref h3, .int p2]), (h3, aI Y 80 f0), (h4, oC 3 [.ref h5, .int p3]), (h5, aI Y 80 f1), (h6, oC 7 [.ref h7, .int p4]), (h7, aJ Y 80 f2)]) (mkU [0, j16] [] [] [] []) (show (0 : Int) ≤ (0 : Int32).toInt by decide +kernel) rfl rfl (fun a23 hI25 IH24 => ?_)
      refine V_lv [(6, .int (a23.1 0)), (5, .int j20), (3, .long o17), (1, .int (a23.1 1)), (2, .int (a0.1 0)), (0, .ref h0)] [0, 1, 2, 3, 4, 5] rfl ?_
      refine V_ws [(h0, oC 12 [.ref h1, .ref g0, .ref g1, .ref g2, .ref g3, .ref g4, .ref g5, .ref g6, .ref g7, .long p0]), (h1, oC 2 [.ref g8, .ref g9, .ref g10, .ref g11, .ref g12, .ref h2, .ref h4, .ref h6, .ref g13, .ref g14, .ref g15, .int p1]), (h2, oC 3 [.ref h3, .int p2]), (h3, aI Y 80 f0), (h4, oC 3 [.ref h5, .int p3]), (h5, aI Y 80 f1), (h6, oC 7 [.ref h7, .int p4]), (h7, aJ Y 80 f2)] rfl ?_
      refine V_iload 74 B dX11_digest_74 0 rfl ?_
      refine V_iload 76 B dX11_digest_76 1 rfl ?_
      refine V_icmp_ge 78 B 99 dX11_digest_78 (by decide) (fun k26 => ?_) (fun k26 => ?_)
      ·
        refine V_iinc 99 B (v := ((a0.1 0) + Int32.ofInt 1)) (lv2 := [(2, .int ((a0.1 0) + Int32.ofInt 1)), (6, .int (a23.1 0)), (5, .int j20), (3, .long o17), (1, .int (a23.1 1)), (0, .ref h0)]) dX11_digest_99 4 rfl rfl (by decide) rfl ?_
        refine V_goto 102 B 5 dX11_digest_102 (by decide) ?_
        refine V_lv [(2, .int ((a0.1 0) + Int32.ofInt 1)), (1, .int (a23.1 1)), (0, .ref h0)] [0, 4, 5] rfl ?_
        exact IH1 (mkU [((a0.1 0) + Int32.ofInt 1), (a23.1 1)] [] [] [] []) (Int.le_trans (by decide) (o_add_lo (c := Int32.ofInt 1) hI2 (o_lt_hi (o_nle k6) (i_hi j3) (k := 2147483646) (by decide +kernel)) (by decide +kernel) (by decide +kernel) (k := 1) (by decide +kernel))) (up_dec (x := (a0.1 0)) (c := Int32.ofInt 1) (by decide +kernel) hI2 (o_lt_hi (o_nle k6) (i_hi j3) (k := 2147483646) (by decide +kernel)) (by decide))
      ·
        refine V_bipush 81 B (v := 31) dX11_digest_81 (by decide +kernel) ?_
        refine V_iload_n 83 B dX11_digest_83 3 rfl ?_
        refine V_imul 84 B dX11_digest_84 rfl ?_
        refine V_nmi (fun j27 _ => ?_)
        refine V_lload_n 85 B dX11_digest_85 2 rfl ?_
        refine V_iload 86 B dX11_digest_86 0 rfl ?_
        refine V_gsi 88 B envX EB (st := [.int j27]) (As := [.long o17, .int (a23.1 0)]) (fun sz => sX6_strokeAt_1 l D Y  o17 (a23.1 0) sz) glS_RX11_163 ⟨rfl, rfl⟩ ⟨(Nat.le_of_ble_eq_true rfl), (Nat.le_of_ble_eq_true rfl)⟩ ⟨(Nat.le_of_ble_eq_true rfl), (Nat.le_of_ble_eq_true rfl)⟩ [] rfl rfl (Nat.le_of_ble_eq_true rfl) rfl (fun _ _ _ => rfl) dX11_digest_88 (fun j28 u29 w30 => ?_)
        refine V_ws [(h0, oC 12 [.ref h1, .ref g0, .ref g1, .ref g2, .ref g3, .ref g4, .ref g5, .ref g6, .ref g7, .long p0]), (h1, oC 2 [.ref g8, .ref g9, .ref g10, .ref g11, .ref g12, .ref h2, .ref h4, .ref h6, .ref g13, .ref g14, .ref g15, .int p1]), (h2, oC 3 [.ref h3, .int p2]), (h3, aI Y 80 f0), (h4, oC 3 [.ref h5, .int p3]), (h5, aI Y 80 f1), (h6, oC 7 [.ref h7, .int p4]), (h7, aJ Y 80 f2)] rfl ?_
        refine V_iadd 91 B dX11_digest_91 rfl ?_
        refine V_nmi (fun j31 _ => ?_)
        refine V_istore_n 92 B (lv2 := [(1, .int j31), (6, .int (a23.1 0)), (5, .int j20), (3, .long o17), (2, .int (a0.1 0)), (0, .ref h0)]) dX11_digest_92 (by decide) rfl ?_
        refine V_iinc 93 B (v := ((a23.1 0) + Int32.ofInt 1)) (lv2 := [(6, .int ((a23.1 0) + Int32.ofInt 1)), (1, .int j31), (5, .int j20), (3, .long o17), (2, .int (a0.1 0)), (0, .ref h0)]) dX11_digest_93 1 rfl rfl (by decide) rfl ?_
        refine V_goto 96 B 74 dX11_digest_96 (by decide) ?_
        refine V_lv [(6, .int ((a23.1 0) + Int32.ofInt 1)), (5, .int j20), (3, .long o17), (1, .int j31), (2, .int (a0.1 0)), (0, .ref h0)] [0, 2, 3, 1, 4, 5] rfl ?_
        exact IH24 (mkU [((a23.1 0) + Int32.ofInt 1), j31] [] [] [] []) (Int.le_trans (by decide) (o_add_lo (c := Int32.ofInt 1) hI25 (o_lt_hi (o_nle k26) (i_hi j20) (k := 2147483646) (by decide +kernel)) (by decide +kernel) (by decide +kernel) (k := 1) (by decide +kernel))) (up_dec (x := (a23.1 0)) (c := Int32.ofInt 1) (by decide +kernel) hI25 (o_lt_hi (o_nle k26) (i_hi j20) (k := 2147483646) (by decide +kernel)) (by decide)))
