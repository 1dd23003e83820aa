theorem dX11_tick_0 : decode cX11_tick 0 = .ok (.iload_n 1, 1) := by decide +kernel
theorem dX11_tick_1 : decode cX11_tick 1 = .ok (.iconst 1, 1) := by decide +kernel
theorem dX11_tick_2 : decode cX11_tick 2 = .ok (.if_icmp .lt 10, 3) := by decide +kernel
theorem dX11_tick_12 : decode cX11_tick 12 = .ok (.new 190, 3) := by decide +kernel
theorem gt_RX11_190_362_194 : GT RX11 190 362 194 "java/lang/IllegalArgumentException" "no such number of ticks" ["java/lang/RuntimeException", "java/lang/Exception"] := ⟨rfl, (mT5 31 rfl rfl), (mT1 22 rfl rfl), List.mem_of_getElem? (i := 6) rfl, by decide +kernel, by decide +kernel, List.mem_of_getElem? (i := 0) rfl, gta_194⟩
theorem dX11_tick_15 : decode cX11_tick 15 = .ok (.dup, 1) := by decide +kernel
theorem dX11_tick_16 : decode cX11_tick 16 = .ok (.ldc_w 362, 3) := by decide +kernel
theorem dX11_tick_19 : decode cX11_tick 19 = .ok (.invokespecial 194, 3) := by decide +kernel
theorem dX11_tick_22 : decode cX11_tick 22 = .ok (.athrow, 1) := by decide +kernel
theorem dX11_tick_5 : decode cX11_tick 5 = .ok (.iload_n 1, 1) := by decide +kernel
theorem dX11_tick_6 : decode cX11_tick 6 = .ok (.sipush 1000, 3) := by decide +kernel
theorem dX11_tick_9 : decode cX11_tick 9 = .ok (.if_icmp .le 14, 3) := by decide +kernel
theorem dX11_tick_23 : decode cX11_tick 23 = .ok (.aload_n 0, 1) := by decide +kernel
theorem dX11_tick_24 : decode cX11_tick 24 = .ok (.getfield 10, 3) := by decide +kernel
theorem dX11_tick_27 : decode cX11_tick 27 = .ok (.getfield 129, 3) := by decide +kernel
theorem dX11_tick_30 : decode cX11_tick 30 = .ok (.iload_n 1, 1) := by decide +kernel
theorem dX11_tick_31 : decode cX11_tick 31 = .ok (.invokevirtual 364, 3) := by decide +kernel
theorem glV_RX11_364 : GLV RX11 364 yX8_passTicks RX8 cX8_passTicks 2 (some .int) 1 := ⟨⟨(mT7 87 rfl rfl), (mT4 174 rfl rfl), (mT4 175 rfl rfl), (mT1 7 rfl rfl), (mT4 176 rfl rfl)⟩, by decide +kernel⟩
theorem dX11_tick_34 : decode cX11_tick 34 = .ok (.ireturn, 1) := by decide +kernel
set_option maxRecDepth 100000 in
set_option maxHeartbeats 4000000 in
theorem sX11_tick_1 (l : Launch) (hl9 : l.stackTraces = false) (D : va_G) (Y : Nat → ClassId) (h0 : Nat) (h1 : Nat) (h2 : Nat) (g0 : Nat) (g1 : Nat) (g2 : Nat) (g3 : Nat) (g4 : Nat) (g5 : Nat) (g6 : Nat) (g7 : Nat) (g8 : Nat) (g9 : Nat) (g10 : Nat) (g11 : Nat) (g12 : Nat) (g13 : Nat) (g14 : Nat) (g15 : Nat) (g16 : Nat) (g17 : Nat) (g18 : Nat) (p0 : Int64) (p1 : Int32) (p2 : Int32) (p3 : Int64) (p4 : Int32) (p5 : Int32) (p6 : Int32) (p7 : Int32) (p8 : Int32) (p9 : Int32) (p10 : Int32) (sz : Nat) : vx_Met l yX11_tick (WSm yX11_tick cX11_tick 2 (some .int)) (mkR 6 1 6 82) (PreX D Y [.ref h0, .int p10] [(h0, oC 12 [.ref h1, .ref g0, .ref g1, .ref g2, .ref g3, .ref g4, .ref g5, .ref g6, .ref g7, .long p0]), (h1, oC 2 [.ref g8, .ref g9, .ref g10, .ref g11, .ref g12, .ref g13, .ref g14, .ref g15, .ref g16, .ref g17, .ref h2, .int p1]), (h2, oC 9 [.ref g18, .int p2, .long p3, .int p4, .int p5, .int p6, .int p7, .int p8, .int p9])] sz) (QI D (fun (_ : Int32) (_ : UU) => True) (fun (u : UU) => [(h0, oC 12 [.ref h1, .ref g0, .ref g1, .ref g2, .ref g3, .ref g4, .ref g5, .ref g6, .ref g7, .long p0]), (h1, oC 2 [.ref g8, .ref g9, .ref g10, .ref g11, .ref g12, .ref g13, .ref g14, .ref g15, .ref g16, .ref g17, .ref h2, .int p1]), (h2, oC 9 [.ref g18, .int p2, .long (u.2.1 0), .int p4, .int (u.1 0), .int p6, .int (u.1 1), .int p8, .int p9])]) (va_A [(h0, oC 12 [.ref h1, .ref g0, .ref g1, .ref g2, .ref g3, .ref g4, .ref g5, .ref g6, .ref g7, .long p0]), (h1, oC 2 [.ref g8, .ref g9, .ref g10, .ref g11, .ref g12, .ref g13, .ref g14, .ref g15, .ref g16, .ref g17, .ref h2, .int p1]), (h2, oC 9 [.ref g18, .int p2, .long p3, .int p4, .int p5, .int p6, .int p7, .int p8, .int p9])] sz)) (XW D (fun (E : String) (_ : UU) => E = "java/lang/IllegalArgumentException") (fun (u : UU) => [(h0, oC 12 [.ref h1, .ref g0, .ref g1, .ref g2, .ref g3, .ref g4, .ref g5, .ref g6, .ref g7, .long p0]), (h1, oC 2 [.ref g8, .ref g9, .ref g10, .ref g11, .ref g12, .ref g13, .ref g14, .ref g15, .ref g16, .ref g17, .ref h2, .int p1]), (h2, oC 9 [.ref g18, .int p2, .long (u.2.1 0), .int p4, .int (u.1 0), .int p6, .int (u.1 1), .int p8, .int p9])]) (va_A [(h0, oC 12 [.ref h1, .ref g0, .ref g1, .ref g2, .ref g3, .ref g4, .ref g5, .ref g6, .ref g7, .long p0]), (h1, oC 2 [.ref g8, .ref g9, .ref g10, .ref g11, .ref g12, .ref g13, .ref g14, .ref g15, .ref g16, .ref g17, .ref h2, .int p1]), (h2, oC 9 [.ref g18, .int p2, .long p3, .int p4, .int p5, .int p6, .int p7, .int p8, .int p9])] sz)) 1 6 (va_A [(h0, oC 12 [.ref h1, .ref g0, .ref g1, .ref g2, .ref g3, .ref g4, .ref g5, .ref g6, .ref g7, .long p0]), (h1, oC 2 [.ref g8, .ref g9, .ref g10, .ref g11, .ref g12, .ref g13, .ref g14, .ref g15, .ref g16, .ref g17, .ref h2, .int p1]), (h2, oC 9 [.ref g18, .int p2, .long p3, .int p4, .int p5, .int p6, .int p7, .int p8, .int p9])] sz) :=
  xmet_of (by decide +kernel) (Nat.le_of_ble_eq_true rfl) (fun p e s m args below meth c B EB hout hsz => by
    have B : VB p s m args meth c D Y (va_A [(h0, oC 12 [.ref h1, .ref g0, .ref g1, .ref g2, .ref g3, .ref g4, .ref g5, .ref g6, .ref g7, .long p0]), (h1, oC 2 [.ref g8, .ref g9, .ref g10, .ref g11, .ref g12, .ref g13, .ref g14, .ref g15, .ref g16, .ref g17, .ref h2, .int p1]), (h2, oC 9 [.ref g18, .int p2, .long p3, .int p4, .int p5, .int p6, .int p7, .int p8, .int p9])] sz) cX11_tick 2 RX11 (some .int) := B
    refine V_iload_n 0 B dX11_tick_0 1 rfl ?_
    refine V_iconst 1 B (v := 1) dX11_tick_1 (by decide +kernel) ?_
    refine V_icmp_lt 2 B 12 dX11_tick_2 (by decide) (fun k0 => ?_) (fun k0 => ?_)
    ·
      exact V_throwSW 12 B EB hl9 gt_RX11_190_362_194 hout dX11_tick_12 dX11_tick_15 dX11_tick_16 dX11_tick_19 dX11_tick_22 (Nat.le_of_ble_eq_true rfl) (Nat.le_of_ble_eq_true rfl) (Nat.le_of_ble_eq_true rfl) (Nat.le_of_ble_eq_true rfl) (Nat.le_of_ble_eq_true rfl) (Nat.le_of_ble_eq_true rfl) (mkU [p5, p7] [p3] [] [] []) rfl rfl
    ·
      refine V_iload_n 5 B dX11_tick_5 1 rfl ?_
      refine V_sipush 6 B (v := 1000) dX11_tick_6 (by decide +kernel) ?_
      refine V_icmp_le 9 B 23 dX11_tick_9 (by decide) (fun k1 => ?_) (fun k1 => ?_)
      ·
        refine V_aload_n 23 B dX11_tick_23 0 rfl ?_
        refine V_get 24 B gf_RX11_10 0 rfl rfl dX11_tick_24 ?_
        refine V_get 27 B gf_RX11_129 1 rfl rfl dX11_tick_27 ?_
        refine V_iload_n 30 B dX11_tick_30 1 rfl ?_
        refine V_gvi 31 B envX EB (st := []) (As := [.int p10]) (fun sz => sX8_passTicks_1 l D Y h2 g18 p2 p3 p4 p5 p6 p7 p8 p9 p10 sz) glV_RX11_364 ⟨rfl, rfl⟩ ⟨(Nat.le_of_ble_eq_true rfl), (Nat.le_of_ble_eq_true rfl)⟩ ⟨(Nat.le_of_ble_eq_true rfl), (Nat.le_of_ble_eq_true rfl)⟩ [2] rfl 9 0 rfl rfl rfl rfl (Nat.le_of_ble_eq_true rfl) rfl (fun _ _ _ => rfl) dX11_tick_31 (fun j2 u3 w4 => ?_)
        refine V_ws [(h0, oC 12 [.ref h1, .ref g0, .ref g1, .ref g2, .ref g3, .ref g4, .ref g5, .ref g6, .ref g7, .long p0]), (h1, oC 2 [.ref g8, .ref g9, .ref g10, .ref g11, .ref g12, .ref g13, .ref g14, .ref g15, .ref g16, .ref g17, .ref h2, .int p1]), (h2, oC 9 [.ref g18, .int p2, .long (u3.2.1 0), .int p4, .int (u3.1 0), .int p6, .int (u3.1 1), .int p8, .int p9])] rfl ?_
        refine V_xret ?_
        refine V_widen (k := 1) (n := 6) (Nat.le_of_ble_eq_true rfl) (Nat.le_of_ble_eq_true rfl) ?_
        exact V_iret 34 B dX11_tick_34 (mkU [(u3.1 0), (u3.1 1)] [(u3.2.1 0)] [] [] []) trivial rfl
      ·
        exact V_throwSW 12 B EB hl9 gt_RX11_190_362_194 hout dX11_tick_12 dX11_tick_15 dX11_tick_16 dX11_tick_19 dX11_tick_22 (Nat.le_of_ble_eq_true rfl) (Nat.le_of_ble_eq_true rfl) (Nat.le_of_ble_eq_true rfl) (Nat.le_of_ble_eq_true rfl) (Nat.le_of_ble_eq_true rfl) (Nat.le_of_ble_eq_true rfl) (mkU [p5, p7] [p3] [] [] []) rfl rfl)
theorem dX11_typing_0 : decode cX11_typing 0 = .ok (.iload_n 1, 1) := by decide +kernel
theorem dX11_typing_1 : decode cX11_typing 1 = .ok (.tableswitch 101 0 4 #[35, 46, 57, 68, 79], 35) := by decide +kernel
theorem dX11_typing_36 : decode cX11_typing 36 = .ok (.aload_n 0, 1) := by decide +kernel
theorem dX11_typing_37 : decode cX11_typing 37 = .ok (.getfield 10, 3) := by decide +kernel
theorem dX11_typing_40 : decode cX11_typing 40 = .ok (.getfield 129, 3) := by decide +kernel
theorem dX11_typing_43 : decode cX11_typing 43 = .ok (.getfield 367, 3) := by decide +kernel
theorem gf_RX11_367 : GF RX11 367 9 1 := ⟨RX8, TX8, 9, rfl, inw_X8, Nat.le_of_ble_eq_true rfl, (mT1 114 rfl rfl)⟩
theorem dX11_typing_46 : decode cX11_typing 46 = .ok (.ireturn, 1) := by decide +kernel
theorem dX11_typing_47 : decode cX11_typing 47 = .ok (.aload_n 0, 1) := by decide +kernel
theorem dX11_typing_48 : decode cX11_typing 48 = .ok (.getfield 10, 3) := by decide +kernel
theorem dX11_typing_51 : decode cX11_typing 51 = .ok (.getfield 129, 3) := by decide +kernel
theorem dX11_typing_54 : decode cX11_typing 54 = .ok (.getfield 370, 3) := by decide +kernel
theorem gf_RX11_370 : GF RX11 370 9 3 := ⟨RX8, TX8, 9, rfl, inw_X8, Nat.le_of_ble_eq_true rfl, (mT1 120 rfl rfl)⟩
theorem dX11_typing_57 : decode cX11_typing 57 = .ok (.ireturn, 1) := by decide +kernel
theorem dX11_typing_58 : decode cX11_typing 58 = .ok (.aload_n 0, 1) := by decide +kernel
theorem dX11_typing_59 : decode cX11_typing 59 = .ok (.getfield 10, 3) := by decide +kernel
theorem dX11_typing_62 : decode cX11_typing 62 = .ok (.getfield 129, 3) := by decide +kernel
theorem dX11_typing_65 : decode cX11_typing 65 = .ok (.getfield 373, 3) := by decide +kernel
theorem gf_RX11_373 : GF RX11 373 9 4 := ⟨RX8, TX8, 9, rfl, inw_X8, Nat.le_of_ble_eq_true rfl, (mT1 123 rfl rfl)⟩
theorem dX11_typing_68 : decode cX11_typing 68 = .ok (.ireturn, 1) := by decide +kernel
theorem dX11_typing_69 : decode cX11_typing 69 = .ok (.aload_n 0, 1) := by decide +kernel
theorem dX11_typing_70 : decode cX11_typing 70 = .ok (.getfield 10, 3) := by decide +kernel
theorem dX11_typing_73 : decode cX11_typing 73 = .ok (.getfield 129, 3) := by decide +kernel
theorem dX11_typing_76 : decode cX11_typing 76 = .ok (.getfield 376, 3) := by decide +kernel
theorem gf_RX11_376 : GF RX11 376 9 5 := ⟨RX8, TX8, 9, rfl, inw_X8, Nat.le_of_ble_eq_true rfl, (mT1 126 rfl rfl)⟩
theorem dX11_typing_79 : decode cX11_typing 79 = .ok (.ireturn, 1) := by decide +kernel
theorem dX11_typing_80 : decode cX11_typing 80 = .ok (.aload_n 0, 1) := by decide +kernel
theorem dX11_typing_81 : decode cX11_typing 81 = .ok (.getfield 10, 3) := by decide +kernel
theorem dX11_typing_84 : decode cX11_typing 84 = .ok (.getfield 129, 3) := by decide +kernel
theorem dX11_typing_87 : decode cX11_typing 87 = .ok (.getfield 144, 3) := by decide +kernel
theorem dX11_typing_90 : decode cX11_typing 90 = .ok (.aload_n 0, 1) := by decide +kernel
theorem dX11_typing_91 : decode cX11_typing 91 = .ok (.getfield 10, 3) := by decide +kernel
theorem dX11_typing_94 : decode cX11_typing 94 = .ok (.getfield 129, 3) := by decide +kernel
theorem dX11_typing_97 : decode cX11_typing 97 = .ok (.getfield 379, 3) := by decide +kernel
theorem gf_RX11_379 : GF RX11 379 9 7 := ⟨RX8, TX8, 9, rfl, inw_X8, Nat.le_of_ble_eq_true rfl, (mT1 132 rfl rfl)⟩
theorem dX11_typing_100 : decode cX11_typing 100 = .ok (.isub, 1) := by decide +kernel
theorem dX11_typing_101 : decode cX11_typing 101 = .ok (.ireturn, 1) := by decide +kernel
theorem sw_out_0_4 {x : Int32} (h0 : ¬ x = 0) (h1 : ¬ x = 1) (h2 : ¬ x = 2) (h3 : ¬ x = 3) (h4 : ¬ x = 4) : x.toInt < 0 ∨ 4 < x.toInt := by
  have e0 := neT (n := 0) h0 (by decide +kernel)
  have e1 := neT (n := 1) h1 (by decide +kernel)
  have e2 := neT (n := 2) h2 (by decide +kernel)
  have e3 := neT (n := 3) h3 (by decide +kernel)
  have e4 := neT (n := 4) h4 (by decide +kernel)
  omega
theorem dX11_typing_102 : decode cX11_typing 102 = .ok (.iconst (-1), 1) := by decide +kernel
theorem dX11_typing_103 : decode cX11_typing 103 = .ok (.ireturn, 1) := by decide +kernel
set_option maxRecDepth 100000 in
set_option maxHeartbeats 4000000 in
theorem sX11_typing_1 (l : Launch) (D : va_G) (Y : Nat → ClassId) (h0 : Nat) (h1 : Nat) (h2 : Nat) (g0 : Nat) (g1 : Nat) (g2 : Nat) (g3 : Nat) (g4 : Nat) (g5 : Nat) (g6 : Nat) (g7 : Nat) (g8 : Nat) (g9 : Nat) (g10 : Nat) (g11 : Nat) (g12 : Nat) (g13 : Nat) (g14 : Nat) (g15 : Nat) (g16 : Nat) (g17 : Nat) (g18 : Nat) (p0 : Int64) (p1 : Int32) (p2 : Int32) (p3 : Int64) (p4 : Int32) (p5 : Int32) (p6 : Int32) (p7 : Int32) (p8 : Int32) (p9 : Int32) (p10 : Int32) (sz : Nat) : Met l yX11_typing (WSm yX11_typing cX11_typing 2 (some .int)) (mkR 0 0 0 0) (PreG EX D Y [.ref h0, .int p10] [(h0, oC 12 [.ref h1, .ref g0, .ref g1, .ref g2, .ref g3, .ref g4, .ref g5, .ref g6, .ref g7, .long p0]), (h1, oC 2 [.ref g8, .ref g9, .ref g10, .ref g11, .ref g12, .ref g13, .ref g14, .ref g15, .ref g16, .ref g17, .ref h2, .int p1]), (h2, oC 9 [.ref g18, .int p2, .long p3, .int p4, .int p5, .int p6, .int p7, .int p8, .int p9])] sz) (QI D (fun (_ : Int32) (_ : UU) => True) (fun (u : UU) => [(h0, oC 12 [.ref h1, .ref g0, .ref g1, .ref g2, .ref g3, .ref g4, .ref g5, .ref g6, .ref g7, .long p0]), (h1, oC 2 [.ref g8, .ref g9, .ref g10, .ref g11, .ref g12, .ref g13, .ref g14, .ref g15, .ref g16, .ref g17, .ref h2, .int p1]), (h2, oC 9 [.ref g18, .int p2, .long p3, .int p4, .int p5, .int p6, .int p7, .int p8, .int p9])]) (va_A [(h0, oC 12 [.ref h1, .ref g0, .ref g1, .ref g2, .ref g3, .ref g4, .ref g5, .ref g6, .ref g7, .long p0]), (h1, oC 2 [.ref g8, .ref g9, .ref g10, .ref g11, .ref g12, .ref g13, .ref g14, .ref g15, .ref g16, .ref g17, .ref h2, .int p1]), (h2, oC 9 [.ref g18, .int p2, .long p3, .int p4, .int p5, .int p6, .int p7, .int p8, .int p9])] sz)) 0 0 (va_A [(h0, oC 12 [.ref h1, .ref g0, .ref g1, .ref g2, .ref g3, .ref g4, .ref g5, .ref g6, .ref g7, .long p0]), (h1, oC 2 [.ref g8, .ref g9, .ref g10, .ref g11, .ref g12, .ref g13, .ref g14, .ref g15, .ref g16, .ref g17, .ref h2, .int p1]), (h2, oC 9 [.ref g18, .int p2, .long p3, .int p4, .int p5, .int p6, .int p7, .int p8, .int p9])] sz) :=
  gmet_of (by decide +kernel) (Nat.le_of_ble_eq_true rfl) (fun p e s m args below meth c B EB hsz => by
    have B : VB p s m args meth c D Y (va_A [(h0, oC 12 [.ref h1, .ref g0, .ref g1, .ref g2, .ref g3, .ref g4, .ref g5, .ref g6, .ref g7, .long p0]), (h1, oC 2 [.ref g8, .ref g9, .ref g10, .ref g11, .ref g12, .ref g13, .ref g14, .ref g15, .ref g16, .ref g17, .ref h2, .int p1]), (h2, oC 9 [.ref g18, .int p2, .long p3, .int p4, .int p5, .int p6, .int p7, .int p8, .int p9])] sz) cX11_typing 2 RX11 (some .int) := B
    refine V_iload_n 0 B dX11_typing_0 1 rfl ?_
    by_cases k0 : p10 = 0
    ·
      refine V_eqi _ 0 k0 ?_
      refine V_tableIn 1 B 36 dX11_typing_1 (by decide +kernel) (by decide +kernel) (off := 35) (by decide +kernel) (by decide) ?_
      refine V_aload_n 36 B dX11_typing_36 0 rfl ?_
      refine V_get 37 B gf_RX11_10 0 rfl rfl dX11_typing_37 ?_
      refine V_get 40 B gf_RX11_129 1 rfl rfl dX11_typing_40 ?_
      refine V_get 43 B gf_RX11_367 2 rfl rfl dX11_typing_43 ?_
      exact V_iret 46 B dX11_typing_46 (mkU [] [] [] [] []) trivial rfl
    ·
      by_cases k1 : p10 = 1
      ·
        refine V_eqi _ 1 k1 ?_
        refine V_tableIn 1 B 47 dX11_typing_1 (by decide +kernel) (by decide +kernel) (off := 46) (by decide +kernel) (by decide) ?_
        refine V_aload_n 47 B dX11_typing_47 0 rfl ?_
        refine V_get 48 B gf_RX11_10 0 rfl rfl dX11_typing_48 ?_
        refine V_get 51 B gf_RX11_129 1 rfl rfl dX11_typing_51 ?_
        refine V_get 54 B gf_RX11_370 2 rfl rfl dX11_typing_54 ?_
        exact V_iret 57 B dX11_typing_57 (mkU [] [] [] [] []) trivial rfl
      ·
        by_cases k2 : p10 = 2
        ·
          refine V_eqi _ 2 k2 ?_
          refine V_tableIn 1 B 58 dX11_typing_1 (by decide +kernel) (by decide +kernel) (off := 57) (by decide +kernel) (by decide) ?_
          refine V_aload_n 58 B dX11_typing_58 0 rfl ?_
          refine V_get 59 B gf_RX11_10 0 rfl rfl dX11_typing_59 ?_
          refine V_get 62 B gf_RX11_129 1 rfl rfl dX11_typing_62 ?_
          refine V_get 65 B gf_RX11_373 2 rfl rfl dX11_typing_65 ?_
          exact V_iret 68 B dX11_typing_68 (mkU [] [] [] [] []) trivial rfl
        ·
          by_cases k3 : p10 = 3
          ·
            refine V_eqi _ 3 k3 ?_
            refine V_tableIn 1 B 69 dX11_typing_1 (by decide +kernel) (by decide +kernel) (off := 68) (by decide +kernel) (by decide) ?_
            refine V_aload_n 69 B dX11_typing_69 0 rfl ?_
            refine V_get 70 B gf_RX11_10 0 rfl rfl dX11_typing_70 ?_
            refine V_get 73 B gf_RX11_129 1 rfl rfl dX11_typing_73 ?_
            refine V_get 76 B gf_RX11_376 2 rfl rfl dX11_typing_76 ?_
            exact V_iret 79 B dX11_typing_79 (mkU [] [] [] [] []) trivial rfl
          ·
            by_cases k4 : p10 = 4
            ·
              refine V_eqi _ 4 k4 ?_
              refine V_tableIn 1 B 80 dX11_typing_1 (by decide +kernel) (by decide +kernel) (off := 79) (by decide +kernel) (by decide) ?_
              refine V_aload_n 80 B dX11_typing_80 0 rfl ?_
              refine V_get 81 B gf_RX11_10 0 rfl rfl dX11_typing_81 ?_
              refine V_get 84 B gf_RX11_129 1 rfl rfl dX11_typing_84 ?_
              refine V_get 87 B gf_RX11_144 2 rfl rfl dX11_typing_87 ?_
              refine V_aload_n 90 B dX11_typing_90 0 rfl ?_
              refine V_get 91 B gf_RX11_10 0 rfl rfl dX11_typing_91 ?_
              refine V_get 94 B gf_RX11_129 1 rfl rfl dX11_typing_94 ?_
              refine V_get 97 B gf_RX11_379 2 rfl rfl dX11_typing_97 ?_
              refine V_isub 100 B dX11_typing_100 rfl ?_
              refine V_nmi (fun j5 _ => ?_)
              exact V_iret 101 B dX11_typing_101 (mkU [] [] [] [] []) trivial rfl
            ·
              refine V_tableOut 1 B 102 dX11_typing_1 (sw_out_0_4 k0 k1 k2 k3 k4) (by decide) ?_
              refine V_iconst 102 B (v := (-1)) dX11_typing_102 (by decide +kernel) ?_
              exact V_iret 103 B dX11_typing_103 (mkU [] [] [] [] []) trivial rfl)
theorem dX11_pending_0 : decode cX11_pending 0 = .ok (.aload_n 0, 1) := by decide +kernel
theorem dX11_pending_1 : decode cX11_pending 1 = .ok (.getfield 10, 3) := by decide +kernel
theorem dX11_pending_4 : decode cX11_pending 4 = .ok (.getfield 129, 3) := by decide +kernel
theorem dX11_pending_7 : decode cX11_pending 7 = .ok (.getfield 133, 3) := by decide +kernel
theorem dX11_pending_10 : decode cX11_pending 10 = .ok (.iload_n 1, 1) := by decide +kernel
theorem dX11_pending_11 : decode cX11_pending 11 = .ok (.invokestatic 163, 3) := by decide +kernel
theorem dX11_pending_14 : decode cX11_pending 14 = .ok (.ireturn, 1) := by decide +kernel
set_option maxRecDepth 100000 in
set_option maxHeartbeats 4000000 in
theorem sX11_pending_1 (l : Launch) (D : va_G) (Y : Nat → ClassId) (h0 : Nat) (h1 : Nat) (h2 : Nat) (g0 : Nat) (g1 : Nat) (g2 : Nat) (g3 : Nat) (g4 : Nat) (g5 : Nat) (g6 : Nat) (g7 : Nat) (g8 : Nat) (g9 : Nat) (g10 : Nat) (g11 : Nat) (g12 : Nat) (g13 : Nat) (g14 : Nat) (g15 : Nat) (g16 : Nat) (g17 : Nat) (g18 : Nat) (p0 : Int64) (p1 : Int32) (p2 : Int32) (p3 : Int64) (p4 : Int32) (p5 : Int32) (p6 : Int32) (p7 : Int32) (p8 : Int32) (p9 : Int32) (p10 : Int32) (sz : Nat) : Met l yX11_pending (WSm yX11_pending cX11_pending 2 (some .int)) (mkR 1 0 0 22) (PreG EX D Y [.ref h0, .int p10] [(h0, oC 12 [.ref h1, .ref g0, .ref g1, .ref g2, .ref g3, .ref g4, .ref g5, .ref g6, .ref g7, .long p0]), (h1, oC 2 [.ref g8, .ref g9, .ref g10, .ref g11, .ref g12, .ref g13, .ref g14, .ref g15, .ref g16, .ref g17, .ref h2, .int p1]), (h2, oC 9 [.ref g18, .int p2, .long p3, .int p4, .int p5, .int p6, .int p7, .int p8, .int p9])] sz) (QI D (fun (_ : Int32) (_ : UU) => True) (fun (u : UU) => [(h0, oC 12 [.ref h1, .ref g0, .ref g1, .ref g2, .ref g3, .ref g4, .ref g5, .ref g6, .ref g7, .long p0]), (h1, oC 2 [.ref g8, .ref g9, .ref g10, .ref g11, .ref g12, .ref g13, .ref g14, .ref g15, .ref g16, .ref g17, .ref h2, .int p1]), (h2, oC 9 [.ref g18, .int p2, .long p3, .int p4, .int p5, .int p6, .int p7, .int p8, .int p9])]) (va_A [(h0, oC 12 [.ref h1, .ref g0, .ref g1, .ref g2, .ref g3, .ref g4, .ref g5, .ref g6, .ref g7, .long p0]), (h1, oC 2 [.ref g8, .ref g9, .ref g10, .ref g11, .ref g12, .ref g13, .ref g14, .ref g15, .ref g16, .ref g17, .ref h2, .int p1]), (h2, oC 9 [.ref g18, .int p2, .long p3, .int p4, .int p5, .int p6, .int p7, .int p8, .int p9])] sz)) 0 0 (va_A [(h0, oC 12 [.ref h1, .ref g0, .ref g1, .ref g2, .ref g3, .ref g4, .ref g5, .ref g6, .ref g7, .long p0]), (h1, oC 2 [.ref g8, .ref g9, .ref g10, .ref g11, .ref g12, .ref g13, .ref g14, .ref g15, .ref g16, .ref g17, .ref h2, .int p1]), (h2, oC 9 [.ref g18, .int p2, .long p3, .int p4, .int p5, .int p6, .int p7, .int p8, .int p9])] sz) :=
  gmet_of (by decide +kernel) (Nat.le_of_ble_eq_true rfl) (fun p e s m args below meth c B EB hsz => by
    have B : VB p s m args meth c D Y (va_A [(h0, oC 12 [.ref h1, .ref g0, .ref g1, .ref g2, .ref g3, .ref g4, .ref g5, .ref g6, .ref g7, .long p0]), (h1, oC 2 [.ref g8, .ref g9, .ref g10, .ref g11, .ref g12, .ref g13, .ref g14, .ref g15, .ref g16, .ref g17, .ref h2, .int p1]), (h2, oC 9 [.ref g18, .int p2, .long p3, .int p4, .int p5, .int p6, .int p7, .int p8, .int p9])] sz) cX11_pending 2 RX11 (some .int) := B
    refine V_aload_n 0 B dX11_pending_0 0 rfl ?_
    refine V_get 1 B gf_RX11_10 0 rfl rfl dX11_pending_1 ?_
    refine V_get 4 B gf_RX11_129 1 rfl rfl dX11_pending_4 ?_
    refine V_get 7 B gf_RX11_133 2 rfl rfl dX11_pending_7 ?_
    refine V_iload_n 10 B dX11_pending_10 1 rfl ?_
    refine V_gsi 11 B envX EB (st := []) (As := [.long p3, .int p10]) (fun sz => sX6_strokeAt_1 l D Y  p3 p10 sz) glS_RX11_163 ⟨rfl, rfl⟩ ⟨(Nat.le_of_ble_eq_true rfl), (Nat.le_of_ble_eq_true rfl)⟩ ⟨(Nat.le_of_ble_eq_true rfl), (Nat.le_of_ble_eq_true rfl)⟩ [] rfl rfl (Nat.le_of_ble_eq_true rfl) rfl (fun _ _ _ => rfl) dX11_pending_11 (fun j0 u1 w2 => ?_)
    refine V_ws [(h0, oC 12 [.ref h1, .ref g0, .ref g1, .ref g2, .ref g3, .ref g4, .ref g5, .ref g6, .ref g7, .long p0]), (h1, oC 2 [.ref g8, .ref g9, .ref g10, .ref g11, .ref g12, .ref g13, .ref g14, .ref g15, .ref g16, .ref g17, .ref h2, .int p1]), (h2, oC 9 [.ref g18, .int p2, .long p3, .int p4, .int p5, .int p6, .int p7, .int p8, .int p9])] rfl ?_
    exact V_iret 14 B dX11_pending_14 (mkU [] [] [] [] []) trivial rfl)
theorem dX11_backTo_0 : decode cX11_backTo 0 = .ok (.iload_n 1, 1) := by decide +kernel
theorem dX11_backTo_1 : decode cX11_backTo 1 = .ok (.ifCond .ge 5, 3) := by decide +kernel
theorem dX11_backTo_6 : decode cX11_backTo 6 = .ok (.aload_n 0, 1) := by decide +kernel
theorem dX11_backTo_7 : decode cX11_backTo 7 = .ok (.getfield 10, 3) := by decide +kernel
theorem dX11_backTo_10 : decode cX11_backTo 10 = .ok (.getfield 129, 3) := by decide +kernel
theorem dX11_backTo_13 : decode cX11_backTo 13 = .ok (.getfield 147, 3) := by decide +kernel
theorem dX11_backTo_16 : decode cX11_backTo 16 = .ok (.aload_n 0, 1) := by decide +kernel
theorem dX11_backTo_17 : decode cX11_backTo 17 = .ok (.getfield 10, 3) := by decide +kernel
theorem dX11_backTo_20 : decode cX11_backTo 20 = .ok (.getfield 129, 3) := by decide +kernel
theorem dX11_backTo_23 : decode cX11_backTo 23 = .ok (.getfield 147, 3) := by decide +kernel
theorem dX11_backTo_26 : decode cX11_backTo 26 = .ok (.invokevirtual 95, 3) := by decide +kernel
theorem dX11_backTo_29 : decode cX11_backTo 29 = .ok (.iconst 1, 1) := by decide +kernel
theorem dX11_backTo_30 : decode cX11_backTo 30 = .ok (.isub, 1) := by decide +kernel
theorem dX11_backTo_31 : decode cX11_backTo 31 = .ok (.iload_n 1, 1) := by decide +kernel
theorem dX11_backTo_32 : decode cX11_backTo 32 = .ok (.isub, 1) := by decide +kernel
theorem dX11_backTo_33 : decode cX11_backTo 33 = .ok (.invokevirtual 187, 3) := by decide +kernel
theorem dX11_backTo_36 : decode cX11_backTo 36 = .ok (.ireturn, 1) := by decide +kernel
theorem dX11_backTo_4 : decode cX11_backTo 4 = .ok (.iconst (-1), 1) := by decide +kernel
theorem dX11_backTo_5 : decode cX11_backTo 5 = .ok (.ireturn, 1) := by decide +kernel
set_option maxRecDepth 100000 in
set_option maxHeartbeats 4000000 in
theorem sX11_backTo_1 (l : Launch) (D : va_G) (Y : Nat → ClassId) (h0 : Nat) (h1 : Nat) (h2 : Nat) (h3 : Nat) (h4 : Nat) (g0 : Nat) (g1 : Nat) (g2 : Nat) (g3 : Nat) (g4 : Nat) (g5 : Nat) (g6 : Nat) (g7 : Nat) (g8 : Nat) (g9 : Nat) (g10 : Nat) (g11 : Nat) (g12 : Nat) (g13 : Nat) (g14 : Nat) (g15 : Nat) (g16 : Nat) (g17 : Nat) (p0 : Int64) (p1 : Int32) (p2 : Int32) (p3 : Int64) (p4 : Int32) (p5 : Int32) (p6 : Int32) (p7 : Int32) (p8 : Int32) (p9 : Int32) (p10 : Int32) (f0 : Nat → Int32) (p11 : Int32) (sz : Nat) : Met l yX11_backTo (WSm yX11_backTo cX11_backTo 2 (some .int)) (mkR 1 0 0 21) (PreG EX D Y [.ref h0, .int p11] [(h0, oC 12 [.ref h1, .ref g0, .ref g1, .ref g2, .ref g3, .ref g4, .ref g5, .ref g6, .ref g7, .long p0]), (h1, oC 2 [.ref g8, .ref g9, .ref g10, .ref g11, .ref g12, .ref g13, .ref g14, .ref g15, .ref g16, .ref g17, .ref h2, .int p1]), (h2, oC 9 [.ref h3, .int p2, .long p3, .int p4, .int p5, .int p6, .int p7, .int p8, .int p9]), (h3, oC 3 [.ref h4, .int p10]), (h4, aI Y 8 f0)] sz) (QI D (fun (_ : Int32) (_ : UU) => True) (fun (u : UU) => [(h0, oC 12 [.ref h1, .ref g0, .ref g1, .ref g2, .ref g3, .ref g4, .ref g5, .ref g6, .ref g7, .long p0]), (h1, oC 2 [.ref g8, .ref g9, .ref g10, .ref g11, .ref g12, .ref g13, .ref g14, .ref g15, .ref g16, .ref g17, .ref h2, .int p1]), (h2, oC 9 [.ref h3, .int p2, .long p3, .int p4, .int p5, .int p6, .int p7, .int p8, .int p9]), (h3, oC 3 [.ref h4, .int p10]), (h4, aI Y 8 f0)]) (va_A [(h0, oC 12 [.ref h1, .ref g0, .ref g1, .ref g2, .ref g3, .ref g4, .ref g5, .ref g6, .ref g7, .long p0]), (h1, oC 2 [.ref g8, .ref g9, .ref g10, .ref g11, .ref g12, .ref g13, .ref g14, .ref g15, .ref g16, .ref g17, .ref h2, .int p1]), (h2, oC 9 [.ref h3, .int p2, .long p3, .int p4, .int p5, .int p6, .int p7, .int p8, .int p9]), (h3, oC 3 [.ref h4, .int p10]), (h4, aI Y 8 f0)] sz)) 0 0 (va_A [(h0, oC 12 [.ref h1, .ref g0, .ref g1, .ref g2, .ref g3, .ref g4, .ref g5, .ref g6, .ref g7, .long p0]), (h1, oC 2 [.ref g8, .ref g9, .ref g10, .ref g11, .ref g12, .ref g13, .ref g14, .ref g15, .ref g16, .ref g17, .ref h2, .int p1]), (h2, oC 9 [.ref h3, .int p2, .long p3, .int p4, .int p5, .int p6, .int p7, .int p8, .int p9]), (h3, oC 3 [.ref h4, .int p10]), (h4, aI Y 8 f0)] sz) :=
  gmet_of (by decide +kernel) (Nat.le_of_ble_eq_true rfl) (fun p e s m args below meth c B EB hsz => by
    have B : VB p s m args meth c D Y (va_A [(h0, oC 12 [.ref h1, .ref g0, .ref g1, .ref g2, .ref g3, .ref g4, .ref g5, .ref g6, .ref g7, .long p0]), (h1, oC 2 [.ref g8, .ref g9, .ref g10, .ref g11, .ref g12, .ref g13, .ref g14, .ref g15, .ref g16, .ref g17, .ref h2, .int p1]), (h2, oC 9 [.ref h3, .int p2, .long p3, .int p4, .int p5, .int p6, .int p7, .int p8, .int p9]), (h3, oC 3 [.ref h4, .int p10]), (h4, aI Y 8 f0)] sz) cX11_backTo 2 RX11 (some .int) := B
    refine V_iload_n 0 B dX11_backTo_0 1 rfl ?_
    refine V_if_ge 1 B 6 dX11_backTo_1 (by decide) (fun k0 => ?_) (fun k0 => ?_)
    ·
      refine V_aload_n 6 B dX11_backTo_6 0 rfl ?_
      refine V_get 7 B gf_RX11_10 0 rfl rfl dX11_backTo_7 ?_
      refine V_get 10 B gf_RX11_129 1 rfl rfl dX11_backTo_10 ?_
      refine V_get 13 B gf_RX11_147 2 rfl rfl dX11_backTo_13 ?_
      refine V_aload_n 16 B dX11_backTo_16 0 rfl ?_
      refine V_get 17 B gf_RX11_10 0 rfl rfl dX11_backTo_17 ?_
      refine V_get 20 B gf_RX11_129 1 rfl rfl dX11_backTo_20 ?_
      refine V_get 23 B gf_RX11_147 2 rfl rfl dX11_backTo_23 ?_
      refine V_gvi 26 B envX EB (st := [.ref h3]) (As := []) (fun sz => sX1_size_1 l D Y h3 h4 p10 sz) glV_RX11_95 ⟨rfl, rfl⟩ ⟨(Nat.le_of_ble_eq_true rfl), (Nat.le_of_ble_eq_true rfl)⟩ ⟨(Nat.le_of_ble_eq_true rfl), (Nat.le_of_ble_eq_true rfl)⟩ [3] rfl 3 0 rfl rfl rfl rfl (Nat.le_of_ble_eq_true rfl) rfl (fun _ _ _ => rfl) dX11_backTo_26 (fun j1 u2 w3 => ?_)
      refine V_ws [(h0, oC 12 [.ref h1, .ref g0, .ref g1, .ref g2, .ref g3, .ref g4, .ref g5, .ref g6, .ref g7, .long p0]), (h1, oC 2 [.ref g8, .ref g9, .ref g10, .ref g11, .ref g12, .ref g13, .ref g14, .ref g15, .ref g16, .ref g17, .ref h2, .int p1]), (h2, oC 9 [.ref h3, .int p2, .long p3, .int p4, .int p5, .int p6, .int p7, .int p8, .int p9]), (h3, oC 3 [.ref h4, .int p10]), (h4, aI Y 8 f0)] rfl ?_
      refine V_iconst 29 B (v := 1) dX11_backTo_29 (by decide +kernel) ?_
      refine V_isub 30 B dX11_backTo_30 rfl ?_
      refine V_nmi (fun j4 _ => ?_)
      refine V_iload_n 31 B dX11_backTo_31 1 rfl ?_
      refine V_isub 32 B dX11_backTo_32 rfl ?_
      refine V_nmi (fun j5 _ => ?_)
      refine V_gvi 33 B envX EB (st := []) (As := [.int j5]) (fun sz => sX1_at_7 l D Y h3 h4 p10 f0 j5 sz) glV_RX11_187 ⟨rfl, rfl⟩ ⟨(Nat.le_of_ble_eq_true rfl), (Nat.le_of_ble_eq_true rfl)⟩ ⟨(Nat.le_of_ble_eq_true rfl), (Nat.le_of_ble_eq_true rfl)⟩ [3, 0] rfl 3 0 rfl rfl rfl rfl (Nat.le_of_ble_eq_true rfl) rfl (fun _ _ _ => rfl) dX11_backTo_33 (fun j6 u7 w8 => ?_)
      refine V_ws [(h0, oC 12 [.ref h1, .ref g0, .ref g1, .ref g2, .ref g3, .ref g4, .ref g5, .ref g6, .ref g7, .long p0]), (h1, oC 2 [.ref g8, .ref g9, .ref g10, .ref g11, .ref g12, .ref g13, .ref g14, .ref g15, .ref g16, .ref g17, .ref h2, .int p1]), (h2, oC 9 [.ref h3, .int p2, .long p3, .int p4, .int p5, .int p6, .int p7, .int p8, .int p9]), (h3, oC 3 [.ref h4, .int p10]), (h4, aI Y 8 f0)] rfl ?_
      exact V_iret 36 B dX11_backTo_36 (mkU [] [] [] [] []) trivial rfl
    ·
      refine V_iconst 4 B (v := (-1)) dX11_backTo_4 (by decide +kernel) ?_
      exact V_iret 5 B dX11_backTo_5 (mkU [] [] [] [] []) trivial rfl)
theorem dX11_setTimeout_0 : decode cX11_setTimeout 0 = .ok (.iload_n 1, 1) := by decide +kernel
theorem dX11_setTimeout_1 : decode cX11_setTimeout 1 = .ok (.ifCond .lt 10, 3) := by decide +kernel
theorem dX11_setTimeout_11 : decode cX11_setTimeout 11 = .ok (.new 190, 3) := by decide +kernel
theorem gt_RX11_190_382_194 : GT RX11 190 382 194 "java/lang/IllegalArgumentException" "no such timeout" ["java/lang/RuntimeException", "java/lang/Exception"] := ⟨rfl, (mT5 31 rfl rfl), (mT1 22 rfl rfl), List.mem_of_getElem? (i := 7) rfl, by decide +kernel, by decide +kernel, List.mem_of_getElem? (i := 0) rfl, gta_194⟩
theorem dX11_setTimeout_14 : decode cX11_setTimeout 14 = .ok (.dup, 1) := by decide +kernel
theorem dX11_setTimeout_15 : decode cX11_setTimeout 15 = .ok (.ldc_w 382, 3) := by decide +kernel
theorem dX11_setTimeout_18 : decode cX11_setTimeout 18 = .ok (.invokespecial 194, 3) := by decide +kernel
theorem dX11_setTimeout_21 : decode cX11_setTimeout 21 = .ok (.athrow, 1) := by decide +kernel
theorem dX11_setTimeout_4 : decode cX11_setTimeout 4 = .ok (.iload_n 1, 1) := by decide +kernel
theorem dX11_setTimeout_5 : decode cX11_setTimeout 5 = .ok (.sipush 1000, 3) := by decide +kernel
theorem dX11_setTimeout_8 : decode cX11_setTimeout 8 = .ok (.if_icmp .lt 14, 3) := by decide +kernel
theorem dX11_setTimeout_22 : decode cX11_setTimeout 22 = .ok (.aload_n 0, 1) := by decide +kernel
theorem dX11_setTimeout_23 : decode cX11_setTimeout 23 = .ok (.getfield 10, 3) := by decide +kernel
theorem dX11_setTimeout_26 : decode cX11_setTimeout 26 = .ok (.getfield 129, 3) := by decide +kernel
theorem dX11_setTimeout_29 : decode cX11_setTimeout 29 = .ok (.getfield 153, 3) := by decide +kernel
theorem dX11_setTimeout_32 : decode cX11_setTimeout 32 = .ok (.istore_n 2, 1) := by decide +kernel
theorem dX11_setTimeout_33 : decode cX11_setTimeout 33 = .ok (.aload_n 0, 1) := by decide +kernel
theorem dX11_setTimeout_34 : decode cX11_setTimeout 34 = .ok (.getfield 10, 3) := by decide +kernel
theorem dX11_setTimeout_37 : decode cX11_setTimeout 37 = .ok (.getfield 129, 3) := by decide +kernel
theorem dX11_setTimeout_40 : decode cX11_setTimeout 40 = .ok (.iload_n 1, 1) := by decide +kernel
theorem dX11_setTimeout_41 : decode cX11_setTimeout 41 = .ok (.putfield 153, 3) := by decide +kernel
theorem gp_RX11_153 : GP RX11 153 9 8 .int false := ⟨RX8, TX8, 9, ⟨rfl, inw_X8, Nat.le_of_ble_eq_true rfl, (mT1 134 rfl rfl)⟩, ⟨tyX8, tyX8_ok⟩, nmX8, rfl, by decide +kernel, fun h => nomatch h⟩
theorem dX11_setTimeout_44 : decode cX11_setTimeout 44 = .ok (.aload_n 0, 1) := by decide +kernel
theorem dX11_setTimeout_45 : decode cX11_setTimeout 45 = .ok (.getfield 10, 3) := by decide +kernel
theorem dX11_setTimeout_48 : decode cX11_setTimeout 48 = .ok (.getfield 129, 3) := by decide +kernel
theorem dX11_setTimeout_51 : decode cX11_setTimeout 51 = .ok (.invokevirtual 384, 3) := by decide +kernel
theorem glV_RX11_384 : GLV RX11 384 yX8_dropLatePending RX8 cX8_dropLatePending 1 none 0 := ⟨⟨(mT7 96 rfl rfl), (mT4 179 rfl rfl), (mT4 180 rfl rfl), (mT1 7 rfl rfl), (mT4 181 rfl rfl)⟩, by decide +kernel⟩
theorem dX11_setTimeout_54 : decode cX11_setTimeout 54 = .ok (.iload_n 2, 1) := by decide +kernel
theorem dX11_setTimeout_55 : decode cX11_setTimeout 55 = .ok (.ireturn, 1) := by decide +kernel
set_option maxRecDepth 100000 in
set_option maxHeartbeats 4000000 in
theorem sX11_setTimeout_1 (l : Launch) (hl9 : l.stackTraces = false) (D : va_G) (Y : Nat → ClassId) (h0 : Nat) (h1 : Nat) (h2 : Nat) (g0 : Nat) (g1 : Nat) (g2 : Nat) (g3 : Nat) (g4 : Nat) (g5 : Nat) (g6 : Nat) (g7 : Nat) (g8 : Nat) (g9 : Nat) (g10 : Nat) (g11 : Nat) (g12 : Nat) (g13 : Nat) (g14 : Nat) (g15 : Nat) (g16 : Nat) (g17 : Nat) (g18 : Nat) (p0 : Int64) (p1 : Int32) (p2 : Int32) (p3 : Int64) (p4 : Int32) (p5 : Int32) (p6 : Int32) (p7 : Int32) (p8 : Int32) (p9 : Int32) (p10 : Int32) (sz : Nat) : vx_Met l yX11_setTimeout (WSm yX11_setTimeout cX11_setTimeout 3 (some .int)) (mkR 6 1 6 82) (PreX D Y [.ref h0, .int p10] [(h0, oC 12 [.ref h1, .ref g0, .ref g1, .ref g2, .ref g3, .ref g4, .ref g5, .ref g6, .ref g7, .long p0]), (h1, oC 2 [.ref g8, .ref g9, .ref g10, .ref g11, .ref g12, .ref g13, .ref g14, .ref g15, .ref g16, .ref g17, .ref h2, .int p1]), (h2, oC 9 [.ref g18, .int p2, .long p3, .int p4, .int p5, .int p6, .int p7, .int p8, .int p9])] sz) (QI D (fun (_ : Int32) (_ : UU) => True) (fun (u : UU) => [(h0, oC 12 [.ref h1, .ref g0, .ref g1, .ref g2, .ref g3, .ref g4, .ref g5, .ref g6, .ref g7, .long p0]), (h1, oC 2 [.ref g8, .ref g9, .ref g10, .ref g11, .ref g12, .ref g13, .ref g14, .ref g15, .ref g16, .ref g17, .ref h2, .int p1]), (h2, oC 9 [.ref g18, .int p2, .long (u.2.1 0), .int p4, .int (u.1 0), .int p6, .int p7, .int p8, .int (u.1 1)])]) (va_A [(h0, oC 12 [.ref h1, .ref g0, .ref g1, .ref g2, .ref g3, .ref g4, .ref g5, .ref g6, .ref g7, .long p0]), (h1, oC 2 [.ref g8, .ref g9, .ref g10, .ref g11, .ref g12, .ref g13, .ref g14, .ref g15, .ref g16, .ref g17, .ref h2, .int p1]), (h2, oC 9 [.ref g18, .int p2, .long p3, .int p4, .int p5, .int p6, .int p7, .int p8, .int p9])] sz)) (XW D (fun (E : String) (_ : UU) => E = "java/lang/IllegalArgumentException") (fun (u : UU) => [(h0, oC 12 [.ref h1, .ref g0, .ref g1, .ref g2, .ref g3, .ref g4, .ref g5, .ref g6, .ref g7, .long p0]), (h1, oC 2 [.ref g8, .ref g9, .ref g10, .ref g11, .ref g12, .ref g13, .ref g14, .ref g15, .ref g16, .ref g17, .ref h2, .int p1]), (h2, oC 9 [.ref g18, .int p2, .long (u.2.1 0), .int p4, .int (u.1 0), .int p6, .int p7, .int p8, .int (u.1 1)])]) (va_A [(h0, oC 12 [.ref h1, .ref g0, .ref g1, .ref g2, .ref g3, .ref g4, .ref g5, .ref g6, .ref g7, .long p0]), (h1, oC 2 [.ref g8, .ref g9, .ref g10, .ref g11, .ref g12, .ref g13, .ref g14, .ref g15, .ref g16, .ref g17, .ref h2, .int p1]), (h2, oC 9 [.ref g18, .int p2, .long p3, .int p4, .int p5, .int p6, .int p7, .int p8, .int p9])] sz)) 1 6 (va_A [(h0, oC 12 [.ref h1, .ref g0, .ref g1, .ref g2, .ref g3, .ref g4, .ref g5, .ref g6, .ref g7, .long p0]), (h1, oC 2 [.ref g8, .ref g9, .ref g10, .ref g11, .ref g12, .ref g13, .ref g14, .ref g15, .ref g16, .ref g17, .ref h2, .int p1]), (h2, oC 9 [.ref g18, .int p2, .long p3, .int p4, .int p5, .int p6, .int p7, .int p8, .int p9])] sz) :=
  xmet_of (by decide +kernel) (Nat.le_of_ble_eq_true rfl) (fun p e s m args below meth c B EB hout hsz => by
    have B : VB p s m args meth c D Y (va_A [(h0, oC 12 [.ref h1, .ref g0, .ref g1, .ref g2, .ref g3, .ref g4, .ref g5, .ref g6, .ref g7, .long p0]), (h1, oC 2 [.ref g8, .ref g9, .ref g10, .ref g11, .ref g12, .ref g13, .ref g14, .ref g15, .ref g16, .ref g17, .ref h2, .int p1]), (h2, oC 9 [.ref g18, .int p2, .long p3, .int p4, .int p5, .int p6, .int p7, .int p8, .int p9])] sz) cX11_setTimeout 3 RX11 (some .int) := B
    refine V_iload_n 0 B dX11_setTimeout_0 1 rfl ?_
    refine V_if_lt 1 B 11 dX11_setTimeout_1 (by decide) (fun k0 => ?_) (fun k0 => ?_)
    ·
      exact V_throwSW 11 B EB hl9 gt_RX11_190_382_194 hout dX11_setTimeout_11 dX11_setTimeout_14 dX11_setTimeout_15 dX11_setTimeout_18 dX11_setTimeout_21 (Nat.le_of_ble_eq_true rfl) (Nat.le_of_ble_eq_true rfl) (Nat.le_of_ble_eq_true rfl) (Nat.le_of_ble_eq_true rfl) (Nat.le_of_ble_eq_true rfl) (Nat.le_of_ble_eq_true rfl) (mkU [p5, p9] [p3] [] [] []) rfl rfl
    ·
      refine V_iload_n 4 B dX11_setTimeout_4 1 rfl ?_
      refine V_sipush 5 B (v := 1000) dX11_setTimeout_5 (by decide +kernel) ?_
      refine V_icmp_lt 8 B 22 dX11_setTimeout_8 (by decide) (fun k1 => ?_) (fun k1 => ?_)
      ·
        refine V_aload_n 22 B dX11_setTimeout_22 0 rfl ?_
        refine V_get 23 B gf_RX11_10 0 rfl rfl dX11_setTimeout_23 ?_
        refine V_get 26 B gf_RX11_129 1 rfl rfl dX11_setTimeout_26 ?_
        refine V_get 29 B gf_RX11_153 2 rfl rfl dX11_setTimeout_29 ?_
        refine V_istore_n 32 B (lv2 := [(2, .int p9), (0, .ref h0), (1, .int p10)]) dX11_setTimeout_32 (by decide) rfl ?_
        refine V_aload_n 33 B dX11_setTimeout_33 1 rfl ?_
        refine V_get 34 B gf_RX11_10 0 rfl rfl dX11_setTimeout_34 ?_
        refine V_get 37 B gf_RX11_129 1 rfl rfl dX11_setTimeout_37 ?_
        refine V_iload_n 40 B dX11_setTimeout_40 2 rfl ?_
        refine V_put 41 B gp_RX11_153 2 rfl (Nat.le_of_ble_eq_true rfl) rfl rfl dX11_setTimeout_41 [(h0, oC 12 [.ref h1, .ref g0, .ref g1, .ref g2, .ref g3, .ref g4, .ref g5, .ref g6, .ref g7, .long p0]), (h1, oC 2 [.ref g8, .ref g9, .ref g10, .ref g11, .ref g12, .ref g13, .ref g14, .ref g15, .ref g16, .ref g17, .ref h2, .int p1]), (h2, oC 9 [.ref g18, .int p2, .long p3, .int p4, .int p5, .int p6, .int p7, .int p8, .int p10])] rfl ?_
        refine V_aload_n 44 B dX11_setTimeout_44 1 rfl ?_
        refine V_get 45 B gf_RX11_10 0 rfl rfl dX11_setTimeout_45 ?_
        refine V_get 48 B gf_RX11_129 1 rfl rfl dX11_setTimeout_48 ?_
        refine V_gvv 51 B envX EB (st := []) (As := []) (fun sz => sX8_dropLatePending_1 l D Y h2 g18 p2 p3 p4 p5 p6 p7 p8 p10 sz) glV_RX11_384 ⟨rfl, rfl⟩ ⟨(Nat.le_of_ble_eq_true rfl), (Nat.le_of_ble_eq_true rfl)⟩ ⟨(Nat.le_of_ble_eq_true rfl), (Nat.le_of_ble_eq_true rfl)⟩ [2] rfl 9 0 rfl rfl rfl rfl (Nat.le_of_ble_eq_true rfl) rfl (fun _ _ => rfl) dX11_setTimeout_51 (fun u3 w4 => ?_)
        refine V_ws [(h0, oC 12 [.ref h1, .ref g0, .ref g1, .ref g2, .ref g3, .ref g4, .ref g5, .ref g6, .ref g7, .long p0]), (h1, oC 2 [.ref g8, .ref g9, .ref g10, .ref g11, .ref g12, .ref g13, .ref g14, .ref g15, .ref g16, .ref g17, .ref h2, .int p1]), (h2, oC 9 [.ref g18, .int p2, .long (u3.2.1 0), .int p4, .int (u3.1 0), .int p6, .int p7, .int p8, .int p10])] rfl ?_
        refine V_iload_n 54 B dX11_setTimeout_54 0 rfl ?_
        refine V_xret ?_
        refine V_widen (k := 1) (n := 6) (Nat.le_of_ble_eq_true rfl) (Nat.le_of_ble_eq_true rfl) ?_
        exact V_iret 55 B dX11_setTimeout_55 (mkU [(u3.1 0), p10] [(u3.2.1 0)] [] [] []) trivial rfl
      ·
        exact V_throwSW 11 B EB hl9 gt_RX11_190_382_194 hout dX11_setTimeout_11 dX11_setTimeout_14 dX11_setTimeout_15 dX11_setTimeout_18 dX11_setTimeout_21 (Nat.le_of_ble_eq_true rfl) (Nat.le_of_ble_eq_true rfl) (Nat.le_of_ble_eq_true rfl) (Nat.le_of_ble_eq_true rfl) (Nat.le_of_ble_eq_true rfl) (Nat.le_of_ble_eq_true rfl) (mkU [p5, p9] [p3] [] [] []) rfl rfl)
theorem dX11_wish_0 : decode cX11_wish 0 = .ok (.aload_n 0, 1) := by decide +kernel
theorem dX11_wish_1 : decode cX11_wish 1 = .ok (.getfield 68, 3) := by decide +kernel
theorem dX11_wish_4 : decode cX11_wish 4 = .ok (.lconst 0, 1) := by decide +kernel
theorem dX11_wish_5 : decode cX11_wish 5 = .ok (.lcmp, 1) := by decide +kernel
theorem dX11_wish_6 : decode cX11_wish 6 = .ok (.ifCond .ne 6, 3) := by decide +kernel
theorem dX11_wish_12 : decode cX11_wish 12 = .ok (.aload_n 0, 1) := by decide +kernel
theorem dX11_wish_13 : decode cX11_wish 13 = .ok (.getfield 10, 3) := by decide +kernel
theorem dX11_wish_16 : decode cX11_wish 16 = .ok (.getfield 150, 3) := by decide +kernel
theorem dX11_wish_19 : decode cX11_wish 19 = .ok (.aload_n 0, 1) := by decide +kernel
theorem dX11_wish_20 : decode cX11_wish 20 = .ok (.getfield 68, 3) := by decide +kernel
theorem dX11_wish_23 : decode cX11_wish 23 = .ok (.invokevirtual 223, 3) := by decide +kernel
set_option maxRecDepth 100000 in
set_option maxHeartbeats 4000000 in
theorem sX5_push_5 (l : Launch) (D : va_G) (Y : Nat → ClassId) (h0 : Nat) (h1 : Nat) (p0 : Int32) (f0 : Nat → Int64) (p1 : Int64) (sz : Nat) : Met l yX5_push (WSm yX5_push cX5_push 3 (some .boolean)) (mkR 0 0 0 0) (PreG EX D Y [.ref h0, .long p1] [(h0, oC 7 [.ref h1, .int p0]), (h1, aJ Y 10 f0)] sz) (QI D (fun (r : Int32) (_ : UU) => r = 0 ∨ r = 1) (fun (u : UU) => [(h0, oC 7 [.ref h1, .int (u.1 0)]), (h1, aJ Y 10 (u.2.2.2.1 0))]) (va_A [(h0, oC 7 [.ref h1, .int p0]), (h1, aJ Y 10 f0)] sz)) 0 0 (va_A [(h0, oC 7 [.ref h1, .int p0]), (h1, aJ Y 10 f0)] sz) :=
  gmet_of (by decide +kernel) (Nat.le_of_ble_eq_true rfl) (fun p e s m args below meth c B EB hsz => by
    have B : VB p s m args meth c D Y (va_A [(h0, oC 7 [.ref h1, .int p0]), (h1, aJ Y 10 f0)] sz) cX5_push 3 RX5 (some .boolean) := B
    refine V_aload_n 0 B dX5_push_0 0 rfl ?_
    refine V_get 1 B gf_RX5_19 0 rfl rfl dX5_push_1 ?_
    refine V_if_lt 4 B 19 dX5_push_4 (by decide) (fun k0 => ?_) (fun k0 => ?_)
    ·
      refine V_iconst 19 B (v := 0) dX5_push_19 (by decide +kernel) ?_
      exact V_zret 20 B rfl dX5_push_20 (mkU [p0] [] [] [f0] []) (Or.inl rfl) rfl
    ·
      refine V_aload_n 7 B dX5_push_7 0 rfl ?_
      refine V_get 8 B gf_RX5_19 0 rfl rfl dX5_push_8 ?_
      refine V_aload_n 11 B dX5_push_11 0 rfl ?_
      refine V_get 12 B gf_RX5_13 0 rfl rfl dX5_push_12 ?_
      refine V_alenJ 15 B (v := 10) 1 rfl (by decide +kernel) dX5_push_15 ?_
      refine V_icmp_lt 16 B 21 dX5_push_16 (by decide) (fun k1 => ?_) (fun k1 => ?_)
      ·
        refine V_aload_n 21 B dX5_push_21 0 rfl ?_
        refine V_get 22 B gf_RX5_13 0 rfl rfl dX5_push_22 ?_
        refine V_aload_n 25 B dX5_push_25 0 rfl ?_
        refine V_get 26 B gf_RX5_19 0 rfl rfl dX5_push_26 ?_
        refine V_lload_n 29 B dX5_push_29 1 rfl ?_
        refine V_last 30 B 1 rfl (vpin_b (b_nlt k0 (n := 0) (by decide +kernel)) (b_lt k1 (n := 9) (by decide +kernel)) (by decide)) dX5_push_30 [(h0, oC 7 [.ref h1, .int p0]), (h1, aJ Y 10 (vp_updL f0 (p0 : Int32).toNatClampNeg p1))] rfl ?_
        refine V_aload_n 31 B dX5_push_31 0 rfl ?_
        refine V_dup 32 B dX5_push_32 rfl ?_
        refine V_get 33 B gf_RX5_19 0 rfl rfl dX5_push_33 ?_
        refine V_iconst 36 B (v := 1) dX5_push_36 (by decide +kernel) ?_
        refine V_iadd 37 B dX5_push_37 rfl ?_
        refine V_put 38 B gp_RX5_19 0 rfl (Nat.le_of_ble_eq_true rfl) rfl rfl dX5_push_38 [(h0, oC 7 [.ref h1, .int (p0 + 1)]), (h1, aJ Y 10 (vp_updL f0 (p0 : Int32).toNatClampNeg p1))] rfl ?_
        refine V_iconst 41 B (v := 1) dX5_push_41 (by decide +kernel) ?_
        exact V_zret 42 B rfl dX5_push_42 (mkU [(p0 + 1)] [] [] [(vp_updL f0 (p0 : Int32).toNatClampNeg p1)] []) (Or.inr rfl) rfl
      ·
        refine V_iconst 19 B (v := 0) dX5_push_19 (by decide +kernel) ?_
        exact V_zret 20 B rfl dX5_push_20 (mkU [p0] [] [] [f0] []) (Or.inl rfl) rfl)
theorem dX11_wish_26 : decode cX11_wish 26 = .ok (.ifCond .eq 18, 3) := by decide +kernel
theorem dX11_wish_44 : decode cX11_wish 44 = .ok (.bipush (-2), 2) := by decide +kernel
theorem dX11_wish_46 : decode cX11_wish 46 = .ok (.ireturn, 1) := by decide +kernel
theorem dX11_wish_29 : decode cX11_wish 29 = .ok (.aload_n 0, 1) := by decide +kernel
theorem dX11_wish_30 : decode cX11_wish 30 = .ok (.getfield 10, 3) := by decide +kernel
theorem dX11_wish_33 : decode cX11_wish 33 = .ok (.getfield 150, 3) := by decide +kernel
theorem dX11_wish_36 : decode cX11_wish 36 = .ok (.invokevirtual 126, 3) := by decide +kernel
theorem dX11_wish_39 : decode cX11_wish 39 = .ok (.iconst 1, 1) := by decide +kernel
theorem dX11_wish_40 : decode cX11_wish 40 = .ok (.isub, 1) := by decide +kernel
theorem dX11_wish_41 : decode cX11_wish 41 = .ok (.goto 5, 3) := by decide +kernel
theorem dX11_wish_9 : decode cX11_wish 9 = .ok (.bipush (-4), 2) := by decide +kernel
theorem dX11_wish_11 : decode cX11_wish 11 = .ok (.ireturn, 1) := by decide +kernel
set_option maxRecDepth 100000 in
set_option maxHeartbeats 4000000 in
theorem sX11_wish_1 (l : Launch) (D : va_G) (Y : Nat → ClassId) (h0 : Nat) (h1 : Nat) (h2 : Nat) (h3 : Nat) (g0 : Nat) (g1 : Nat) (g2 : Nat) (g3 : Nat) (g4 : Nat) (g5 : Nat) (g6 : Nat) (g7 : Nat) (g8 : Nat) (g9 : Nat) (g10 : Nat) (g11 : Nat) (g12 : Nat) (g13 : Nat) (g14 : Nat) (g15 : Nat) (g16 : Nat) (g17 : Nat) (p0 : Int64) (p1 : Int32) (p2 : Int32) (f0 : Nat → Int64) (sz : Nat) : Met l yX11_wish (WSm yX11_wish cX11_wish 1 (some .int)) (mkR 1 0 0 22) (PreG EX D Y [.ref h0] [(h0, oC 12 [.ref h1, .ref g0, .ref g1, .ref g2, .ref g3, .ref g4, .ref g5, .ref g6, .ref g7, .long p0]), (h1, oC 2 [.ref g8, .ref g9, .ref g10, .ref g11, .ref g12, .ref g13, .ref g14, .ref g15, .ref h2, .ref g16, .ref g17, .int p1]), (h2, oC 7 [.ref h3, .int p2]), (h3, aJ Y 10 f0)] sz) (QI D (fun (_ : Int32) (_ : UU) => True) (fun (u : UU) => [(h0, oC 12 [.ref h1, .ref g0, .ref g1, .ref g2, .ref g3, .ref g4, .ref g5, .ref g6, .ref g7, .long p0]), (h1, oC 2 [.ref g8, .ref g9, .ref g10, .ref g11, .ref g12, .ref g13, .ref g14, .ref g15, .ref h2, .ref g16, .ref g17, .int p1]), (h2, oC 7 [.ref h3, .int (u.1 0)]), (h3, aJ Y 10 (u.2.2.2.1 0))]) (va_A [(h0, oC 12 [.ref h1, .ref g0, .ref g1, .ref g2, .ref g3, .ref g4, .ref g5, .ref g6, .ref g7, .long p0]), (h1, oC 2 [.ref g8, .ref g9, .ref g10, .ref g11, .ref g12, .ref g13, .ref g14, .ref g15, .ref h2, .ref g16, .ref g17, .int p1]), (h2, oC 7 [.ref h3, .int p2]), (h3, aJ Y 10 f0)] sz)) 0 0 (va_A [(h0, oC 12 [.ref h1, .ref g0, .ref g1, .ref g2, .ref g3, .ref g4, .ref g5, .ref g6, .ref g7, .long p0]), (h1, oC 2 [.ref g8, .ref g9, .ref g10, .ref g11, .ref g12, .ref g13, .ref g14, .ref g15, .ref h2, .ref g16, .ref g17, .int p1]), (h2, oC 7 [.ref h3, .int p2]), (h3, aJ Y 10 f0)] sz) :=
  gmet_of (by decide +kernel) (Nat.le_of_ble_eq_true rfl) (fun p e s m args below meth c B EB hsz => by
    have B : VB p s m args meth c D Y (va_A [(h0, oC 12 [.ref h1, .ref g0, .ref g1, .ref g2, .ref g3, .ref g4, .ref g5, .ref g6, .ref g7, .long p0]), (h1, oC 2 [.ref g8, .ref g9, .ref g10, .ref g11, .ref g12, .ref g13, .ref g14, .ref g15, .ref h2, .ref g16, .ref g17, .int p1]), (h2, oC 7 [.ref h3, .int p2]), (h3, aJ Y 10 f0)] sz) cX11_wish 1 RX11 (some .int) := B
    refine V_aload_n 0 B dX11_wish_0 0 rfl ?_
    refine V_get 1 B gf_RX11_68 0 rfl rfl dX11_wish_1 ?_
    refine V_lconst 4 B (v := 0) dX11_wish_4 (by decide +kernel) ?_
    refine V_lcmp 5 B dX11_wish_5 rfl ?_
    refine V_nmi (fun j0 _ => ?_)
    refine V_if_ne 6 B 12 dX11_wish_6 (by decide) (fun k1 => ?_) (fun k1 => ?_)
    ·
      refine V_aload_n 12 B dX11_wish_12 0 rfl ?_
      refine V_get 13 B gf_RX11_10 0 rfl rfl dX11_wish_13 ?_
      refine V_get 16 B gf_RX11_150 1 rfl rfl dX11_wish_16 ?_
      refine V_aload_n 19 B dX11_wish_19 0 rfl ?_
      refine V_get 20 B gf_RX11_68 0 rfl rfl dX11_wish_20 ?_
      refine V_gvi 23 B envX EB (st := []) (As := [.long p0]) (fun sz => sX5_push_5 l D Y h2 h3 p2 f0 p0 sz) glV_RX11_223 ⟨rfl, rfl⟩ ⟨(Nat.le_of_ble_eq_true rfl), (Nat.le_of_ble_eq_true rfl)⟩ ⟨(Nat.le_of_ble_eq_true rfl), (Nat.le_of_ble_eq_true rfl)⟩ [2, 0] rfl 7 0 rfl rfl rfl rfl (Nat.le_of_ble_eq_true rfl) rfl (fun _ _ _ => rfl) dX11_wish_23 (fun j2 u3 w4 => ?_)
      refine V_ws [(h0, oC 12 [.ref h1, .ref g0, .ref g1, .ref g2, .ref g3, .ref g4, .ref g5, .ref g6, .ref g7, .long p0]), (h1, oC 2 [.ref g8, .ref g9, .ref g10, .ref g11, .ref g12, .ref g13, .ref g14, .ref g15, .ref h2, .ref g16, .ref g17, .int p1]), (h2, oC 7 [.ref h3, .int (u3.1 0)]), (h3, aJ Y 10 (u3.2.2.2.1 0))] rfl ?_
      rcases w4 with rfl | rfl
      ·
        refine V_if_eq_t 26 B 44 dX11_wish_26 (by decide) (by decide +kernel) ?_
        refine V_bipush 44 B (v := (-2)) dX11_wish_44 (by decide +kernel) ?_
        exact V_iret 46 B dX11_wish_46 (mkU [(u3.1 0)] [] [] [(u3.2.2.2.1 0)] []) trivial rfl
      ·
        refine V_if_eq_f 26 B 44 dX11_wish_26 (by decide) (by decide +kernel) ?_
        refine V_aload_n 29 B dX11_wish_29 0 rfl ?_
        refine V_get 30 B gf_RX11_10 0 rfl rfl dX11_wish_30 ?_
        refine V_get 33 B gf_RX11_150 1 rfl rfl dX11_wish_33 ?_
        refine V_gvi 36 B envX EB (st := []) (As := []) (fun sz => sX5_size_1 l D Y h2 h3 (u3.1 0) sz) glV_RX11_126 ⟨rfl, rfl⟩ ⟨(Nat.le_of_ble_eq_true rfl), (Nat.le_of_ble_eq_true rfl)⟩ ⟨(Nat.le_of_ble_eq_true rfl), (Nat.le_of_ble_eq_true rfl)⟩ [2] rfl 7 0 rfl rfl rfl rfl (Nat.le_of_ble_eq_true rfl) rfl (fun _ _ _ => rfl) dX11_wish_36 (fun j5 u6 w7 => ?_)
        refine V_ws [(h0, oC 12 [.ref h1, .ref g0, .ref g1, .ref g2, .ref g3, .ref g4, .ref g5, .ref g6, .ref g7, .long p0]), (h1, oC 2 [.ref g8, .ref g9, .ref g10, .ref g11, .ref g12, .ref g13, .ref g14, .ref g15, .ref h2, .ref g16, .ref g17, .int p1]), (h2, oC 7 [.ref h3, .int (u3.1 0)]), (h3, aJ Y 10 (u3.2.2.2.1 0))] rfl ?_
        refine V_iconst 39 B (v := 1) dX11_wish_39 (by decide +kernel) ?_
        refine V_isub 40 B dX11_wish_40 rfl ?_
        refine V_nmi (fun j8 _ => ?_)
        refine V_goto 41 B 46 dX11_wish_41 (by decide) ?_
        exact V_iret 46 B dX11_wish_46 (mkU [(u3.1 0)] [] [] [(u3.2.2.2.1 0)] []) trivial rfl
    ·
      obtain rfl : j0 = 0 := k1
      refine V_bipush 9 B (v := (-4)) dX11_wish_9 (by decide +kernel) ?_
      exact V_iret 11 B dX11_wish_11 (mkU [p2] [] [] [f0] []) trivial rfl)
theorem dX11_clearWishes_0 : decode cX11_clearWishes 0 = .ok (.aload_n 0, 1) := by decide +kernel
theorem dX11_clearWishes_1 : decode cX11_clearWishes 1 = .ok (.getfield 10, 3) := by decide +kernel
theorem dX11_clearWishes_4 : decode cX11_clearWishes 4 = .ok (.getfield 150, 3) := by decide +kernel
theorem dX11_clearWishes_7 : decode cX11_clearWishes 7 = .ok (.invokevirtual 126, 3) := by decide +kernel
theorem dX11_clearWishes_10 : decode cX11_clearWishes 10 = .ok (.istore_n 1, 1) := by decide +kernel
theorem dX11_clearWishes_11 : decode cX11_clearWishes 11 = .ok (.aload_n 0, 1) := by decide +kernel
theorem dX11_clearWishes_12 : decode cX11_clearWishes 12 = .ok (.getfield 10, 3) := by decide +kernel
theorem dX11_clearWishes_15 : decode cX11_clearWishes 15 = .ok (.getfield 150, 3) := by decide +kernel
theorem dX11_clearWishes_18 : decode cX11_clearWishes 18 = .ok (.invokevirtual 387, 3) := by decide +kernel
theorem glV_RX11_387 : GLV RX11 387 yX5_clear RX5 cX5_clear 1 none 0 := ⟨⟨(mT5 8 rfl rfl), (mT2 188 rfl rfl), (mT2 189 rfl rfl), (mT1 5 rfl rfl), (mT2 190 rfl rfl)⟩, by decide +kernel⟩
theorem dX11_clearWishes_21 : decode cX11_clearWishes 21 = .ok (.iload_n 1, 1) := by decide +kernel
theorem dX11_clearWishes_22 : decode cX11_clearWishes 22 = .ok (.ireturn, 1) := by decide +kernel
set_option maxRecDepth 100000 in
set_option maxHeartbeats 4000000 in
theorem sX11_clearWishes_1 (l : Launch) (D : va_G) (Y : Nat → ClassId) (h0 : Nat) (h1 : Nat) (h2 : Nat) (g0 : Nat) (g1 : Nat) (g2 : Nat) (g3 : Nat) (g4 : Nat) (g5 : Nat) (g6 : Nat) (g7 : Nat) (g8 : Nat) (g9 : Nat) (g10 : Nat) (g11 : Nat) (g12 : Nat) (g13 : Nat) (g14 : Nat) (g15 : Nat) (g16 : Nat) (g17 : Nat) (g18 : Nat) (p0 : Int64) (p1 : Int32) (p2 : Int32) (sz : Nat) : Met l yX11_clearWishes (WSm yX11_clearWishes cX11_clearWishes 2 (some .int)) (mkR 1 0 0 20) (PreG EX D Y [.ref h0] [(h0, oC 12 [.ref h1, .ref g0, .ref g1, .ref g2, .ref g3, .ref g4, .ref g5, .ref g6, .ref g7, .long p0]), (h1, oC 2 [.ref g8, .ref g9, .ref g10, .ref g11, .ref g12, .ref g13, .ref g14, .ref g15, .ref h2, .ref g16, .ref g17, .int p1]), (h2, oC 7 [.ref g18, .int p2])] sz) (QI D (fun (_ : Int32) (_ : UU) => True) (fun (u : UU) => [(h0, oC 12 [.ref h1, .ref g0, .ref g1, .ref g2, .ref g3, .ref g4, .ref g5, .ref g6, .ref g7, .long p0]), (h1, oC 2 [.ref g8, .ref g9, .ref g10, .ref g11, .ref g12, .ref g13, .ref g14, .ref g15, .ref h2, .ref g16, .ref g17, .int p1]), (h2, oC 7 [.ref g18, .int (u.1 0)])]) (va_A [(h0, oC 12 [.ref h1, .ref g0, .ref g1, .ref g2, .ref g3, .ref g4, .ref g5, .ref g6, .ref g7, .long p0]), (h1, oC 2 [.ref g8, .ref g9, .ref g10, .ref g11, .ref g12, .ref g13, .ref g14, .ref g15, .ref h2, .ref g16, .ref g17, .int p1]), (h2, oC 7 [.ref g18, .int p2])] sz)) 0 0 (va_A [(h0, oC 12 [.ref h1, .ref g0, .ref g1, .ref g2, .ref g3, .ref g4, .ref g5, .ref g6, .ref g7, .long p0]), (h1, oC 2 [.ref g8, .ref g9, .ref g10, .ref g11, .ref g12, .ref g13, .ref g14, .ref g15, .ref h2, .ref g16, .ref g17, .int p1]), (h2, oC 7 [.ref g18, .int p2])] sz) :=
  gmet_of (by decide +kernel) (Nat.le_of_ble_eq_true rfl) (fun p e s m args below meth c B EB hsz => by
    have B : VB p s m args meth c D Y (va_A [(h0, oC 12 [.ref h1, .ref g0, .ref g1, .ref g2, .ref g3, .ref g4, .ref g5, .ref g6, .ref g7, .long p0]), (h1, oC 2 [.ref g8, .ref g9, .ref g10, .ref g11, .ref g12, .ref g13, .ref g14, .ref g15, .ref h2, .ref g16, .ref g17, .int p1]), (h2, oC 7 [.ref g18, .int p2])] sz) cX11_clearWishes 2 RX11 (some .int) := B
    refine V_aload_n 0 B dX11_clearWishes_0 0 rfl ?_
    refine V_get 1 B gf_RX11_10 0 rfl rfl dX11_clearWishes_1 ?_
    refine V_get 4 B gf_RX11_150 1 rfl rfl dX11_clearWishes_4 ?_
    refine V_gvi 7 B envX EB (st := []) (As := []) (fun sz => sX5_size_1 l D Y h2 g18 p2 sz) glV_RX11_126 ⟨rfl, rfl⟩ ⟨(Nat.le_of_ble_eq_true rfl), (Nat.le_of_ble_eq_true rfl)⟩ ⟨(Nat.le_of_ble_eq_true rfl), (Nat.le_of_ble_eq_true rfl)⟩ [2] rfl 7 0 rfl rfl rfl rfl (Nat.le_of_ble_eq_true rfl) rfl (fun _ _ _ => rfl) dX11_clearWishes_7 (fun j0 u1 w2 => ?_)
    refine V_ws [(h0, oC 12 [.ref h1, .ref g0, .ref g1, .ref g2, .ref g3, .ref g4, .ref g5, .ref g6, .ref g7, .long p0]), (h1, oC 2 [.ref g8, .ref g9, .ref g10, .ref g11, .ref g12, .ref g13, .ref g14, .ref g15, .ref h2, .ref g16, .ref g17, .int p1]), (h2, oC 7 [.ref g18, .int p2])] rfl ?_
    refine V_istore_n 10 B (lv2 := [(1, .int j0), (0, .ref h0)]) dX11_clearWishes_10 (by decide) rfl ?_
    refine V_aload_n 11 B dX11_clearWishes_11 1 rfl ?_
    refine V_get 12 B gf_RX11_10 0 rfl rfl dX11_clearWishes_12 ?_
    refine V_get 15 B gf_RX11_150 1 rfl rfl dX11_clearWishes_15 ?_
    refine V_gvv 18 B envX EB (st := []) (As := []) (fun sz => sX5_clear_1 l D Y h2 g18 p2 sz) glV_RX11_387 ⟨rfl, rfl⟩ ⟨(Nat.le_of_ble_eq_true rfl), (Nat.le_of_ble_eq_true rfl)⟩ ⟨(Nat.le_of_ble_eq_true rfl), (Nat.le_of_ble_eq_true rfl)⟩ [2] rfl 7 0 rfl rfl rfl rfl (Nat.le_of_ble_eq_true rfl) rfl (fun _ _ => rfl) dX11_clearWishes_18 (fun u4 w5 => ?_)
    refine V_ws [(h0, oC 12 [.ref h1, .ref g0, .ref g1, .ref g2, .ref g3, .ref g4, .ref g5, .ref g6, .ref g7, .long p0]), (h1, oC 2 [.ref g8, .ref g9, .ref g10, .ref g11, .ref g12, .ref g13, .ref g14, .ref g15, .ref h2, .ref g16, .ref g17, .int p1]), (h2, oC 7 [.ref g18, .int (u4.1 0)])] rfl ?_
    refine V_iload_n 21 B dX11_clearWishes_21 0 rfl ?_
    exact V_iret 22 B dX11_clearWishes_22 (mkU [(u4.1 0)] [] [] [] []) trivial rfl)
theorem dX11_leastDrop_0 : decode cX11_leastDrop 0 = .ok (.aload_n 0, 1) := by decide +kernel
theorem dX11_leastDrop_1 : decode cX11_leastDrop 1 = .ok (.iload_n 1, 1) := by decide +kernel
theorem dX11_leastDrop_2 : decode cX11_leastDrop 2 = .ok (.invokevirtual 180, 3) := by decide +kernel
theorem dX11_leastDrop_5 : decode cX11_leastDrop 5 = .ok (.aload_n 0, 1) := by decide +kernel
theorem dX11_leastDrop_6 : decode cX11_leastDrop 6 = .ok (.getfield 30, 3) := by decide +kernel
theorem dX11_leastDrop_9 : decode cX11_leastDrop 9 = .ok (.iload_n 1, 1) := by decide +kernel
theorem dX11_leastDrop_10 : decode cX11_leastDrop 10 = .ok (.invokevirtual 390, 3) := by decide +kernel
theorem dX10_fewestDropped_0 : decode cX10_fewestDropped 0 = .ok (.iconst 1, 1) := by decide +kernel
theorem dX10_fewestDropped_1 : decode cX10_fewestDropped 1 = .ok (.aload_n 0, 1) := by decide +kernel
theorem dX10_fewestDropped_2 : decode cX10_fewestDropped 2 = .ok (.getfield 9, 3) := by decide +kernel
theorem dX10_fewestDropped_5 : decode cX10_fewestDropped 5 = .ok (.getfield 140, 3) := by decide +kernel
theorem gf_RX10_140 : GF RX10 140 2 8 := ⟨RX0, TX0, 12, rfl, inw_X0, Nat.le_of_ble_eq_true rfl, (mT1 192 rfl rfl)⟩
theorem dX10_fewestDropped_8 : decode cX10_fewestDropped 8 = .ok (.invokevirtual 143, 3) := by decide +kernel
theorem glV_RX10_143 : GLV RX10 143 yX5_size RX5 cX5_size 1 (some .int) 0 := ⟨⟨(mT7 108 rfl rfl), (mT3 77 rfl rfl), (mT3 78 rfl rfl), (mT1 5 rfl rfl), (mT3 79 rfl rfl)⟩, by decide +kernel⟩
theorem dX10_fewestDropped_11 : decode cX10_fewestDropped 11 = .ok (.ishl, 1) := by decide +kernel
theorem dX10_fewestDropped_12 : decode cX10_fewestDropped 12 = .ok (.iconst 1, 1) := by decide +kernel
theorem dX10_fewestDropped_13 : decode cX10_fewestDropped 13 = .ok (.isub, 1) := by decide +kernel
theorem dX10_fewestDropped_14 : decode cX10_fewestDropped 14 = .ok (.istore_n 2, 1) := by decide +kernel
theorem dX10_fewestDropped_15 : decode cX10_fewestDropped 15 = .ok (.aload_n 0, 1) := by decide +kernel
theorem dX10_fewestDropped_16 : decode cX10_fewestDropped 16 = .ok (.iload_n 1, 1) := by decide +kernel
theorem dX10_fewestDropped_17 : decode cX10_fewestDropped 17 = .ok (.invokevirtual 144, 3) := by decide +kernel
theorem dX10_meetRivals_0 : decode cX10_meetRivals 0 = .ok (.aload_n 0, 1) := by decide +kernel
theorem dX10_meetRivals_1 : decode cX10_meetRivals 1 = .ok (.getfield 34, 3) := by decide +kernel
theorem gf_RX10_34 : GF RX10 34 11 4 := ⟨RX10, TX10, 5, rfl, inw_X10, Nat.le_of_ble_eq_true rfl, (mT2 5 rfl rfl)⟩
theorem dX10_meetRivals_4 : decode cX10_meetRivals 4 = .ok (.invokevirtual 75, 3) := by decide +kernel
theorem dX10_meetRivals_7 : decode cX10_meetRivals 7 = .ok (.iconst 0, 1) := by decide +kernel
theorem dX10_meetRivals_8 : decode cX10_meetRivals 8 = .ok (.istore_n 2, 1) := by decide +kernel
theorem dX10_meetRivals_9 : decode cX10_meetRivals 9 = .ok (.iconst 0, 1) := by decide +kernel
theorem dX10_meetRivals_10 : decode cX10_meetRivals 10 = .ok (.istore_n 3, 1) := by decide +kernel
theorem dX10_meetRivals_11 : decode cX10_meetRivals 11 = .ok (.iload_n 3, 1) := by decide +kernel
theorem dX10_meetRivals_12 : decode cX10_meetRivals 12 = .ok (.aload_n 0, 1) := by decide +kernel
theorem dX10_meetRivals_13 : decode cX10_meetRivals 13 = .ok (.getfield 9, 3) := by decide +kernel
theorem dX10_meetRivals_16 : decode cX10_meetRivals 16 = .ok (.getfield 140, 3) := by decide +kernel
theorem dX10_meetRivals_19 : decode cX10_meetRivals 19 = .ok (.invokevirtual 143, 3) := by decide +kernel
theorem dX10_meetRivals_22 : decode cX10_meetRivals 22 = .ok (.if_icmp .ge 113, 3) := by decide +kernel
theorem dX10_meetRivals_135 : decode cX10_meetRivals 135 = .ok (.iload_n 2, 1) := by decide +kernel
theorem dX10_meetRivals_136 : decode cX10_meetRivals 136 = .ok (.ireturn, 1) := by decide +kernel
theorem dX10_meetRivals_25 : decode cX10_meetRivals 25 = .ok (.aload_n 0, 1) := by decide +kernel
theorem dX10_meetRivals_26 : decode cX10_meetRivals 26 = .ok (.getfield 9, 3) := by decide +kernel
theorem dX10_meetRivals_29 : decode cX10_meetRivals 29 = .ok (.getfield 140, 3) := by decide +kernel
theorem dX10_meetRivals_32 : decode cX10_meetRivals 32 = .ok (.iload_n 3, 1) := by decide +kernel
theorem dX10_meetRivals_33 : decode cX10_meetRivals 33 = .ok (.invokevirtual 59, 3) := by decide +kernel
set_option maxRecDepth 100000 in
set_option maxHeartbeats 4000000 in
theorem sX5_at_4 (l : Launch) (D : va_G) (Y : Nat → ClassId) (h0 : Nat) (h1 : Nat) (p0 : Int32) (f0 : Nat → Int64) (p1 : Int32) (sz : Nat) : Met l yX5_at (WSm yX5_at cX5_at 2 (some .long)) (mkR 0 0 0 0) (PreG EX D Y [.ref h0, .int p1] [(h0, oC 7 [.ref h1, .int p0]), (h1, aJ Y 10 f0)] sz) (QJ D (fun (_ : Int64) (_ : UU) => True) (fun (u : UU) => [(h0, oC 7 [.ref h1, .int p0]), (h1, aJ Y 10 f0)]) (va_A [(h0, oC 7 [.ref h1, .int p0]), (h1, aJ Y 10 f0)] sz)) 0 0 (va_A [(h0, oC 7 [.ref h1, .int p0]), (h1, aJ Y 10 f0)] sz) :=
  gmet_of (by decide +kernel) (Nat.le_of_ble_eq_true rfl) (fun p e s m args below meth c B EB hsz => by
    have B : VB p s m args meth c D Y (va_A [(h0, oC 7 [.ref h1, .int p0]), (h1, aJ Y 10 f0)] sz) cX5_at 2 RX5 (some .long) := B
    refine V_iload_n 0 B dX5_at_0 1 rfl ?_
    refine V_if_lt 1 B 30 dX5_at_1 (by decide) (fun k0 => ?_) (fun k0 => ?_)
    ·
      refine V_lconst 30 B (v := 0) dX5_at_30 (by decide +kernel) ?_
      exact V_lret 31 B dX5_at_31 (mkU [] [] [] [] []) trivial rfl
    ·
      refine V_iload_n 4 B dX5_at_4 1 rfl ?_
      refine V_aload_n 5 B dX5_at_5 0 rfl ?_
      refine V_get 6 B gf_RX5_19 0 rfl rfl dX5_at_6 ?_
      refine V_icmp_ge 9 B 30 dX5_at_9 (by decide) (fun k1 => ?_) (fun k1 => ?_)
      ·
        refine V_lconst 30 B (v := 0) dX5_at_30 (by decide +kernel) ?_
        exact V_lret 31 B dX5_at_31 (mkU [] [] [] [] []) trivial rfl
      ·
        refine V_iload_n 12 B dX5_at_12 1 rfl ?_
        refine V_aload_n 13 B dX5_at_13 0 rfl ?_
        refine V_get 14 B gf_RX5_13 0 rfl rfl dX5_at_14 ?_
        refine V_alenJ 17 B (v := 10) 1 rfl (by decide +kernel) dX5_at_17 ?_
        refine V_icmp_ge 18 B 30 dX5_at_18 (by decide) (fun k2 => ?_) (fun k2 => ?_)
        ·
          refine V_lconst 30 B (v := 0) dX5_at_30 (by decide +kernel) ?_
          exact V_lret 31 B dX5_at_31 (mkU [] [] [] [] []) trivial rfl
        ·
          refine V_aload_n 21 B dX5_at_21 0 rfl ?_
          refine V_get 22 B gf_RX5_13 0 rfl rfl dX5_at_22 ?_
          refine V_iload_n 25 B dX5_at_25 1 rfl ?_
          refine V_lald 26 B 1 rfl (vpin_b (b_nlt k0 (n := 0) (by decide +kernel)) (b_nge k2 (n := 9) (by decide +kernel)) (by decide)) dX5_at_26 rfl ?_
          refine V_nml (fun o3 _ => ?_)
          refine V_goto 27 B 31 dX5_at_27 (by decide) ?_
          exact V_lret 31 B dX5_at_31 (mkU [] [] [] [] []) trivial rfl)
theorem dX10_meetRivals_36 : decode cX10_meetRivals 36 = .ok (.lstore 4, 2) := by decide +kernel
theorem dX10_meetRivals_38 : decode cX10_meetRivals 38 = .ok (.iconst 0, 1) := by decide +kernel
theorem dX10_meetRivals_39 : decode cX10_meetRivals 39 = .ok (.istore 6, 2) := by decide +kernel
theorem dX10_meetRivals_41 : decode cX10_meetRivals 41 = .ok (.iconst 0, 1) := by decide +kernel
theorem dX10_meetRivals_42 : decode cX10_meetRivals 42 = .ok (.istore 7, 2) := by decide +kernel
theorem dX10_meetRivals_44 : decode cX10_meetRivals 44 = .ok (.iload 7, 2) := by decide +kernel
theorem dX10_meetRivals_46 : decode cX10_meetRivals 46 = .ok (.aload_n 0, 1) := by decide +kernel
theorem dX10_meetRivals_47 : decode cX10_meetRivals 47 = .ok (.getfield 9, 3) := by decide +kernel
theorem dX10_meetRivals_50 : decode cX10_meetRivals 50 = .ok (.getfield 140, 3) := by decide +kernel
theorem dX10_meetRivals_53 : decode cX10_meetRivals 53 = .ok (.invokevirtual 143, 3) := by decide +kernel
theorem dX10_meetRivals_56 : decode cX10_meetRivals 56 = .ok (.if_icmp .ge 44, 3) := by decide +kernel
theorem dX10_meetRivals_100 : decode cX10_meetRivals 100 = .ok (.aload_n 0, 1) := by decide +kernel
theorem dX10_meetRivals_101 : decode cX10_meetRivals 101 = .ok (.getfield 34, 3) := by decide +kernel
theorem dX10_meetRivals_104 : decode cX10_meetRivals 104 = .ok (.iload 6, 2) := by decide +kernel
theorem dX10_meetRivals_106 : decode cX10_meetRivals 106 = .ok (.invokevirtual 82, 3) := by decide +kernel
set_option maxRecDepth 100000 in
set_option maxHeartbeats 4000000 in
theorem sX1_push_7 (l : Launch) (D : va_G) (Y : Nat → ClassId) (h0 : Nat) (h1 : Nat) (p0 : Int32) (f0 : Nat → Int32) (p1 : Int32) (sz : Nat) : Met l yX1_push (WSm yX1_push cX1_push 2 (some .boolean)) (mkR 0 0 0 0) (PreG EX D Y [.ref h0, .int p1] [(h0, oC 3 [.ref h1, .int p0]), (h1, aI Y 10 f0)] sz) (QI D (fun (r : Int32) (_ : UU) => r = 0 ∨ r = 1) (fun (u : UU) => [(h0, oC 3 [.ref h1, .int (u.1 0)]), (h1, aI Y 10 (u.2.2.1 0))]) (va_A [(h0, oC 3 [.ref h1, .int p0]), (h1, aI Y 10 f0)] sz)) 0 0 (va_A [(h0, oC 3 [.ref h1, .int p0]), (h1, aI Y 10 f0)] sz) :=
  gmet_of (by decide +kernel) (Nat.le_of_ble_eq_true rfl) (fun p e s m args below meth c B EB hsz => by
    have B : VB p s m args meth c D Y (va_A [(h0, oC 3 [.ref h1, .int p0]), (h1, aI Y 10 f0)] sz) cX1_push 2 RX1 (some .boolean) := B
    refine V_aload_n 0 B dX1_push_0 0 rfl ?_
    refine V_get 1 B gf_RX1_21 0 rfl rfl dX1_push_1 ?_
    refine V_if_lt 4 B 19 dX1_push_4 (by decide) (fun k0 => ?_) (fun k0 => ?_)
    ·
      refine V_iconst 19 B (v := 0) dX1_push_19 (by decide +kernel) ?_
      exact V_zret 20 B rfl dX1_push_20 (mkU [p0] [] [f0] [] []) (Or.inl rfl) rfl
    ·
      refine V_aload_n 7 B dX1_push_7 0 rfl ?_
      refine V_get 8 B gf_RX1_21 0 rfl rfl dX1_push_8 ?_
      refine V_aload_n 11 B dX1_push_11 0 rfl ?_
      refine V_get 12 B gf_RX1_15 0 rfl rfl dX1_push_12 ?_
      refine V_alenI 15 B (v := 10) 1 rfl (by decide +kernel) dX1_push_15 ?_
      refine V_icmp_lt 16 B 21 dX1_push_16 (by decide) (fun k1 => ?_) (fun k1 => ?_)
      ·
        refine V_aload_n 21 B dX1_push_21 0 rfl ?_
        refine V_get 22 B gf_RX1_15 0 rfl rfl dX1_push_22 ?_
        refine V_aload_n 25 B dX1_push_25 0 rfl ?_
        refine V_get 26 B gf_RX1_21 0 rfl rfl dX1_push_26 ?_
        refine V_iload_n 29 B dX1_push_29 1 rfl ?_
        refine V_iast 30 B 1 rfl (vpin_b (b_nlt k0 (n := 0) (by decide +kernel)) (b_lt k1 (n := 9) (by decide +kernel)) (by decide)) dX1_push_30 [(h0, oC 3 [.ref h1, .int p0]), (h1, aI Y 10 (upd f0 (p0 : Int32).toNatClampNeg p1))] rfl ?_
        refine V_aload_n 31 B dX1_push_31 0 rfl ?_
        refine V_dup 32 B dX1_push_32 rfl ?_
        refine V_get 33 B gf_RX1_21 0 rfl rfl dX1_push_33 ?_
        refine V_iconst 36 B (v := 1) dX1_push_36 (by decide +kernel) ?_
        refine V_iadd 37 B dX1_push_37 rfl ?_
        refine V_put 38 B gp_RX1_21 0 rfl (Nat.le_of_ble_eq_true rfl) rfl rfl dX1_push_38 [(h0, oC 3 [.ref h1, .int (p0 + 1)]), (h1, aI Y 10 (upd f0 (p0 : Int32).toNatClampNeg p1))] rfl ?_
        refine V_iconst 41 B (v := 1) dX1_push_41 (by decide +kernel) ?_
        exact V_zret 42 B rfl dX1_push_42 (mkU [(p0 + 1)] [] [(upd f0 (p0 : Int32).toNatClampNeg p1)] [] []) (Or.inr rfl) rfl
      ·
        refine V_iconst 19 B (v := 0) dX1_push_19 (by decide +kernel) ?_
        exact V_zret 20 B rfl dX1_push_20 (mkU [p0] [] [f0] [] []) (Or.inl rfl) rfl)
theorem dX10_meetRivals_109 : decode cX10_meetRivals 109 = .ok (.pop, 1) := by decide +kernel
theorem dX10_meetRivals_110 : decode cX10_meetRivals 110 = .ok (.aload_n 0, 1) := by decide +kernel
theorem dX10_meetRivals_111 : decode cX10_meetRivals 111 = .ok (.getfield 9, 3) := by decide +kernel
theorem dX10_meetRivals_114 : decode cX10_meetRivals 114 = .ok (.iload_n 1, 1) := by decide +kernel
theorem dX10_meetRivals_115 : decode cX10_meetRivals 115 = .ok (.lload 4, 2) := by decide +kernel
theorem dX10_meetRivals_117 : decode cX10_meetRivals 117 = .ok (.invokevirtual 155, 3) := by decide +kernel
theorem glV_RX10_155 : GLV RX10 155 yX0_isBarred RX0 cX0_isBarred 4 (some .boolean) 2 := ⟨⟨(mT7 113 rfl rfl), (mT3 120 rfl rfl), (mT3 121 rfl rfl), (mT1 2 rfl rfl), (mT3 122 rfl rfl)⟩, by decide +kernel⟩
theorem dX10_meetRivals_120 : decode cX10_meetRivals 120 = .ok (.ifCond .eq 9, 3) := by decide +kernel
theorem dX10_meetRivals_129 : decode cX10_meetRivals 129 = .ok (.iinc 3 1, 3) := by decide +kernel
theorem dX10_meetRivals_132 : decode cX10_meetRivals 132 = .ok (.goto (-121), 3) := by decide +kernel
theorem dX10_meetRivals_123 : decode cX10_meetRivals 123 = .ok (.iload_n 2, 1) := by decide +kernel
theorem dX10_meetRivals_124 : decode cX10_meetRivals 124 = .ok (.iconst 1, 1) := by decide +kernel
theorem dX10_meetRivals_125 : decode cX10_meetRivals 125 = .ok (.iload_n 3, 1) := by decide +kernel
theorem dX10_meetRivals_126 : decode cX10_meetRivals 126 = .ok (.ishl, 1) := by decide +kernel
theorem dX10_meetRivals_127 : decode cX10_meetRivals 127 = .ok (.ior, 1) := by decide +kernel
theorem dX10_meetRivals_128 : decode cX10_meetRivals 128 = .ok (.istore_n 2, 1) := by decide +kernel
theorem dX10_meetRivals_59 : decode cX10_meetRivals 59 = .ok (.iload 7, 2) := by decide +kernel
theorem dX10_meetRivals_61 : decode cX10_meetRivals 61 = .ok (.iload_n 3, 1) := by decide +kernel
theorem dX10_meetRivals_62 : decode cX10_meetRivals 62 = .ok (.if_icmp .eq 32, 3) := by decide +kernel
theorem dX10_meetRivals_94 : decode cX10_meetRivals 94 = .ok (.iinc 7 1, 3) := by decide +kernel
theorem dX10_meetRivals_97 : decode cX10_meetRivals 97 = .ok (.goto (-53), 3) := by decide +kernel
theorem dX10_meetRivals_65 : decode cX10_meetRivals 65 = .ok (.lload 4, 2) := by decide +kernel
theorem dX10_meetRivals_67 : decode cX10_meetRivals 67 = .ok (.aload_n 0, 1) := by decide +kernel
theorem dX10_meetRivals_68 : decode cX10_meetRivals 68 = .ok (.getfield 9, 3) := by decide +kernel
theorem dX10_meetRivals_71 : decode cX10_meetRivals 71 = .ok (.getfield 140, 3) := by decide +kernel
theorem dX10_meetRivals_74 : decode cX10_meetRivals 74 = .ok (.iload 7, 2) := by decide +kernel
theorem dX10_meetRivals_76 : decode cX10_meetRivals 76 = .ok (.invokevirtual 59, 3) := by decide +kernel
theorem dX10_meetRivals_79 : decode cX10_meetRivals 79 = .ok (.invokestatic 66, 3) := by decide +kernel
theorem dX10_meetRivals_82 : decode cX10_meetRivals 82 = .ok (.ifCond .eq 12, 3) := by decide +kernel
theorem dX10_meetRivals_85 : decode cX10_meetRivals 85 = .ok (.iload 6, 2) := by decide +kernel
theorem dX10_meetRivals_87 : decode cX10_meetRivals 87 = .ok (.iconst 1, 1) := by decide +kernel
theorem dX10_meetRivals_88 : decode cX10_meetRivals 88 = .ok (.iload 7, 2) := by decide +kernel
theorem dX10_meetRivals_90 : decode cX10_meetRivals 90 = .ok (.ishl, 1) := by decide +kernel
theorem dX10_meetRivals_91 : decode cX10_meetRivals 91 = .ok (.ior, 1) := by decide +kernel
theorem dX10_meetRivals_92 : decode cX10_meetRivals 92 = .ok (.istore 6, 2) := by decide +kernel
set_option maxRecDepth 100000 in
set_option maxHeartbeats 4000000 in
theorem sX10_meetRivals_1 (l : Launch) (D : va_G) (Y : Nat → ClassId) (h0 : Nat) (h1 : Nat) (h2 : Nat) (h3 : Nat) (h4 : Nat) (h5 : Nat) (h6 : Nat) (h7 : Nat) (h8 : Nat) (h9 : Nat) (h10 : Nat) (h11 : Nat) (g0 : Nat) (g1 : Nat) (g2 : Nat) (g3 : Nat) (g4 : Nat) (g5 : Nat) (g6 : Nat) (g7 : Nat) (g8 : Nat) (g9 : Nat) (p0 : Int32) (p1 : Int32) (f0 : Nat → Int64) (p2 : Int32) (f1 : Nat → Int32) (p3 : Int32) (f2 : Nat → Int64) (p4 : Int32) (f3 : Nat → Int64) (p5 : Int32) (f4 : Nat → Int32) (p6 : Int32) (sz : Nat) : Met l yX10_meetRivals (WSm yX10_meetRivals cX10_meetRivals 8 (some .int)) (mkR 4 0 0 100) (PreG EX D Y [.ref h9, .int p6] [(h0, oC 2 [.ref g0, .ref g1, .ref g2, .ref g3, .ref h1, .ref h3, .ref g4, .ref h5, .ref h7, .ref g5, .ref g6, .int p0]), (h1, oC 7 [.ref h2, .int p1]), (h2, aJ Y 6 f0), (h3, oC 3 [.ref h4, .int p2]), (h4, aI Y 80 f1), (h5, oC 7 [.ref h6, .int p3]), (h6, aJ Y 80 f2), (h7, oC 7 [.ref h8, .int p4]), (h8, aJ Y 10 f3), (h9, oC 11 [.ref h0, .ref g7, .ref g8, .ref g9, .ref h10]), (h10, oC 3 [.ref h11, .int p5]), (h11, aI Y 10 f4)] sz) (QI D (fun (_ : Int32) (_ : UU) => True) (fun (u : UU) => [(h0, oC 2 [.ref g0, .ref g1, .ref g2, .ref g3, .ref h1, .ref h3, .ref g4, .ref h5, .ref h7, .ref g5, .ref g6, .int p0]), (h1, oC 7 [.ref h2, .int p1]), (h2, aJ Y 6 f0), (h3, oC 3 [.ref h4, .int p2]), (h4, aI Y 80 f1), (h5, oC 7 [.ref h6, .int p3]), (h6, aJ Y 80 f2), (h7, oC 7 [.ref h8, .int p4]), (h8, aJ Y 10 f3), (h9, oC 11 [.ref h0, .ref g7, .ref g8, .ref g9, .ref h10]), (h10, oC 3 [.ref h11, .int (u.1 0)]), (h11, aI Y 10 (u.2.2.1 0))]) (va_A [(h0, oC 2 [.ref g0, .ref g1, .ref g2, .ref g3, .ref h1, .ref h3, .ref g4, .ref h5, .ref h7, .ref g5, .ref g6, .int p0]), (h1, oC 7 [.ref h2, .int p1]), (h2, aJ Y 6 f0), (h3, oC 3 [.ref h4, .int p2]), (h4, aI Y 80 f1), (h5, oC 7 [.ref h6, .int p3]), (h6, aJ Y 80 f2), (h7, oC 7 [.ref h8, .int p4]), (h8, aJ Y 10 f3), (h9, oC 11 [.ref h0, .ref g7, .ref g8, .ref g9, .ref h10]), (h10, oC 3 [.ref h11, .int p5]), (h11, aI Y 10 f4)] sz)) 0 0 (va_A [(h0, oC 2 [.ref g0, .ref g1, .ref g2, .ref g3, .ref h1, .ref h3, .ref g4, .ref h5, .ref h7, .ref g5, .ref g6, .int p0]), (h1, oC 7 [.ref h2, .int p1]), (h2, aJ Y 6 f0), (h3, oC 3 [.ref h4, .int p2]), (h4, aI Y 80 f1), (h5, oC 7 [.ref h6, .int p3]), (h6, aJ Y 80 f2), (h7, oC 7 [.ref h8, .int p4]), (h8, aJ Y 10 f3), (h9, oC 11 [.ref h0, .ref g7, .ref g8, .ref g9, .ref h10]), (h10, oC 3 [.ref h11, .int p5]), (h11, aI Y 10 f4)] sz) :=
  gmet_of (by decide +kernel) (Nat.le_of_ble_eq_true rfl) (fun p e s m args below meth c B EB hsz => by
    have B : VB p s m args meth c D Y (va_A [(h0, oC 2 [.ref g0, .ref g1, .ref g2, .ref g3, .ref h1, .ref h3, .ref g4, .ref h5, .ref h7, .ref g5, .ref g6, .int p0]), (h1, oC 7 [.ref h2, .int p1]), (h2, aJ Y 6 f0), (h3, oC 3 [.ref h4, .int p2]), (h4, aI Y 80 f1), (h5, oC 7 [.ref h6, .int p3]), (h6, aJ Y 80 f2), (h7, oC 7 [.ref h8, .int p4]), (h8, aJ Y 10 f3), (h9, oC 11 [.ref h0, .ref g7, .ref g8, .ref g9, .ref h10]), (h10, oC 3 [.ref h11, .int p5]), (h11, aI Y 10 f4)] sz) cX10_meetRivals 8 RX10 (some .int) := B
    refine V_aload_n 0 B dX10_meetRivals_0 0 rfl ?_
    refine V_get 1 B gf_RX10_34 9 rfl rfl dX10_meetRivals_1 ?_
    refine V_gvv 4 B envX EB (st := []) (As := []) (fun sz => sX1_clear_1 l D Y h10 h11 p5 sz) glV_RX10_75 ⟨rfl, rfl⟩ ⟨(Nat.le_of_ble_eq_true rfl), (Nat.le_of_ble_eq_true rfl)⟩ ⟨(Nat.le_of_ble_eq_true rfl), (Nat.le_of_ble_eq_true rfl)⟩ [10] rfl 3 0 rfl rfl rfl rfl (Nat.le_of_ble_eq_true rfl) rfl (fun _ _ => rfl) dX10_meetRivals_4 (fun u1 w2 => ?_)
    refine V_ws [(h0, oC 2 [.ref g0, .ref g1, .ref g2, .ref g3, .ref h1, .ref h3, .ref g4, .ref h5, .ref h7, .ref g5, .ref g6, .int p0]), (h1, oC 7 [.ref h2, .int p1]), (h2, aJ Y 6 f0), (h3, oC 3 [.ref h4, .int p2]), (h4, aI Y 80 f1), (h5, oC 7 [.ref h6, .int p3]), (h6, aJ Y 80 f2), (h7, oC 7 [.ref h8, .int p4]), (h8, aJ Y 10 f3), (h9, oC 11 [.ref h0, .ref g7, .ref g8, .ref g9, .ref h10]), (h10, oC 3 [.ref h11, .int (u1.1 0)]), (h11, aI Y 10 f4)] rfl ?_
    refine V_iconst 7 B (v := 0) dX10_meetRivals_7 (by decide +kernel) ?_
    refine V_istore_n 8 B (lv2 := [(2, .int 0), (0, .ref h9), (1, .int p6)]) dX10_meetRivals_8 (by decide) rfl ?_
    refine V_iconst 9 B (v := 0) dX10_meetRivals_9 (by decide +kernel) ?_
    refine V_istore_n 10 B (lv2 := [(3, .int 0), (2, .int 0), (0, .ref h9), (1, .int p6)]) dX10_meetRivals_10 (by decide) rfl ?_
    refine V_wloop (α := UU) (fun a => (2147483647 - ((a.1 0)).toInt).toNat) (fun a => 0 ≤ ((a.1 0)).toInt) (fun a => [(3, .int (a.1 0)), (2, .int (a.1 1)), (0, .ref h9), (1, .int p6)]) (fun a => [(h0, oC 2 [.ref g0, .ref g1, .ref g2, .ref g3, .ref h1, .ref h3, .ref g4, .ref h5, .ref h7, .ref g5, .ref g6, .int p0]), (h1, oC 7 [.ref h2, .int p1]), (h2, aJ Y 6 f0), (h3, oC 3 [.ref h4, .int p2]), (h4, aI Y 80 f1), (h5, oC 7 [.ref h6, .int p3]), (h6, aJ Y 80 f2), (h7, oC 7 [.ref h8, .int p4]), (h8, aJ Y 10 f3), (h9, oC 11 [.ref h0, .ref g7, .ref g8, .ref g9, .ref h10]), (h10, oC 3 [.ref h11, .int (a.1 2)]), (h11, aI Y 10 (a.2.2.1 0))]) (mkU [0, 0, (u1.1 0)] [] [f4] [] []) (show (0 : Int) ≤ (0 : Int32).toInt by decide +kernel) rfl rfl (fun a3 hI5 IH4 => ?_)
    refine V_lv [(3, .int (a3.1 0)), (2, .int (a3.1 1)), (0, .ref h9), (1, .int p6)] [0, 1, 2, 3] rfl ?_
    refine V_ws [(h0, oC 2 [.ref g0, .ref g1, .ref g2, .ref g3, .ref h1, .ref h3, .ref g4, .ref h5, .ref h7, .ref g5, .ref g6, .int p0]), (h1, oC 7 [.ref h2, .int p1]), (h2, aJ Y 6 f0), (h3, oC 3 [.ref h4, .int p2]), (h4, aI Y 80 f1), (h5, oC 7 [.ref h6, .int p3]), (h6, aJ Y 80 f2), (h7, oC 7 [.ref h8, .int p4]), (h8, aJ Y 10 f3), (h9, oC 11 [.ref h0, .ref g7, .ref g8, .ref g9, .ref h10]), (h10, oC 3 [.ref h11, .int (a3.1 2)]), (h11, aI Y 10 (a3.2.2.1 0))] rfl ?_
    refine V_iload_n 11 B dX10_meetRivals_11 0 rfl ?_
    refine V_aload_n 12 B dX10_meetRivals_12 2 rfl ?_
    refine V_get 13 B gf_RX10_9 9 rfl rfl dX10_meetRivals_13 ?_
    refine V_get 16 B gf_RX10_140 0 rfl rfl dX10_meetRivals_16 ?_
    refine V_gvi 19 B envX EB (st := [.int (a3.1 0)]) (As := []) (fun sz => sX5_size_1 l D Y h7 h8 p4 sz) glV_RX10_143 ⟨rfl, rfl⟩ ⟨(Nat.le_of_ble_eq_true rfl), (Nat.le_of_ble_eq_true rfl)⟩ ⟨(Nat.le_of_ble_eq_true rfl), (Nat.le_of_ble_eq_true rfl)⟩ [7] rfl 7 0 rfl rfl rfl rfl (Nat.le_of_ble_eq_true rfl) rfl (fun _ _ _ => rfl) dX10_meetRivals_19 (fun j6 u7 w8 => ?_)
    refine V_ws [(h0, oC 2 [.ref g0, .ref g1, .ref g2, .ref g3, .ref h1, .ref h3, .ref g4, .ref h5, .ref h7, .ref g5, .ref g6, .int p0]), (h1, oC 7 [.ref h2, .int p1]), (h2, aJ Y 6 f0), (h3, oC 3 [.ref h4, .int p2]), (h4, aI Y 80 f1), (h5, oC 7 [.ref h6, .int p3]), (h6, aJ Y 80 f2), (h7, oC 7 [.ref h8, .int p4]), (h8, aJ Y 10 f3), (h9, oC 11 [.ref h0, .ref g7, .ref g8, .ref g9, .ref h10]), (h10, oC 3 [.ref h11, .int (a3.1 2)]), (h11, aI Y 10 (a3.2.2.1 0))] rfl ?_
    refine V_icmp_ge 22 B 135 dX10_meetRivals_22 (by decide) (fun k9 => ?_) (fun k9 => ?_)
    ·
      refine V_iload_n 135 B dX10_meetRivals_135 1 rfl ?_
      exact V_iret 136 B dX10_meetRivals_136 (mkU [(a3.1 2)] [] [(a3.2.2.1 0)] [] []) trivial rfl
    ·
      refine V_aload_n 25 B dX10_meetRivals_25 2 rfl ?_
      refine V_get 26 B gf_RX10_9 9 rfl rfl dX10_meetRivals_26 ?_
      refine V_get 29 B gf_RX10_140 0 rfl rfl dX10_meetRivals_29 ?_
      refine V_iload_n 32 B dX10_meetRivals_32 0 rfl ?_
      refine V_gvl 33 B envX EB (st := []) (As := [.int (a3.1 0)]) (fun sz => sX5_at_4 l D Y h7 h8 p4 f3 (a3.1 0) sz) glV_RX10_59 ⟨rfl, rfl⟩ ⟨(Nat.le_of_ble_eq_true rfl), (Nat.le_of_ble_eq_true rfl)⟩ ⟨(Nat.le_of_ble_eq_true rfl), (Nat.le_of_ble_eq_true rfl)⟩ [7, 0] rfl 7 0 rfl rfl rfl rfl (Nat.le_of_ble_eq_true rfl) rfl (fun _ _ _ => rfl) dX10_meetRivals_33 (fun o10 u11 w12 => ?_)
      refine V_ws [(h0, oC 2 [.ref g0, .ref g1, .ref g2, .ref g3, .ref h1, .ref h3, .ref g4, .ref h5, .ref h7, .ref g5, .ref g6, .int p0]), (h1, oC 7 [.ref h2, .int p1]), (h2, aJ Y 6 f0), (h3, oC 3 [.ref h4, .int p2]), (h4, aI Y 80 f1), (h5, oC 7 [.ref h6, .int p3]), (h6, aJ Y 80 f2), (h7, oC 7 [.ref h8, .int p4]), (h8, aJ Y 10 f3), (h9, oC 11 [.ref h0, .ref g7, .ref g8, .ref g9, .ref h10]), (h10, oC 3 [.ref h11, .int (a3.1 2)]), (h11, aI Y 10 (a3.2.2.1 0))] rfl ?_
      refine V_lstore 36 B (lv2 := [(4, .long o10), (3, .int (a3.1 0)), (2, .int (a3.1 1)), (0, .ref h9), (1, .int p6)]) dX10_meetRivals_36 (by decide) rfl ?_
      refine V_iconst 38 B (v := 0) dX10_meetRivals_38 (by decide +kernel) ?_
      refine V_istore 39 B (lv2 := [(6, .int 0), (4, .long o10), (3, .int (a3.1 0)), (2, .int (a3.1 1)), (0, .ref h9), (1, .int p6)]) dX10_meetRivals_39 (by decide) rfl ?_
      refine V_iconst 41 B (v := 0) dX10_meetRivals_41 (by decide +kernel) ?_
      refine V_istore 42 B (lv2 := [(7, .int 0), (6, .int 0), (4, .long o10), (3, .int (a3.1 0)), (2, .int (a3.1 1)), (0, .ref h9), (1, .int p6)]) dX10_meetRivals_42 (by decide) rfl ?_
      refine V_wloop (α := UU) (fun a => (2147483647 - ((a.1 0)).toInt).toNat) (fun a => 0 ≤ ((a.1 0)).toInt) (fun a => [(7, .int (a.1 0)), (6, .int (a.1 1)), (4, .long o10), (3, .int (a3.1 0)), (2, .int (a3.1 1)), (0, .ref h9), (1, .int p6)]) (fun a => [(h0, oC 2 [.ref g0, .ref g1, .ref g2, .ref g3, .ref h1, .ref h3, .ref g4, .ref h5, .ref h7, .ref g5, .ref g6, .int p0]), (h1, oC 7 [.ref h2, .int p1]), (h2, aJ Y 6 f0), (h3, oC 3 [.ref h4, .int p2]), (h4, aI Y 80 f1), (h5, oC 7 [.ref h6, .int p3]), (h6, aJ Y 80 f2), (h7, oC 7 [.ref h8, .int p4]), (h8, aJ Y 10 f3), (h9, oC 11 [.ref h0, .ref g7, .ref g8, .ref g9, .ref h10]), (h10, oC 3 [.ref h11, .int (a.1 2)]), (h11, aI Y 10 (a.2.2.1 0))]) (mkU [0, 0, (a3.1 2)] [] [(a3.2.2.1 0)] [] []) (show (0 : Int) ≤ (0 : Int32).toInt by decide +kernel) rfl rfl (fun a13 hI15 IH14 => ?_)
      refine V_lv [(7, .int (a13.1 0)), (6, .int (a13.1 1)), (4, .long o10), (3, .int (a3.1 0)), (2, .int (a3.1 1)), (0, .ref h9), (1, .int p6)] [0, 1, 2, 3, 4, 5, 6] rfl ?_
      refine V_ws [(h0, oC 2 [.ref g0, .ref g1, .ref g2, .ref g3, .ref h1, .ref h3, .ref g4, .ref h5, .ref h7, .ref g5, .ref g6, .int p0]), (h1, oC 7 [.ref h2, .int p1]), (h2, aJ Y 6 f0), (h3, oC 3 [.ref h4, .int p2]), (h4, aI Y 80 f1), (h5, oC 7 [.ref h6, .int p3]), (h6, aJ Y 80 f2), (h7, oC 7 [.ref h8, .int p4]), (h8, aJ Y 10 f3), (h9, oC 11 [.ref h0, .ref g7, .ref g8, .ref g9, .ref h10]), (h10, oC 3 [.ref h11, .int (a13.1 2)]), (h11, aI Y 10 (a13.2.2.1 0))] rfl ?_
      refine V_iload 44 B dX10_meetRivals_44 0 rfl ?_
      refine V_aload_n 46 B dX10_meetRivals_46 5 rfl ?_
      refine V_get 47 B gf_RX10_9 9 rfl rfl dX10_meetRivals_47 ?_
      refine V_get 50 B gf_RX10_140 0 rfl rfl dX10_meetRivals_50 ?_
      refine V_gvi 53 B envX EB (st := [.int (a13.1 0)]) (As := []) (fun sz => sX5_size_1 l D Y h7 h8 p4 sz) glV_RX10_143 ⟨rfl, rfl⟩ ⟨(Nat.le_of_ble_eq_true rfl), (Nat.le_of_ble_eq_true rfl)⟩ ⟨(Nat.le_of_ble_eq_true rfl), (Nat.le_of_ble_eq_true rfl)⟩ [7] rfl 7 0 rfl rfl rfl rfl (Nat.le_of_ble_eq_true rfl) rfl (fun _ _ _ => rfl) dX10_meetRivals_53 (fun j16 u17 w18 => ?_)
      refine V_ws [(h0, oC 2 [.ref g0, .ref g1, .ref g2, .ref g3, .ref h1, .ref h3, .ref g4, .ref h5, .ref h7, .ref g5, .ref g6, .int p0]), (h1, oC 7 [.ref h2, .int p1]), (h2, aJ Y 6 f0), (h3, oC 3 [.ref h4, .int p2]), (h4, aI Y 80 f1), (h5, oC 7 [.ref h6, .int p3]), (h6, aJ Y 80 f2), (h7, oC 7 [.ref h8, .int p4]), (h8, aJ Y 10 f3), (h9, oC 11 [.ref h0, .ref g7, .ref g8, .ref g9, .ref h10]), (h10, oC 3 [.ref h11, .int (a13.1 2)]), (h11, aI Y 10 (a13.2.2.1 0))] rfl ?_
      refine V_icmp_ge 56 B 100 dX10_meetRivals_56 (by decide) (fun k19 => ?_) (fun k19 => ?_)
      ·
        refine V_aload_n 100 B dX10_meetRivals_100 5 rfl ?_
        refine V_get 101 B gf_RX10_34 9 rfl rfl dX10_meetRivals_101 ?_
        refine V_iload 104 B dX10_meetRivals_104 1 rfl ?_
        refine V_gvi 106 B envX EB (st := []) (As := [.int (a13.1 1)]) (fun sz => sX1_push_7 l D Y h10 h11 (a13.1 2) (a13.2.2.1 0) (a13.1 1) sz) glV_RX10_82 ⟨rfl, rfl⟩ ⟨(Nat.le_of_ble_eq_true rfl), (Nat.le_of_ble_eq_true rfl)⟩ ⟨(Nat.le_of_ble_eq_true rfl), (Nat.le_of_ble_eq_true rfl)⟩ [10, 0] rfl 3 0 rfl rfl rfl rfl (Nat.le_of_ble_eq_true rfl) rfl (fun _ _ _ => rfl) dX10_meetRivals_106 (fun j20 u21 w22 => ?_)
        refine V_ws [(h0, oC 2 [.ref g0, .ref g1, .ref g2, .ref g3, .ref h1, .ref h3, .ref g4, .ref h5, .ref h7, .ref g5, .ref g6, .int p0]), (h1, oC 7 [.ref h2, .int p1]), (h2, aJ Y 6 f0), (h3, oC 3 [.ref h4, .int p2]), (h4, aI Y 80 f1), (h5, oC 7 [.ref h6, .int p3]), (h6, aJ Y 80 f2), (h7, oC 7 [.ref h8, .int p4]), (h8, aJ Y 10 f3), (h9, oC 11 [.ref h0, .ref g7, .ref g8, .ref g9, .ref h10]), (h10, oC 3 [.ref h11, .int (u21.1 0)]), (h11, aI Y 10 (u21.2.2.1 0))] rfl ?_
        rcases w22 with rfl | rfl
        ·
          refine V_pop 109 B dX10_meetRivals_109 rfl ?_
          refine V_aload_n 110 B dX10_meetRivals_110 5 rfl ?_
          refine V_get 111 B gf_RX10_9 9 rfl rfl dX10_meetRivals_111 ?_
          refine V_iload_n 114 B dX10_meetRivals_114 6 rfl ?_
          refine V_lload 115 B dX10_meetRivals_115 2 rfl ?_
          refine V_gvi 117 B envX EB (st := []) (As := [.int p6, .long o10]) (fun sz => sX0_isBarred_1 l D Y h0 h1 h2 h3 h4 h5 h6 g0 g1 g2 g3 g4 h7 g5 g6 p0 p1 f0 p2 f1 p3 f2 p6 o10 sz) glV_RX10_155 ⟨rfl, rfl⟩ ⟨(Nat.le_of_ble_eq_true rfl), (Nat.le_of_ble_eq_true rfl)⟩ ⟨(Nat.le_of_ble_eq_true rfl), (Nat.le_of_ble_eq_true rfl)⟩ [0, 0, 0, 0, 0, 0, 0] rfl 2 0 rfl rfl rfl rfl (Nat.le_of_ble_eq_true rfl) rfl (fun _ _ _ => rfl) dX10_meetRivals_117 (fun j23 u24 w25 => ?_)
          refine V_ws [(h0, oC 2 [.ref g0, .ref g1, .ref g2, .ref g3, .ref h1, .ref h3, .ref g4, .ref h5, .ref h7, .ref g5, .ref g6, .int p0]), (h1, oC 7 [.ref h2, .int p1]), (h2, aJ Y 6 f0), (h3, oC 3 [.ref h4, .int p2]), (h4, aI Y 80 f1), (h5, oC 7 [.ref h6, .int p3]), (h6, aJ Y 80 f2), (h7, oC 7 [.ref h8, .int p4]), (h8, aJ Y 10 f3), (h9, oC 11 [.ref h0, .ref g7, .ref g8, .ref g9, .ref h10]), (h10, oC 3 [.ref h11, .int (u21.1 0)]), (h11, aI Y 10 (u21.2.2.1 0))] rfl ?_
          rcases w25 with rfl | rfl
          ·
            refine V_if_eq_t 120 B 129 dX10_meetRivals_120 (by decide) (by decide +kernel) ?_
            refine V_iinc 129 B (v := ((a3.1 0) + Int32.ofInt 1)) (lv2 := [(3, .int ((a3.1 0) + Int32.ofInt 1)), (7, .int (a13.1 0)), (6, .int (a13.1 1)), (4, .long o10), (2, .int (a3.1 1)), (0, .ref h9), (1, .int p6)]) dX10_meetRivals_129 3 rfl rfl (by decide) rfl ?_
            refine V_goto 132 B 11 dX10_meetRivals_132 (by decide) ?_
            refine V_lv [(3, .int ((a3.1 0) + Int32.ofInt 1)), (2, .int (a3.1 1)), (0, .ref h9), (1, .int p6)] [0, 4, 5, 6] rfl ?_
            exact IH4 (mkU [((a3.1 0) + Int32.ofInt 1), (a3.1 1), (u21.1 0)] [] [(u21.2.2.1 0)] [] []) (Int.le_trans (by decide) (o_add_lo (c := Int32.ofInt 1) hI5 (o_lt_hi (o_nle k9) (i_hi j6) (k := 2147483646) (by decide +kernel)) (by decide +kernel) (by decide +kernel) (k := 1) (by decide +kernel))) (up_dec (x := (a3.1 0)) (c := Int32.ofInt 1) (by decide +kernel) hI5 (o_lt_hi (o_nle k9) (i_hi j6) (k := 2147483646) (by decide +kernel)) (by decide))
          ·
            refine V_if_eq_f 120 B 129 dX10_meetRivals_120 (by decide) (by decide +kernel) ?_
            refine V_iload_n 123 B dX10_meetRivals_123 4 rfl ?_
            refine V_iconst 124 B (v := 1) dX10_meetRivals_124 (by decide +kernel) ?_
            refine V_iload_n 125 B dX10_meetRivals_125 3 rfl ?_
            refine V_ishl 126 B dX10_meetRivals_126 rfl ?_
            refine V_nmi (fun j26 _ => ?_)
            refine V_ior 127 B dX10_meetRivals_127 rfl ?_
            refine V_nmi (fun j27 _ => ?_)
            refine V_istore_n 128 B (lv2 := [(2, .int j27), (7, .int (a13.1 0)), (6, .int (a13.1 1)), (4, .long o10), (3, .int (a3.1 0)), (0, .ref h9), (1, .int p6)]) dX10_meetRivals_128 (by decide) rfl ?_
            refine V_iinc 129 B (v := ((a3.1 0) + Int32.ofInt 1)) (lv2 := [(3, .int ((a3.1 0) + Int32.ofInt 1)), (2, .int j27), (7, .int (a13.1 0)), (6, .int (a13.1 1)), (4, .long o10), (0, .ref h9), (1, .int p6)]) dX10_meetRivals_129 4 rfl rfl (by decide) rfl ?_
            refine V_goto 132 B 11 dX10_meetRivals_132 (by decide) ?_
            refine V_lv [(3, .int ((a3.1 0) + Int32.ofInt 1)), (2, .int j27), (0, .ref h9), (1, .int p6)] [0, 1, 5, 6] rfl ?_
            exact IH4 (mkU [((a3.1 0) + Int32.ofInt 1), j27, (u21.1 0)] [] [(u21.2.2.1 0)] [] []) (Int.le_trans (by decide) (o_add_lo (c := Int32.ofInt 1) hI5 (o_lt_hi (o_nle k9) (i_hi j6) (k := 2147483646) (by decide +kernel)) (by decide +kernel) (by decide +kernel) (k := 1) (by decide +kernel))) (up_dec (x := (a3.1 0)) (c := Int32.ofInt 1) (by decide +kernel) hI5 (o_lt_hi (o_nle k9) (i_hi j6) (k := 2147483646) (by decide +kernel)) (by decide))
        ·
          refine V_pop 109 B dX10_meetRivals_109 rfl ?_
          refine V_aload_n 110 B dX10_meetRivals_110 5 rfl ?_
          refine V_get 111 B gf_RX10_9 9 rfl rfl dX10_meetRivals_111 ?_
          refine V_iload_n 114 B dX10_meetRivals_114 6 rfl ?_
          refine V_lload 115 B dX10_meetRivals_115 2 rfl ?_
          refine V_gvi 117 B envX EB (st := []) (As := [.int p6, .long o10]) (fun sz => sX0_isBarred_1 l D Y h0 h1 h2 h3 h4 h5 h6 g0 g1 g2 g3 g4 h7 g5 g6 p0 p1 f0 p2 f1 p3 f2 p6 o10 sz) glV_RX10_155 ⟨rfl, rfl⟩ ⟨(Nat.le_of_ble_eq_true rfl), (Nat.le_of_ble_eq_true rfl)⟩ ⟨(Nat.le_of_ble_eq_true rfl), (Nat.le_of_ble_eq_true rfl)⟩ [0, 0, 0, 0, 0, 0, 0] rfl 2 0 rfl rfl rfl rfl (Nat.le_of_ble_eq_true rfl) rfl (fun _ _ _ => rfl) dX10_meetRivals_117 (fun j28 u29 w30 => ?_)
          refine V_ws [(h0, oC 2 [.ref g0, .ref g1, .ref g2, .ref g3, .ref h1, .ref h3, .ref g4, .ref h5, .ref h7, .ref g5, .ref g6, .int p0]), (h1, oC 7 [.ref h2, .int p1]), (h2, aJ Y 6 f0), (h3, oC 3 [.ref h4, .int p2]), (h4, aI Y 80 f1), (h5, oC 7 [.ref h6, .int p3]), (h6, aJ Y 80 f2), (h7, oC 7 [.ref h8, .int p4]), (h8, aJ Y 10 f3), (h9, oC 11 [.ref h0, .ref g7, .ref g8, .ref g9, .ref h10]), (h10, oC 3 [.ref h11, .int (u21.1 0)]), (h11, aI Y 10 (u21.2.2.1 0))] rfl ?_
          rcases w30 with rfl | rfl
          ·
            refine V_if_eq_t 120 B 129 dX10_meetRivals_120 (by decide) (by decide +kernel) ?_
            refine V_iinc 129 B (v := ((a3.1 0) + Int32.ofInt 1)) (lv2 := [(3, .int ((a3.1 0) + Int32.ofInt 1)), (7, .int (a13.1 0)), (6, .int (a13.1 1)), (4, .long o10), (2, .int (a3.1 1)), (0, .ref h9), (1, .int p6)]) dX10_meetRivals_129 3 rfl rfl (by decide) rfl ?_
            refine V_goto 132 B 11 dX10_meetRivals_132 (by decide) ?_
            refine V_lv [(3, .int ((a3.1 0) + Int32.ofInt 1)), (2, .int (a3.1 1)), (0, .ref h9), (1, .int p6)] [0, 4, 5, 6] rfl ?_
            exact IH4 (mkU [((a3.1 0) + Int32.ofInt 1), (a3.1 1), (u21.1 0)] [] [(u21.2.2.1 0)] [] []) (Int.le_trans (by decide) (o_add_lo (c := Int32.ofInt 1) hI5 (o_lt_hi (o_nle k9) (i_hi j6) (k := 2147483646) (by decide +kernel)) (by decide +kernel) (by decide +kernel) (k := 1) (by decide +kernel))) (up_dec (x := (a3.1 0)) (c := Int32.ofInt 1) (by decide +kernel) hI5 (o_lt_hi (o_nle k9) (i_hi j6) (k := 2147483646) (by decide +kernel)) (by decide))
          ·
            refine V_if_eq_f 120 B 129 dX10_meetRivals_120 (by decide) (by decide +kernel) ?_
            refine V_iload_n 123 B dX10_meetRivals_123 4 rfl ?_
            refine V_iconst 124 B (v := 1) dX10_meetRivals_124 (by decide +kernel) ?_
            refine V_iload_n 125 B dX10_meetRivals_125 3 rfl ?_
            refine V_ishl 126 B dX10_meetRivals_126 rfl ?_
            refine V_nmi (fun j31 _ => ?_)
            refine V_ior 127 B dX10_meetRivals_127 rfl ?_
            refine V_nmi (fun j32 _ => ?_)
            refine V_istore_n 128 B (lv2 := [(2, .int j32), (7, .int (a13.1 0)), (6, .int (a13.1 1)), (4, .long o10), (3, .int (a3.1 0)), (0, .ref h9), (1, .int p6)]) dX10_meetRivals_128 (by decide) rfl ?_
            refine V_iinc 129 B (v := ((a3.1 0) + Int32.ofInt 1)) (lv2 := [(3, .int ((a3.1 0) + Int32.ofInt 1)), (2, .int j32), (7, .int (a13.1 0)), (6, .int (a13.1 1)), (4, .long o10), (0, .ref h9), (1, .int p6)]) dX10_meetRivals_129 4 rfl rfl (by decide) rfl ?_
            refine V_goto 132 B 11 dX10_meetRivals_132 (by decide) ?_
            refine V_lv [(3, .int ((a3.1 0) + Int32.ofInt 1)), (2, .int j32), (0, .ref h9), (1, .int p6)] [0, 1, 5, 6] rfl ?_
            exact IH4 (mkU [((a3.1 0) + Int32.ofInt 1), j32, (u21.1 0)] [] [(u21.2.2.1 0)] [] []) (Int.le_trans (by decide) (o_add_lo (c := Int32.ofInt 1) hI5 (o_lt_hi (o_nle k9) (i_hi j6) (k := 2147483646) (by decide +kernel)) (by decide +kernel) (by decide +kernel) (k := 1) (by decide +kernel))) (up_dec (x := (a3.1 0)) (c := Int32.ofInt 1) (by decide +kernel) hI5 (o_lt_hi (o_nle k9) (i_hi j6) (k := 2147483646) (by decide +kernel)) (by decide))
      ·
        refine V_iload 59 B dX10_meetRivals_59 0 rfl ?_
        refine V_iload_n 61 B dX10_meetRivals_61 3 rfl ?_
        refine V_icmp_eq 62 B 94 dX10_meetRivals_62 (by decide) (fun k33 => ?_) (fun k33 => ?_)
        ·
          refine V_iinc 94 B (v := ((a13.1 0) + Int32.ofInt 1)) (lv2 := [(7, .int ((a13.1 0) + Int32.ofInt 1)), (6, .int (a13.1 1)), (4, .long o10), (3, .int (a3.1 0)), (2, .int (a3.1 1)), (0, .ref h9), (1, .int p6)]) dX10_meetRivals_94 0 rfl rfl (by decide) rfl ?_
          refine V_goto 97 B 44 dX10_meetRivals_97 (by decide) ?_
          refine V_lv [(7, .int ((a13.1 0) + Int32.ofInt 1)), (6, .int (a13.1 1)), (4, .long o10), (3, .int (a3.1 0)), (2, .int (a3.1 1)), (0, .ref h9), (1, .int p6)] [0, 1, 2, 3, 4, 5, 6] rfl ?_
          exact IH14 (mkU [((a13.1 0) + Int32.ofInt 1), (a13.1 1), (a13.1 2)] [] [(a13.2.2.1 0)] [] []) (Int.le_trans (by decide) (o_add_lo (c := Int32.ofInt 1) hI15 (o_lt_hi (o_nle k19) (i_hi j16) (k := 2147483646) (by decide +kernel)) (by decide +kernel) (by decide +kernel) (k := 1) (by decide +kernel))) (up_dec (x := (a13.1 0)) (c := Int32.ofInt 1) (by decide +kernel) hI15 (o_lt_hi (o_nle k19) (i_hi j16) (k := 2147483646) (by decide +kernel)) (by decide))
        ·
          refine V_lload 65 B dX10_meetRivals_65 2 rfl ?_
          refine V_aload_n 67 B dX10_meetRivals_67 5 rfl ?_
          refine V_get 68 B gf_RX10_9 9 rfl rfl dX10_meetRivals_68 ?_
          refine V_get 71 B gf_RX10_140 0 rfl rfl dX10_meetRivals_71 ?_
          refine V_iload 74 B dX10_meetRivals_74 0 rfl ?_
          refine V_gvl 76 B envX EB (st := [.long o10]) (As := [.int (a13.1 0)]) (fun sz => sX5_at_4 l D Y h7 h8 p4 f3 (a13.1 0) sz) glV_RX10_59 ⟨rfl, rfl⟩ ⟨(Nat.le_of_ble_eq_true rfl), (Nat.le_of_ble_eq_true rfl)⟩ ⟨(Nat.le_of_ble_eq_true rfl), (Nat.le_of_ble_eq_true rfl)⟩ [7, 0] rfl 7 0 rfl rfl rfl rfl (Nat.le_of_ble_eq_true rfl) rfl (fun _ _ _ => rfl) dX10_meetRivals_76 (fun o34 u35 w36 => ?_)
          refine V_ws [(h0, oC 2 [.ref g0, .ref g1, .ref g2, .ref g3, .ref h1, .ref h3, .ref g4, .ref h5, .ref h7, .ref g5, .ref g6, .int p0]), (h1, oC 7 [.ref h2, .int p1]), (h2, aJ Y 6 f0), (h3, oC 3 [.ref h4, .int p2]), (h4, aI Y 80 f1), (h5, oC 7 [.ref h6, .int p3]), (h6, aJ Y 80 f2), (h7, oC 7 [.ref h8, .int p4]), (h8, aJ Y 10 f3), (h9, oC 11 [.ref h0, .ref g7, .ref g8, .ref g9, .ref h10]), (h10, oC 3 [.ref h11, .int (a13.1 2)]), (h11, aI Y 10 (a13.2.2.1 0))] rfl ?_
          refine V_gsi 79 B envX EB (st := []) (As := [.long o10, .long o34]) (fun sz => sX6_clashBetween_1 l D Y  o10 o34 sz) glS_RX10_66 ⟨rfl, rfl⟩ ⟨(Nat.le_of_ble_eq_true rfl), (Nat.le_of_ble_eq_true rfl)⟩ ⟨(Nat.le_of_ble_eq_true rfl), (Nat.le_of_ble_eq_true rfl)⟩ [] rfl rfl (Nat.le_of_ble_eq_true rfl) rfl (fun _ _ _ => rfl) dX10_meetRivals_79 (fun j37 u38 w39 => ?_)
          refine V_ws [(h0, oC 2 [.ref g0, .ref g1, .ref g2, .ref g3, .ref h1, .ref h3, .ref g4, .ref h5, .ref h7, .ref g5, .ref g6, .int p0]), (h1, oC 7 [.ref h2, .int p1]), (h2, aJ Y 6 f0), (h3, oC 3 [.ref h4, .int p2]), (h4, aI Y 80 f1), (h5, oC 7 [.ref h6, .int p3]), (h6, aJ Y 80 f2), (h7, oC 7 [.ref h8, .int p4]), (h8, aJ Y 10 f3), (h9, oC 11 [.ref h0, .ref g7, .ref g8, .ref g9, .ref h10]), (h10, oC 3 [.ref h11, .int (a13.1 2)]), (h11, aI Y 10 (a13.2.2.1 0))] rfl ?_
          rcases w39 with rfl | rfl
          ·
            refine V_if_eq_t 82 B 94 dX10_meetRivals_82 (by decide) (by decide +kernel) ?_
            refine V_iinc 94 B (v := ((a13.1 0) + Int32.ofInt 1)) (lv2 := [(7, .int ((a13.1 0) + Int32.ofInt 1)), (6, .int (a13.1 1)), (4, .long o10), (3, .int (a3.1 0)), (2, .int (a3.1 1)), (0, .ref h9), (1, .int p6)]) dX10_meetRivals_94 0 rfl rfl (by decide) rfl ?_
            refine V_goto 97 B 44 dX10_meetRivals_97 (by decide) ?_
            refine V_lv [(7, .int ((a13.1 0) + Int32.ofInt 1)), (6, .int (a13.1 1)), (4, .long o10), (3, .int (a3.1 0)), (2, .int (a3.1 1)), (0, .ref h9), (1, .int p6)] [0, 1, 2, 3, 4, 5, 6] rfl ?_
            exact IH14 (mkU [((a13.1 0) + Int32.ofInt 1), (a13.1 1), (a13.1 2)] [] [(a13.2.2.1 0)] [] []) (Int.le_trans (by decide) (o_add_lo (c := Int32.ofInt 1) hI15 (o_lt_hi (o_nle k19) (i_hi j16) (k := 2147483646) (by decide +kernel)) (by decide +kernel) (by decide +kernel) (k := 1) (by decide +kernel))) (up_dec (x := (a13.1 0)) (c := Int32.ofInt 1) (by decide +kernel) hI15 (o_lt_hi (o_nle k19) (i_hi j16) (k := 2147483646) (by decide +kernel)) (by decide))
          ·
            refine V_if_eq_f 82 B 94 dX10_meetRivals_82 (by decide) (by decide +kernel) ?_
            refine V_iload 85 B dX10_meetRivals_85 1 rfl ?_
            refine V_iconst 87 B (v := 1) dX10_meetRivals_87 (by decide +kernel) ?_
            refine V_iload 88 B dX10_meetRivals_88 0 rfl ?_
            refine V_ishl 90 B dX10_meetRivals_90 rfl ?_
            refine V_nmi (fun j40 _ => ?_)
            refine V_ior 91 B dX10_meetRivals_91 rfl ?_
            refine V_nmi (fun j41 _ => ?_)
            refine V_istore 92 B (lv2 := [(6, .int j41), (7, .int (a13.1 0)), (4, .long o10), (3, .int (a3.1 0)), (2, .int (a3.1 1)), (0, .ref h9), (1, .int p6)]) dX10_meetRivals_92 (by decide) rfl ?_
            refine V_iinc 94 B (v := ((a13.1 0) + Int32.ofInt 1)) (lv2 := [(7, .int ((a13.1 0) + Int32.ofInt 1)), (6, .int j41), (4, .long o10), (3, .int (a3.1 0)), (2, .int (a3.1 1)), (0, .ref h9), (1, .int p6)]) dX10_meetRivals_94 1 rfl rfl (by decide) rfl ?_
            refine V_goto 97 B 44 dX10_meetRivals_97 (by decide) ?_
            refine V_lv [(7, .int ((a13.1 0) + Int32.ofInt 1)), (6, .int j41), (4, .long o10), (3, .int (a3.1 0)), (2, .int (a3.1 1)), (0, .ref h9), (1, .int p6)] [0, 1, 2, 3, 4, 5, 6] rfl ?_
            exact IH14 (mkU [((a13.1 0) + Int32.ofInt 1), j41, (a13.1 2)] [] [(a13.2.2.1 0)] [] []) (Int.le_trans (by decide) (o_add_lo (c := Int32.ofInt 1) hI15 (o_lt_hi (o_nle k19) (i_hi j16) (k := 2147483646) (by decide +kernel)) (by decide +kernel) (by decide +kernel) (k := 1) (by decide +kernel))) (up_dec (x := (a13.1 0)) (c := Int32.ofInt 1) (by decide +kernel) hI15 (o_lt_hi (o_nle k19) (i_hi j16) (k := 2147483646) (by decide +kernel)) (by decide)))
theorem glV_RX10_144 : GLV RX10 144 yX10_meetRivals RX10 cX10_meetRivals 8 (some .int) 1 := ⟨⟨(mT7 109 rfl rfl), (mT7 111 rfl rfl), (mTs 25 rfl rfl), (mT1 8 rfl rfl), (mT7 112 rfl rfl)⟩, by decide +kernel⟩
theorem dX10_fewestDropped_20 : decode cX10_fewestDropped 20 = .ok (.istore_n 3, 1) := by decide +kernel
theorem dX10_fewestDropped_21 : decode cX10_fewestDropped 21 = .ok (.iload_n 2, 1) := by decide +kernel
theorem dX10_fewestDropped_22 : decode cX10_fewestDropped 22 = .ok (.istore 4, 2) := by decide +kernel
theorem dX10_fewestDropped_24 : decode cX10_fewestDropped 24 = .ok (.iconst 0, 1) := by decide +kernel
theorem dX10_fewestDropped_25 : decode cX10_fewestDropped 25 = .ok (.istore 5, 2) := by decide +kernel
theorem dX10_fewestDropped_27 : decode cX10_fewestDropped 27 = .ok (.iload 5, 2) := by decide +kernel
theorem dX10_fewestDropped_29 : decode cX10_fewestDropped 29 = .ok (.iload_n 2, 1) := by decide +kernel
theorem dX10_fewestDropped_30 : decode cX10_fewestDropped 30 = .ok (.if_icmp .ge 48, 3) := by decide +kernel
theorem dX10_fewestDropped_78 : decode cX10_fewestDropped 78 = .ok (.iload 4, 2) := by decide +kernel
theorem dX10_fewestDropped_80 : decode cX10_fewestDropped 80 = .ok (.ireturn, 1) := by decide +kernel
theorem dX10_fewestDropped_33 : decode cX10_fewestDropped 33 = .ok (.iload 5, 2) := by decide +kernel
theorem dX10_fewestDropped_35 : decode cX10_fewestDropped 35 = .ok (.invokestatic 147, 3) := by decide +kernel
theorem glS_RX10_147 : GLS RX10 147 yJ6_bitCount_0f7a4 cJ6_bitCount_0f7a4 1 (some .int) 1 := ⟨⟨(mT7 114 rfl rfl), (mT4 6 rfl rfl), (mT1 25 rfl rfl), (mT4 7 rfl rfl)⟩, by decide +kernel⟩
theorem dX10_fewestDropped_38 : decode cX10_fewestDropped 38 = .ok (.iload 4, 2) := by decide +kernel
theorem dX10_fewestDropped_40 : decode cX10_fewestDropped 40 = .ok (.invokestatic 147, 3) := by decide +kernel
theorem dX10_fewestDropped_43 : decode cX10_fewestDropped 43 = .ok (.if_icmp .ge 29, 3) := by decide +kernel
theorem dX10_fewestDropped_72 : decode cX10_fewestDropped 72 = .ok (.iinc 5 1, 3) := by decide +kernel
theorem dX10_fewestDropped_75 : decode cX10_fewestDropped 75 = .ok (.goto (-48), 3) := by decide +kernel
theorem dX10_fewestDropped_46 : decode cX10_fewestDropped 46 = .ok (.iload_n 3, 1) := by decide +kernel
theorem dX10_fewestDropped_47 : decode cX10_fewestDropped 47 = .ok (.iload 5, 2) := by decide +kernel
theorem dX10_fewestDropped_49 : decode cX10_fewestDropped 49 = .ok (.iconst (-1), 1) := by decide +kernel
theorem dX10_fewestDropped_50 : decode cX10_fewestDropped 50 = .ok (.ixor, 1) := by decide +kernel
theorem dX10_fewestDropped_51 : decode cX10_fewestDropped 51 = .ok (.iand, 1) := by decide +kernel
theorem dX10_fewestDropped_52 : decode cX10_fewestDropped 52 = .ok (.ifCond .ne 20, 3) := by decide +kernel
theorem dX10_fewestDropped_55 : decode cX10_fewestDropped 55 = .ok (.aload_n 0, 1) := by decide +kernel
theorem dX10_fewestDropped_56 : decode cX10_fewestDropped 56 = .ok (.iload_n 2, 1) := by decide +kernel
theorem dX10_fewestDropped_57 : decode cX10_fewestDropped 57 = .ok (.iload 5, 2) := by decide +kernel
theorem dX10_fewestDropped_59 : decode cX10_fewestDropped 59 = .ok (.iconst (-1), 1) := by decide +kernel
theorem dX10_fewestDropped_60 : decode cX10_fewestDropped 60 = .ok (.ixor, 1) := by decide +kernel
theorem dX10_fewestDropped_61 : decode cX10_fewestDropped 61 = .ok (.iand, 1) := by decide +kernel
theorem dX10_fewestDropped_62 : decode cX10_fewestDropped 62 = .ok (.invokevirtual 152, 3) := by decide +kernel
theorem dX10_fitTogether_0 : decode cX10_fitTogether 0 = .ok (.iconst 0, 1) := by decide +kernel
theorem dX10_fitTogether_1 : decode cX10_fitTogether 1 = .ok (.istore_n 2, 1) := by decide +kernel
theorem dX10_fitTogether_2 : decode cX10_fitTogether 2 = .ok (.iload_n 2, 1) := by decide +kernel
theorem dX10_fitTogether_3 : decode cX10_fitTogether 3 = .ok (.aload_n 0, 1) := by decide +kernel
theorem dX10_fitTogether_4 : decode cX10_fitTogether 4 = .ok (.getfield 34, 3) := by decide +kernel
theorem dX10_fitTogether_7 : decode cX10_fitTogether 7 = .ok (.invokevirtual 62, 3) := by decide +kernel
theorem dX10_fitTogether_10 : decode cX10_fitTogether 10 = .ok (.if_icmp .ge 33, 3) := by decide +kernel
theorem dX10_fitTogether_43 : decode cX10_fitTogether 43 = .ok (.iconst 1, 1) := by decide +kernel
theorem dX10_fitTogether_44 : decode cX10_fitTogether 44 = .ok (.ireturn, 1) := by decide +kernel
theorem dX10_fitTogether_13 : decode cX10_fitTogether 13 = .ok (.iload_n 1, 1) := by decide +kernel
theorem dX10_fitTogether_14 : decode cX10_fitTogether 14 = .ok (.iload_n 2, 1) := by decide +kernel
theorem dX10_fitTogether_15 : decode cX10_fitTogether 15 = .ok (.ishr, 1) := by decide +kernel
theorem dX10_fitTogether_16 : decode cX10_fitTogether 16 = .ok (.iconst 1, 1) := by decide +kernel
theorem dX10_fitTogether_17 : decode cX10_fitTogether 17 = .ok (.iand, 1) := by decide +kernel
theorem dX10_fitTogether_18 : decode cX10_fitTogether 18 = .ok (.iconst 1, 1) := by decide +kernel
theorem dX10_fitTogether_19 : decode cX10_fitTogether 19 = .ok (.if_icmp .ne 18, 3) := by decide +kernel
theorem dX10_fitTogether_37 : decode cX10_fitTogether 37 = .ok (.iinc 2 1, 3) := by decide +kernel
theorem dX10_fitTogether_40 : decode cX10_fitTogether 40 = .ok (.goto (-38), 3) := by decide +kernel
theorem dX10_fitTogether_22 : decode cX10_fitTogether 22 = .ok (.aload_n 0, 1) := by decide +kernel
theorem dX10_fitTogether_23 : decode cX10_fitTogether 23 = .ok (.getfield 34, 3) := by decide +kernel
theorem dX10_fitTogether_26 : decode cX10_fitTogether 26 = .ok (.iload_n 2, 1) := by decide +kernel
theorem dX10_fitTogether_27 : decode cX10_fitTogether 27 = .ok (.invokevirtual 49, 3) := by decide +kernel
set_option maxRecDepth 100000 in
set_option maxHeartbeats 4000000 in
theorem sX1_at_8 (l : Launch) (D : va_G) (Y : Nat → ClassId) (h0 : Nat) (h1 : Nat) (p0 : Int32) (f0 : Nat → Int32) (p1 : Int32) (sz : Nat) : Met l yX1_at (WSm yX1_at cX1_at 2 (some .int)) (mkR 0 0 0 0) (PreG EX D Y [.ref h0, .int p1] [(h0, oC 3 [.ref h1, .int p0]), (h1, aI Y 10 f0)] sz) (QI D (fun (_ : Int32) (_ : UU) => True) (fun (u : UU) => [(h0, oC 3 [.ref h1, .int p0]), (h1, aI Y 10 f0)]) (va_A [(h0, oC 3 [.ref h1, .int p0]), (h1, aI Y 10 f0)] sz)) 0 0 (va_A [(h0, oC 3 [.ref h1, .int p0]), (h1, aI Y 10 f0)] sz) :=
  gmet_of (by decide +kernel) (Nat.le_of_ble_eq_true rfl) (fun p e s m args below meth c B EB hsz => by
    have B : VB p s m args meth c D Y (va_A [(h0, oC 3 [.ref h1, .int p0]), (h1, aI Y 10 f0)] sz) cX1_at 2 RX1 (some .int) := B
    refine V_iload_n 0 B dX1_at_0 1 rfl ?_
    refine V_if_lt 1 B 30 dX1_at_1 (by decide) (fun k0 => ?_) (fun k0 => ?_)
    ·
      refine V_iconst 30 B (v := (-1)) dX1_at_30 (by decide +kernel) ?_
      exact V_iret 31 B dX1_at_31 (mkU [] [] [] [] []) trivial rfl
    ·
      refine V_iload_n 4 B dX1_at_4 1 rfl ?_
      refine V_aload_n 5 B dX1_at_5 0 rfl ?_
      refine V_get 6 B gf_RX1_21 0 rfl rfl dX1_at_6 ?_
      refine V_icmp_ge 9 B 30 dX1_at_9 (by decide) (fun k1 => ?_) (fun k1 => ?_)
      ·
        refine V_iconst 30 B (v := (-1)) dX1_at_30 (by decide +kernel) ?_
        exact V_iret 31 B dX1_at_31 (mkU [] [] [] [] []) trivial rfl
      ·
        refine V_iload_n 12 B dX1_at_12 1 rfl ?_
        refine V_aload_n 13 B dX1_at_13 0 rfl ?_
        refine V_get 14 B gf_RX1_15 0 rfl rfl dX1_at_14 ?_
        refine V_alenI 17 B (v := 10) 1 rfl (by decide +kernel) dX1_at_17 ?_
        refine V_icmp_ge 18 B 30 dX1_at_18 (by decide) (fun k2 => ?_) (fun k2 => ?_)
        ·
          refine V_iconst 30 B (v := (-1)) dX1_at_30 (by decide +kernel) ?_
          exact V_iret 31 B dX1_at_31 (mkU [] [] [] [] []) trivial rfl
        ·
          refine V_aload_n 21 B dX1_at_21 0 rfl ?_
          refine V_get 22 B gf_RX1_15 0 rfl rfl dX1_at_22 ?_
          refine V_iload_n 25 B dX1_at_25 1 rfl ?_
          refine V_iald 26 B 1 rfl (vpin_b (b_nlt k0 (n := 0) (by decide +kernel)) (b_nge k2 (n := 9) (by decide +kernel)) (by decide)) dX1_at_26 rfl ?_
          refine V_nmi (fun j3 _ => ?_)
          refine V_goto 27 B 31 dX1_at_27 (by decide) ?_
          exact V_iret 31 B dX1_at_31 (mkU [] [] [] [] []) trivial rfl)
theorem dX10_fitTogether_30 : decode cX10_fitTogether 30 = .ok (.iload_n 1, 1) := by decide +kernel
theorem dX10_fitTogether_31 : decode cX10_fitTogether 31 = .ok (.iand, 1) := by decide +kernel
theorem dX10_fitTogether_32 : decode cX10_fitTogether 32 = .ok (.ifCond .eq 5, 3) := by decide +kernel
theorem dX10_fitTogether_35 : decode cX10_fitTogether 35 = .ok (.iconst 0, 1) := by decide +kernel
theorem dX10_fitTogether_36 : decode cX10_fitTogether 36 = .ok (.ireturn, 1) := by decide +kernel
set_option maxRecDepth 100000 in
set_option maxHeartbeats 4000000 in
theorem sX10_fitTogether_1 (l : Launch) (D : va_G) (Y : Nat → ClassId) (h0 : Nat) (h1 : Nat) (h2 : Nat) (g0 : Nat) (g1 : Nat) (g2 : Nat) (g3 : Nat) (p0 : Int32) (f0 : Nat → Int32) (p1 : Int32) (sz : Nat) : Met l yX10_fitTogether (WSm yX10_fitTogether cX10_fitTogether 3 (some .boolean)) (mkR 1 0 0 21) (PreG EX D Y [.ref h0, .int p1] [(h0, oC 11 [.ref g0, .ref g1, .ref g2, .ref g3, .ref h1]), (h1, oC 3 [.ref h2, .int p0]), (h2, aI Y 10 f0)] sz) (QI D (fun (r : Int32) (_ : UU) => r = 0 ∨ r = 1) (fun (u : UU) => [(h0, oC 11 [.ref g0, .ref g1, .ref g2, .ref g3, .ref h1]), (h1, oC 3 [.ref h2, .int p0]), (h2, aI Y 10 f0)]) (va_A [(h0, oC 11 [.ref g0, .ref g1, .ref g2, .ref g3, .ref h1]), (h1, oC 3 [.ref h2, .int p0]), (h2, aI Y 10 f0)] sz)) 0 0 (va_A [(h0, oC 11 [.ref g0, .ref g1, .ref g2, .ref g3, .ref h1]), (h1, oC 3 [.ref h2, .int p0]), (h2, aI Y 10 f0)] sz) :=
  gmet_of (by decide +kernel) (Nat.le_of_ble_eq_true rfl) (fun p e s m args below meth c B EB hsz => by
    have B : VB p s m args meth c D Y (va_A [(h0, oC 11 [.ref g0, .ref g1, .ref g2, .ref g3, .ref h1]), (h1, oC 3 [.ref h2, .int p0]), (h2, aI Y 10 f0)] sz) cX10_fitTogether 3 RX10 (some .boolean) := B
    refine V_iconst 0 B (v := 0) dX10_fitTogether_0 (by decide +kernel) ?_
    refine V_istore_n 1 B (lv2 := [(2, .int 0), (0, .ref h0), (1, .int p1)]) dX10_fitTogether_1 (by decide) rfl ?_
    refine V_wloop (α := UU) (fun a => (2147483647 - ((a.1 0)).toInt).toNat) (fun a => 0 ≤ ((a.1 0)).toInt) (fun a => [(2, .int (a.1 0)), (0, .ref h0), (1, .int p1)]) (fun a => [(h0, oC 11 [.ref g0, .ref g1, .ref g2, .ref g3, .ref h1]), (h1, oC 3 [.ref h2, .int p0]), (h2, aI Y 10 f0)]) (mkU [0] [] [] [] []) (show (0 : Int) ≤ (0 : Int32).toInt by decide +kernel) rfl rfl (fun a0 hI2 IH1 => ?_)
    refine V_lv [(2, .int (a0.1 0)), (0, .ref h0), (1, .int p1)] [0, 1, 2] rfl ?_
    refine V_ws [(h0, oC 11 [.ref g0, .ref g1, .ref g2, .ref g3, .ref h1]), (h1, oC 3 [.ref h2, .int p0]), (h2, aI Y 10 f0)] rfl ?_
    refine V_iload_n 2 B dX10_fitTogether_2 0 rfl ?_
    refine V_aload_n 3 B dX10_fitTogether_3 1 rfl ?_
    refine V_get 4 B gf_RX10_34 0 rfl rfl dX10_fitTogether_4 ?_
    refine V_gvi 7 B envX EB (st := [.int (a0.1 0)]) (As := []) (fun sz => sX1_size_1 l D Y h1 h2 p0 sz) glV_RX10_62 ⟨rfl, rfl⟩ ⟨(Nat.le_of_ble_eq_true rfl), (Nat.le_of_ble_eq_true rfl)⟩ ⟨(Nat.le_of_ble_eq_true rfl), (Nat.le_of_ble_eq_true rfl)⟩ [1] rfl 3 0 rfl rfl rfl rfl (Nat.le_of_ble_eq_true rfl) rfl (fun _ _ _ => rfl) dX10_fitTogether_7 (fun j3 u4 w5 => ?_)
    refine V_ws [(h0, oC 11 [.ref g0, .ref g1, .ref g2, .ref g3, .ref h1]), (h1, oC 3 [.ref h2, .int p0]), (h2, aI Y 10 f0)] rfl ?_
    refine V_icmp_ge 10 B 43 dX10_fitTogether_10 (by decide) (fun k6 => ?_) (fun k6 => ?_)
    ·
      refine V_iconst 43 B (v := 1) dX10_fitTogether_43 (by decide +kernel) ?_
      exact V_zret 44 B rfl dX10_fitTogether_44 (mkU [] [] [] [] []) (Or.inr rfl) rfl
    ·
      refine V_iload_n 13 B dX10_fitTogether_13 2 rfl ?_
      refine V_iload_n 14 B dX10_fitTogether_14 0 rfl ?_
      refine V_ishr 15 B dX10_fitTogether_15 rfl ?_
      refine V_nmi (fun j7 _ => ?_)
      refine V_iconst 16 B (v := 1) dX10_fitTogether_16 (by decide +kernel) ?_
      refine V_iand 17 B dX10_fitTogether_17 rfl ?_
      refine V_nmi (fun j8 _ => ?_)
      refine V_iconst 18 B (v := 1) dX10_fitTogether_18 (by decide +kernel) ?_
      refine V_icmp_ne 19 B 37 dX10_fitTogether_19 (by decide) (fun k9 => ?_) (fun k9 => ?_)
      ·
        refine V_iinc 37 B (v := ((a0.1 0) + Int32.ofInt 1)) (lv2 := [(2, .int ((a0.1 0) + Int32.ofInt 1)), (0, .ref h0), (1, .int p1)]) dX10_fitTogether_37 0 rfl rfl (by decide) rfl ?_
        refine V_goto 40 B 2 dX10_fitTogether_40 (by decide) ?_
        refine V_lv [(2, .int ((a0.1 0) + Int32.ofInt 1)), (0, .ref h0), (1, .int p1)] [0, 1, 2] rfl ?_
        exact IH1 (mkU [((a0.1 0) + Int32.ofInt 1)] [] [] [] []) (Int.le_trans (by decide) (o_add_lo (c := Int32.ofInt 1) hI2 (o_lt_hi (o_nle k6) (i_hi j3) (k := 2147483646) (by decide +kernel)) (by decide +kernel) (by decide +kernel) (k := 1) (by decide +kernel))) (up_dec (x := (a0.1 0)) (c := Int32.ofInt 1) (by decide +kernel) hI2 (o_lt_hi (o_nle k6) (i_hi j3) (k := 2147483646) (by decide +kernel)) (by decide))
      ·
        obtain rfl : j8 = 1 := k9
        refine V_aload_n 22 B dX10_fitTogether_22 1 rfl ?_
        refine V_get 23 B gf_RX10_34 0 rfl rfl dX10_fitTogether_23 ?_
        refine V_iload_n 26 B dX10_fitTogether_26 0 rfl ?_
        refine V_gvi 27 B envX EB (st := []) (As := [.int (a0.1 0)]) (fun sz => sX1_at_8 l D Y h1 h2 p0 f0 (a0.1 0) sz) glV_RX10_49 ⟨rfl, rfl⟩ ⟨(Nat.le_of_ble_eq_true rfl), (Nat.le_of_ble_eq_true rfl)⟩ ⟨(Nat.le_of_ble_eq_true rfl), (Nat.le_of_ble_eq_true rfl)⟩ [1, 0] rfl 3 0 rfl rfl rfl rfl (Nat.le_of_ble_eq_true rfl) rfl (fun _ _ _ => rfl) dX10_fitTogether_27 (fun j10 u11 w12 => ?_)
        refine V_ws [(h0, oC 11 [.ref g0, .ref g1, .ref g2, .ref g3, .ref h1]), (h1, oC 3 [.ref h2, .int p0]), (h2, aI Y 10 f0)] rfl ?_
        refine V_iload_n 30 B dX10_fitTogether_30 2 rfl ?_
        refine V_iand 31 B dX10_fitTogether_31 rfl ?_
        refine V_nmi (fun j13 _ => ?_)
        refine V_if_eq 32 B 37 dX10_fitTogether_32 (by decide) (fun k14 => ?_) (fun k14 => ?_)
        ·
          obtain rfl : j13 = 0 := k14
          refine V_iinc 37 B (v := ((a0.1 0) + Int32.ofInt 1)) (lv2 := [(2, .int ((a0.1 0) + Int32.ofInt 1)), (0, .ref h0), (1, .int p1)]) dX10_fitTogether_37 0 rfl rfl (by decide) rfl ?_
          refine V_goto 40 B 2 dX10_fitTogether_40 (by decide) ?_
          refine V_lv [(2, .int ((a0.1 0) + Int32.ofInt 1)), (0, .ref h0), (1, .int p1)] [0, 1, 2] rfl ?_
          exact IH1 (mkU [((a0.1 0) + Int32.ofInt 1)] [] [] [] []) (Int.le_trans (by decide) (o_add_lo (c := Int32.ofInt 1) hI2 (o_lt_hi (o_nle k6) (i_hi j3) (k := 2147483646) (by decide +kernel)) (by decide +kernel) (by decide +kernel) (k := 1) (by decide +kernel))) (up_dec (x := (a0.1 0)) (c := Int32.ofInt 1) (by decide +kernel) hI2 (o_lt_hi (o_nle k6) (i_hi j3) (k := 2147483646) (by decide +kernel)) (by decide))
        ·
          refine V_iconst 35 B (v := 0) dX10_fitTogether_35 (by decide +kernel) ?_
          exact V_zret 36 B rfl dX10_fitTogether_36 (mkU [] [] [] [] []) (Or.inl rfl) rfl)
theorem glV_RX10_152 : GLV RX10 152 yX10_fitTogether RX10 cX10_fitTogether 3 (some .boolean) 1 := ⟨⟨(mT7 115 rfl rfl), (mT7 117 rfl rfl), (mTs 26 rfl rfl), (mT1 8 rfl rfl), (mT7 118 rfl rfl)⟩, by decide +kernel⟩
theorem dX10_fewestDropped_65 : decode cX10_fewestDropped 65 = .ok (.ifCond .eq 7, 3) := by decide +kernel
theorem dX10_fewestDropped_68 : decode cX10_fewestDropped 68 = .ok (.iload 5, 2) := by decide +kernel
theorem dX10_fewestDropped_70 : decode cX10_fewestDropped 70 = .ok (.istore 4, 2) := by decide +kernel
set_option maxRecDepth 100000 in
set_option maxHeartbeats 4000000 in
theorem sX10_fewestDropped_1 (l : Launch) (D : va_G) (Y : Nat → ClassId) (h0 : Nat) (h1 : Nat) (h2 : Nat) (h3 : Nat) (h4 : Nat) (h5 : Nat) (h6 : Nat) (h7 : Nat) (h8 : Nat) (h9 : Nat) (h10 : Nat) (h11 : Nat) (g0 : Nat) (g1 : Nat) (g2 : Nat) (g3 : Nat) (g4 : Nat) (g5 : Nat) (g6 : Nat) (g7 : Nat) (g8 : Nat) (g9 : Nat) (p0 : Int32) (p1 : Int32) (f0 : Nat → Int64) (p2 : Int32) (f1 : Nat → Int32) (p3 : Int32) (f2 : Nat → Int64) (p4 : Int32) (f3 : Nat → Int64) (p5 : Int32) (f4 : Nat → Int32) (p6 : Int32) (sz : Nat) : Met l yX10_fewestDropped (WSm yX10_fewestDropped cX10_fewestDropped 6 (some .int)) (mkR 5 0 0 127) (PreG EX D Y [.ref h9, .int p6] [(h0, oC 2 [.ref g0, .ref g1, .ref g2, .ref g3, .ref h1, .ref h3, .ref g4, .ref h5, .ref h7, .ref g5, .ref g6, .int p0]), (h1, oC 7 [.ref h2, .int p1]), (h2, aJ Y 6 f0), (h3, oC 3 [.ref h4, .int p2]), (h4, aI Y 80 f1), (h5, oC 7 [.ref h6, .int p3]), (h6, aJ Y 80 f2), (h7, oC 7 [.ref h8, .int p4]), (h8, aJ Y 10 f3), (h9, oC 11 [.ref h0, .ref g7, .ref g8, .ref g9, .ref h10]), (h10, oC 3 [.ref h11, .int p5]), (h11, aI Y 10 f4)] sz) (QI D (fun (_ : Int32) (_ : UU) => True) (fun (u : UU) => [(h0, oC 2 [.ref g0, .ref g1, .ref g2, .ref g3, .ref h1, .ref h3, .ref g4, .ref h5, .ref h7, .ref g5, .ref g6, .int p0]), (h1, oC 7 [.ref h2, .int p1]), (h2, aJ Y 6 f0), (h3, oC 3 [.ref h4, .int p2]), (h4, aI Y 80 f1), (h5, oC 7 [.ref h6, .int p3]), (h6, aJ Y 80 f2), (h7, oC 7 [.ref h8, .int p4]), (h8, aJ Y 10 f3), (h9, oC 11 [.ref h0, .ref g7, .ref g8, .ref g9, .ref h10]), (h10, oC 3 [.ref h11, .int (u.1 0)]), (h11, aI Y 10 (u.2.2.1 0))]) (va_A [(h0, oC 2 [.ref g0, .ref g1, .ref g2, .ref g3, .ref h1, .ref h3, .ref g4, .ref h5, .ref h7, .ref g5, .ref g6, .int p0]), (h1, oC 7 [.ref h2, .int p1]), (h2, aJ Y 6 f0), (h3, oC 3 [.ref h4, .int p2]), (h4, aI Y 80 f1), (h5, oC 7 [.ref h6, .int p3]), (h6, aJ Y 80 f2), (h7, oC 7 [.ref h8, .int p4]), (h8, aJ Y 10 f3), (h9, oC 11 [.ref h0, .ref g7, .ref g8, .ref g9, .ref h10]), (h10, oC 3 [.ref h11, .int p5]), (h11, aI Y 10 f4)] sz)) 0 0 (va_A [(h0, oC 2 [.ref g0, .ref g1, .ref g2, .ref g3, .ref h1, .ref h3, .ref g4, .ref h5, .ref h7, .ref g5, .ref g6, .int p0]), (h1, oC 7 [.ref h2, .int p1]), (h2, aJ Y 6 f0), (h3, oC 3 [.ref h4, .int p2]), (h4, aI Y 80 f1), (h5, oC 7 [.ref h6, .int p3]), (h6, aJ Y 80 f2), (h7, oC 7 [.ref h8, .int p4]), (h8, aJ Y 10 f3), (h9, oC 11 [.ref h0, .ref g7, .ref g8, .ref g9, .ref h10]), (h10, oC 3 [.ref h11, .int p5]), (h11, aI Y 10 f4)] sz) :=
  gmet_of (by decide +kernel) (Nat.le_of_ble_eq_true rfl) (fun p e s m args below meth c B EB hsz => by
    have B : VB p s m args meth c D Y (va_A [(h0, oC 2 [.ref g0, .ref g1, .ref g2, .ref g3, .ref h1, .ref h3, .ref g4, .ref h5, .ref h7, .ref g5, .ref g6, .int p0]), (h1, oC 7 [.ref h2, .int p1]), (h2, aJ Y 6 f0), (h3, oC 3 [.ref h4, .int p2]), (h4, aI Y 80 f1), (h5, oC 7 [.ref h6, .int p3]), (h6, aJ Y 80 f2), (h7, oC 7 [.ref h8, .int p4]), (h8, aJ Y 10 f3), (h9, oC 11 [.ref h0, .ref g7, .ref g8, .ref g9, .ref h10]), (h10, oC 3 [.ref h11, .int p5]), (h11, aI Y 10 f4)] sz) cX10_fewestDropped 6 RX10 (some .int) := B
    refine V_iconst 0 B (v := 1) dX10_fewestDropped_0 (by decide +kernel) ?_
    refine V_aload_n 1 B dX10_fewestDropped_1 0 rfl ?_
    refine V_get 2 B gf_RX10_9 9 rfl rfl dX10_fewestDropped_2 ?_
    refine V_get 5 B gf_RX10_140 0 rfl rfl dX10_fewestDropped_5 ?_
    refine V_gvi 8 B envX EB (st := [.int 1]) (As := []) (fun sz => sX5_size_1 l D Y h7 h8 p4 sz) glV_RX10_143 ⟨rfl, rfl⟩ ⟨(Nat.le_of_ble_eq_true rfl), (Nat.le_of_ble_eq_true rfl)⟩ ⟨(Nat.le_of_ble_eq_true rfl), (Nat.le_of_ble_eq_true rfl)⟩ [7] rfl 7 0 rfl rfl rfl rfl (Nat.le_of_ble_eq_true rfl) rfl (fun _ _ _ => rfl) dX10_fewestDropped_8 (fun j0 u1 w2 => ?_)
    refine V_ws [(h0, oC 2 [.ref g0, .ref g1, .ref g2, .ref g3, .ref h1, .ref h3, .ref g4, .ref h5, .ref h7, .ref g5, .ref g6, .int p0]), (h1, oC 7 [.ref h2, .int p1]), (h2, aJ Y 6 f0), (h3, oC 3 [.ref h4, .int p2]), (h4, aI Y 80 f1), (h5, oC 7 [.ref h6, .int p3]), (h6, aJ Y 80 f2), (h7, oC 7 [.ref h8, .int p4]), (h8, aJ Y 10 f3), (h9, oC 11 [.ref h0, .ref g7, .ref g8, .ref g9, .ref h10]), (h10, oC 3 [.ref h11, .int p5]), (h11, aI Y 10 f4)] rfl ?_
    refine V_ishl 11 B dX10_fewestDropped_11 rfl ?_
    refine V_nmi (fun j3 _ => ?_)
    refine V_iconst 12 B (v := 1) dX10_fewestDropped_12 (by decide +kernel) ?_
    refine V_isub 13 B dX10_fewestDropped_13 rfl ?_
    refine V_nmi (fun j4 _ => ?_)
    refine V_istore_n 14 B (lv2 := [(2, .int j4), (0, .ref h9), (1, .int p6)]) dX10_fewestDropped_14 (by decide) rfl ?_
    refine V_aload_n 15 B dX10_fewestDropped_15 1 rfl ?_
    refine V_iload_n 16 B dX10_fewestDropped_16 2 rfl ?_
    refine V_gvi 17 B envX EB (st := []) (As := [.int p6]) (fun sz => sX10_meetRivals_1 l D Y h0 h1 h2 h3 h4 h5 h6 h7 h8 h9 h10 h11 g0 g1 g2 g3 g4 g5 g6 g7 g8 g9 p0 p1 f0 p2 f1 p3 f2 p4 f3 p5 f4 p6 sz) glV_RX10_144 ⟨rfl, rfl⟩ ⟨(Nat.le_of_ble_eq_true rfl), (Nat.le_of_ble_eq_true rfl)⟩ ⟨(Nat.le_of_ble_eq_true rfl), (Nat.le_of_ble_eq_true rfl)⟩ [0, 0, 0, 0, 0, 0, 0, 0, 0, 0, 0, 0] rfl 11 9 rfl rfl rfl rfl (Nat.le_of_ble_eq_true rfl) rfl (fun _ _ _ => rfl) dX10_fewestDropped_17 (fun j5 u6 w7 => ?_)
    refine V_ws [(h0, oC 2 [.ref g0, .ref g1, .ref g2, .ref g3, .ref h1, .ref h3, .ref g4, .ref h5, .ref h7, .ref g5, .ref g6, .int p0]), (h1, oC 7 [.ref h2, .int p1]), (h2, aJ Y 6 f0), (h3, oC 3 [.ref h4, .int p2]), (h4, aI Y 80 f1), (h5, oC 7 [.ref h6, .int p3]), (h6, aJ Y 80 f2), (h7, oC 7 [.ref h8, .int p4]), (h8, aJ Y 10 f3), (h9, oC 11 [.ref h0, .ref g7, .ref g8, .ref g9, .ref h10]), (h10, oC 3 [.ref h11, .int (u6.1 0)]), (h11, aI Y 10 (u6.2.2.1 0))] rfl ?_
    refine V_istore_n 20 B (lv2 := [(3, .int j5), (2, .int j4), (0, .ref h9), (1, .int p6)]) dX10_fewestDropped_20 (by decide) rfl ?_
    refine V_iload_n 21 B dX10_fewestDropped_21 1 rfl ?_
    refine V_istore 22 B (lv2 := [(4, .int j4), (3, .int j5), (2, .int j4), (0, .ref h9), (1, .int p6)]) dX10_fewestDropped_22 (by decide) rfl ?_
    refine V_iconst 24 B (v := 0) dX10_fewestDropped_24 (by decide +kernel) ?_
    refine V_istore 25 B (lv2 := [(5, .int 0), (4, .int j4), (3, .int j5), (2, .int j4), (0, .ref h9), (1, .int p6)]) dX10_fewestDropped_25 (by decide) rfl ?_
    refine V_wloop (α := UU) (fun a => (2147483647 - ((a.1 0)).toInt).toNat) (fun a => 0 ≤ ((a.1 0)).toInt) (fun a => [(5, .int (a.1 0)), (4, .int (a.1 1)), (3, .int j5), (2, .int j4), (0, .ref h9), (1, .int p6)]) (fun a => [(h0, oC 2 [.ref g0, .ref g1, .ref g2, .ref g3, .ref h1, .ref h3, .ref g4, .ref h5, .ref h7, .ref g5, .ref g6, .int p0]), (h1, oC 7 [.ref h2, .int p1]), (h2, aJ Y 6 f0), (h3, oC 3 [.ref h4, .int p2]), (h4, aI Y 80 f1), (h5, oC 7 [.ref h6, .int p3]), (h6, aJ Y 80 f2), (h7, oC 7 [.ref h8, .int p4]), (h8, aJ Y 10 f3), (h9, oC 11 [.ref h0, .ref g7, .ref g8, .ref g9, .ref h10]), (h10, oC 3 [.ref h11, .int (a.1 2)]), (h11, aI Y 10 (a.2.2.1 0))]) (mkU [0, j4, (u6.1 0)] [] [(u6.2.2.1 0)] [] []) (show (0 : Int) ≤ (0 : Int32).toInt by decide +kernel) rfl rfl (fun a8 hI10 IH9 => ?_)
    refine V_lv [(5, .int (a8.1 0)), (4, .int (a8.1 1)), (3, .int j5), (2, .int j4), (0, .ref h9), (1, .int p6)] [0, 1, 2, 3, 4, 5] rfl ?_
    refine V_ws [(h0, oC 2 [.ref g0, .ref g1, .ref g2, .ref g3, .ref h1, .ref h3, .ref g4, .ref h5, .ref h7, .ref g5, .ref g6, .int p0]), (h1, oC 7 [.ref h2, .int p1]), (h2, aJ Y 6 f0), (h3, oC 3 [.ref h4, .int p2]), (h4, aI Y 80 f1), (h5, oC 7 [.ref h6, .int p3]), (h6, aJ Y 80 f2), (h7, oC 7 [.ref h8, .int p4]), (h8, aJ Y 10 f3), (h9, oC 11 [.ref h0, .ref g7, .ref g8, .ref g9, .ref h10]), (h10, oC 3 [.ref h11, .int (a8.1 2)]), (h11, aI Y 10 (a8.2.2.1 0))] rfl ?_
    refine V_iload 27 B dX10_fewestDropped_27 0 rfl ?_
    refine V_iload_n 29 B dX10_fewestDropped_29 3 rfl ?_
    refine V_icmp_ge 30 B 78 dX10_fewestDropped_30 (by decide) (fun k11 => ?_) (fun k11 => ?_)
    ·
      refine V_iload 78 B dX10_fewestDropped_78 1 rfl ?_
      exact V_iret 80 B dX10_fewestDropped_80 (mkU [(a8.1 2)] [] [(a8.2.2.1 0)] [] []) trivial rfl
    ·
      refine V_iload 33 B dX10_fewestDropped_33 0 rfl ?_
      refine V_gsi 35 B envX EB (st := []) (As := [.int (a8.1 0)]) (fun sz => sJ6_bitCount_0f7a4_1 l D Y  (a8.1 0) sz) glS_RX10_147 ⟨rfl, rfl⟩ ⟨(Nat.le_of_ble_eq_true rfl), (Nat.le_of_ble_eq_true rfl)⟩ ⟨(Nat.le_of_ble_eq_true rfl), (Nat.le_of_ble_eq_true rfl)⟩ [] rfl rfl (Nat.le_of_ble_eq_true rfl) rfl (fun _ _ _ => rfl) dX10_fewestDropped_35 (fun j12 u13 w14 => ?_)
      refine V_ws [(h0, oC 2 [.ref g0, .ref g1, .ref g2, .ref g3, .ref h1, .ref h3, .ref g4, .ref h5, .ref h7, .ref g5, .ref g6, .int p0]), (h1, oC 7 [.ref h2, .int p1]), (h2, aJ Y 6 f0), (h3, oC 3 [.ref h4, .int p2]), (h4, aI Y 80 f1), (h5, oC 7 [.ref h6, .int p3]), (h6, aJ Y 80 f2), (h7, oC 7 [.ref h8, .int p4]), (h8, aJ Y 10 f3), (h9, oC 11 [.ref h0, .ref g7, .ref g8, .ref g9, .ref h10]), (h10, oC 3 [.ref h11, .int (a8.1 2)]), (h11, aI Y 10 (a8.2.2.1 0))] rfl ?_
      refine V_iload 38 B dX10_fewestDropped_38 1 rfl ?_
      refine V_gsi 40 B envX EB (st := [.int j12]) (As := [.int (a8.1 1)]) (fun sz => sJ6_bitCount_0f7a4_1 l D Y  (a8.1 1) sz) glS_RX10_147 ⟨rfl, rfl⟩ ⟨(Nat.le_of_ble_eq_true rfl), (Nat.le_of_ble_eq_true rfl)⟩ ⟨(Nat.le_of_ble_eq_true rfl), (Nat.le_of_ble_eq_true rfl)⟩ [] rfl rfl (Nat.le_of_ble_eq_true rfl) rfl (fun _ _ _ => rfl) dX10_fewestDropped_40 (fun j15 u16 w17 => ?_)
      refine V_ws [(h0, oC 2 [.ref g0, .ref g1, .ref g2, .ref g3, .ref h1, .ref h3, .ref g4, .ref h5, .ref h7, .ref g5, .ref g6, .int p0]), (h1, oC 7 [.ref h2, .int p1]), (h2, aJ Y 6 f0), (h3, oC 3 [.ref h4, .int p2]), (h4, aI Y 80 f1), (h5, oC 7 [.ref h6, .int p3]), (h6, aJ Y 80 f2), (h7, oC 7 [.ref h8, .int p4]), (h8, aJ Y 10 f3), (h9, oC 11 [.ref h0, .ref g7, .ref g8, .ref g9, .ref h10]), (h10, oC 3 [.ref h11, .int (a8.1 2)]), (h11, aI Y 10 (a8.2.2.1 0))] rfl ?_
      refine V_icmp_ge 43 B 72 dX10_fewestDropped_43 (by decide) (fun k18 => ?_) (fun k18 => ?_)
      ·
        refine V_iinc 72 B (v := ((a8.1 0) + Int32.ofInt 1)) (lv2 := [(5, .int ((a8.1 0) + Int32.ofInt 1)), (4, .int (a8.1 1)), (3, .int j5), (2, .int j4), (0, .ref h9), (1, .int p6)]) dX10_fewestDropped_72 0 rfl rfl (by decide) rfl ?_
        refine V_goto 75 B 27 dX10_fewestDropped_75 (by decide) ?_
        refine V_lv [(5, .int ((a8.1 0) + Int32.ofInt 1)), (4, .int (a8.1 1)), (3, .int j5), (2, .int j4), (0, .ref h9), (1, .int p6)] [0, 1, 2, 3, 4, 5] rfl ?_
        exact IH9 (mkU [((a8.1 0) + Int32.ofInt 1), (a8.1 1), (a8.1 2)] [] [(a8.2.2.1 0)] [] []) (Int.le_trans (by decide) (o_add_lo (c := Int32.ofInt 1) hI10 (o_lt_hi (o_nle k11) (i_hi j4) (k := 2147483646) (by decide +kernel)) (by decide +kernel) (by decide +kernel) (k := 1) (by decide +kernel))) (up_dec (x := (a8.1 0)) (c := Int32.ofInt 1) (by decide +kernel) hI10 (o_lt_hi (o_nle k11) (i_hi j4) (k := 2147483646) (by decide +kernel)) (by decide))
      ·
        refine V_iload_n 46 B dX10_fewestDropped_46 2 rfl ?_
        refine V_iload 47 B dX10_fewestDropped_47 0 rfl ?_
        refine V_iconst 49 B (v := (-1)) dX10_fewestDropped_49 (by decide +kernel) ?_
        refine V_ixor 50 B dX10_fewestDropped_50 rfl ?_
        refine V_nmi (fun j19 _ => ?_)
        refine V_iand 51 B dX10_fewestDropped_51 rfl ?_
        refine V_nmi (fun j20 _ => ?_)
        refine V_if_ne 52 B 72 dX10_fewestDropped_52 (by decide) (fun k21 => ?_) (fun k21 => ?_)
        ·
          refine V_iinc 72 B (v := ((a8.1 0) + Int32.ofInt 1)) (lv2 := [(5, .int ((a8.1 0) + Int32.ofInt 1)), (4, .int (a8.1 1)), (3, .int j5), (2, .int j4), (0, .ref h9), (1, .int p6)]) dX10_fewestDropped_72 0 rfl rfl (by decide) rfl ?_
          refine V_goto 75 B 27 dX10_fewestDropped_75 (by decide) ?_
          refine V_lv [(5, .int ((a8.1 0) + Int32.ofInt 1)), (4, .int (a8.1 1)), (3, .int j5), (2, .int j4), (0, .ref h9), (1, .int p6)] [0, 1, 2, 3, 4, 5] rfl ?_
          exact IH9 (mkU [((a8.1 0) + Int32.ofInt 1), (a8.1 1), (a8.1 2)] [] [(a8.2.2.1 0)] [] []) (Int.le_trans (by decide) (o_add_lo (c := Int32.ofInt 1) hI10 (o_lt_hi (o_nle k11) (i_hi j4) (k := 2147483646) (by decide +kernel)) (by decide +kernel) (by decide +kernel) (k := 1) (by decide +kernel))) (up_dec (x := (a8.1 0)) (c := Int32.ofInt 1) (by decide +kernel) hI10 (o_lt_hi (o_nle k11) (i_hi j4) (k := 2147483646) (by decide +kernel)) (by decide))
        ·
          obtain rfl : j20 = 0 := k21
          refine V_aload_n 55 B dX10_fewestDropped_55 4 rfl ?_
          refine V_iload_n 56 B dX10_fewestDropped_56 3 rfl ?_
          refine V_iload 57 B dX10_fewestDropped_57 0 rfl ?_
          refine V_iconst 59 B (v := (-1)) dX10_fewestDropped_59 (by decide +kernel) ?_
          refine V_ixor 60 B dX10_fewestDropped_60 rfl ?_
          refine V_nmi (fun j22 _ => ?_)
          refine V_iand 61 B dX10_fewestDropped_61 rfl ?_
          refine V_nmi (fun j23 _ => ?_)
          refine V_gvi 62 B envX EB (st := []) (As := [.int j23]) (fun sz => sX10_fitTogether_1 l D Y h9 h10 h11 h0 g7 g8 g9 (a8.1 2) (a8.2.2.1 0) j23 sz) glV_RX10_152 ⟨rfl, rfl⟩ ⟨(Nat.le_of_ble_eq_true rfl), (Nat.le_of_ble_eq_true rfl)⟩ ⟨(Nat.le_of_ble_eq_true rfl), (Nat.le_of_ble_eq_true rfl)⟩ [9, 0, 0] rfl 11 0 rfl rfl rfl rfl (Nat.le_of_ble_eq_true rfl) rfl (fun _ _ _ => rfl) dX10_fewestDropped_62 (fun j24 u25 w26 => ?_)
          refine V_ws [(h0, oC 2 [.ref g0, .ref g1, .ref g2, .ref g3, .ref h1, .ref h3, .ref g4, .ref h5, .ref h7, .ref g5, .ref g6, .int p0]), (h1, oC 7 [.ref h2, .int p1]), (h2, aJ Y 6 f0), (h3, oC 3 [.ref h4, .int p2]), (h4, aI Y 80 f1), (h5, oC 7 [.ref h6, .int p3]), (h6, aJ Y 80 f2), (h7, oC 7 [.ref h8, .int p4]), (h8, aJ Y 10 f3), (h9, oC 11 [.ref h0, .ref g7, .ref g8, .ref g9, .ref h10]), (h10, oC 3 [.ref h11, .int (a8.1 2)]), (h11, aI Y 10 (a8.2.2.1 0))] rfl ?_
          rcases w26 with rfl | rfl
          ·
            refine V_if_eq_t 65 B 72 dX10_fewestDropped_65 (by decide) (by decide +kernel) ?_
            refine V_iinc 72 B (v := ((a8.1 0) + Int32.ofInt 1)) (lv2 := [(5, .int ((a8.1 0) + Int32.ofInt 1)), (4, .int (a8.1 1)), (3, .int j5), (2, .int j4), (0, .ref h9), (1, .int p6)]) dX10_fewestDropped_72 0 rfl rfl (by decide) rfl ?_
            refine V_goto 75 B 27 dX10_fewestDropped_75 (by decide) ?_
            refine V_lv [(5, .int ((a8.1 0) + Int32.ofInt 1)), (4, .int (a8.1 1)), (3, .int j5), (2, .int j4), (0, .ref h9), (1, .int p6)] [0, 1, 2, 3, 4, 5] rfl ?_
            exact IH9 (mkU [((a8.1 0) + Int32.ofInt 1), (a8.1 1), (a8.1 2)] [] [(a8.2.2.1 0)] [] []) (Int.le_trans (by decide) (o_add_lo (c := Int32.ofInt 1) hI10 (o_lt_hi (o_nle k11) (i_hi j4) (k := 2147483646) (by decide +kernel)) (by decide +kernel) (by decide +kernel) (k := 1) (by decide +kernel))) (up_dec (x := (a8.1 0)) (c := Int32.ofInt 1) (by decide +kernel) hI10 (o_lt_hi (o_nle k11) (i_hi j4) (k := 2147483646) (by decide +kernel)) (by decide))
          ·
            refine V_if_eq_f 65 B 72 dX10_fewestDropped_65 (by decide) (by decide +kernel) ?_
            refine V_iload 68 B dX10_fewestDropped_68 0 rfl ?_
            refine V_istore 70 B (lv2 := [(4, .int (a8.1 0)), (5, .int (a8.1 0)), (3, .int j5), (2, .int j4), (0, .ref h9), (1, .int p6)]) dX10_fewestDropped_70 (by decide) rfl ?_
            refine V_iinc 72 B (v := ((a8.1 0) + Int32.ofInt 1)) (lv2 := [(5, .int ((a8.1 0) + Int32.ofInt 1)), (4, .int (a8.1 0)), (3, .int j5), (2, .int j4), (0, .ref h9), (1, .int p6)]) dX10_fewestDropped_72 1 rfl rfl (by decide) rfl ?_
            refine V_goto 75 B 27 dX10_fewestDropped_75 (by decide) ?_
            refine V_lv [(5, .int ((a8.1 0) + Int32.ofInt 1)), (4, .int (a8.1 0)), (3, .int j5), (2, .int j4), (0, .ref h9), (1, .int p6)] [0, 1, 2, 3, 4, 5] rfl ?_
            exact IH9 (mkU [((a8.1 0) + Int32.ofInt 1), (a8.1 0), (a8.1 2)] [] [(a8.2.2.1 0)] [] []) (Int.le_trans (by decide) (o_add_lo (c := Int32.ofInt 1) hI10 (o_lt_hi (o_nle k11) (i_hi j4) (k := 2147483646) (by decide +kernel)) (by decide +kernel) (by decide +kernel) (k := 1) (by decide +kernel))) (up_dec (x := (a8.1 0)) (c := Int32.ofInt 1) (by decide +kernel) hI10 (o_lt_hi (o_nle k11) (i_hi j4) (k := 2147483646) (by decide +kernel)) (by decide)))
theorem glV_RX11_390 : GLV RX11 390 yX10_fewestDropped RX10 cX10_fewestDropped 6 (some .int) 1 := ⟨⟨(mT7 104 rfl rfl), (mT7 105 rfl rfl), (mT7 106 rfl rfl), (mT1 8 rfl rfl), (mT7 107 rfl rfl)⟩, by decide +kernel⟩
theorem dX11_leastDrop_13 : decode cX11_leastDrop 13 = .ok (.ireturn, 1) := by decide +kernel
set_option maxRecDepth 100000 in
set_option maxHeartbeats 4000000 in
theorem sX11_leastDrop_1 (l : Launch) (hl9 : l.stackTraces = false) (D : va_G) (Y : Nat → ClassId) (h0 : Nat) (h1 : Nat) (h2 : Nat) (h3 : Nat) (h4 : Nat) (h5 : Nat) (h6 : Nat) (h7 : Nat) (h8 : Nat) (h9 : Nat) (h10 : Nat) (h11 : Nat) (h12 : Nat) (h13 : Nat) (g0 : Nat) (g1 : Nat) (g2 : Nat) (g3 : Nat) (g4 : Nat) (g5 : Nat) (g6 : Nat) (g7 : Nat) (g8 : Nat) (g9 : Nat) (g10 : Nat) (g11 : Nat) (g12 : Nat) (g13 : Nat) (g14 : Nat) (g15 : Nat) (g16 : Nat) (p0 : Int64) (p1 : Int32) (p2 : Int32) (p3 : Int32) (f0 : Nat → Int64) (p4 : Int32) (f1 : Nat → Int32) (p5 : Int32) (f2 : Nat → Int64) (p6 : Int32) (f3 : Nat → Int64) (p7 : Int32) (f4 : Nat → Int32) (p8 : Int32) (sz : Nat) : vx_Met l yX11_leastDrop (WSm yX11_leastDrop cX11_leastDrop 2 (some .int)) (mkR 7 1 6 152) (PreX D Y [.ref h0, .int p8] [(h0, oC 12 [.ref h1, .ref g0, .ref g1, .ref g2, .ref h11, .ref g3, .ref g4, .ref g5, .ref g6, .long p0]), (h1, oC 2 [.ref h2, .ref g7, .ref g8, .ref g9, .ref h3, .ref h5, .ref g10, .ref h7, .ref h9, .ref g11, .ref g12, .int p1]), (h2, oC 3 [.ref g13, .int p2]), (h3, oC 7 [.ref h4, .int p3]), (h4, aJ Y 6 f0), (h5, oC 3 [.ref h6, .int p4]), (h6, aI Y 80 f1), (h7, oC 7 [.ref h8, .int p5]), (h8, aJ Y 80 f2), (h9, oC 7 [.ref h10, .int p6]), (h10, aJ Y 10 f3), (h11, oC 11 [.ref h1, .ref g14, .ref g15, .ref g16, .ref h12]), (h12, oC 3 [.ref h13, .int p7]), (h13, aI Y 10 f4)] sz) (QI D (fun (_ : Int32) (_ : UU) => True) (fun (u : UU) => [(h0, oC 12 [.ref h1, .ref g0, .ref g1, .ref g2, .ref h11, .ref g3, .ref g4, .ref g5, .ref g6, .long p0]), (h1, oC 2 [.ref h2, .ref g7, .ref g8, .ref g9, .ref h3, .ref h5, .ref g10, .ref h7, .ref h9, .ref g11, .ref g12, .int p1]), (h2, oC 3 [.ref g13, .int p2]), (h3, oC 7 [.ref h4, .int p3]), (h4, aJ Y 6 f0), (h5, oC 3 [.ref h6, .int p4]), (h6, aI Y 80 f1), (h7, oC 7 [.ref h8, .int p5]), (h8, aJ Y 80 f2), (h9, oC 7 [.ref h10, .int p6]), (h10, aJ Y 10 f3), (h11, oC 11 [.ref h1, .ref g14, .ref g15, .ref g16, .ref h12]), (h12, oC 3 [.ref h13, .int (u.1 0)]), (h13, aI Y 10 (u.2.2.1 0))]) (va_A [(h0, oC 12 [.ref h1, .ref g0, .ref g1, .ref g2, .ref h11, .ref g3, .ref g4, .ref g5, .ref g6, .long p0]), (h1, oC 2 [.ref h2, .ref g7, .ref g8, .ref g9, .ref h3, .ref h5, .ref g10, .ref h7, .ref h9, .ref g11, .ref g12, .int p1]), (h2, oC 3 [.ref g13, .int p2]), (h3, oC 7 [.ref h4, .int p3]), (h4, aJ Y 6 f0), (h5, oC 3 [.ref h6, .int p4]), (h6, aI Y 80 f1), (h7, oC 7 [.ref h8, .int p5]), (h8, aJ Y 80 f2), (h9, oC 7 [.ref h10, .int p6]), (h10, aJ Y 10 f3), (h11, oC 11 [.ref h1, .ref g14, .ref g15, .ref g16, .ref h12]), (h12, oC 3 [.ref h13, .int p7]), (h13, aI Y 10 f4)] sz)) (XW D (fun (E : String) (_ : UU) => E = "java/lang/IndexOutOfBoundsException") (fun (u : UU) => [(h0, oC 12 [.ref h1, .ref g0, .ref g1, .ref g2, .ref h11, .ref g3, .ref g4, .ref g5, .ref g6, .long p0]), (h1, oC 2 [.ref h2, .ref g7, .ref g8, .ref g9, .ref h3, .ref h5, .ref g10, .ref h7, .ref h9, .ref g11, .ref g12, .int p1]), (h2, oC 3 [.ref g13, .int p2]), (h3, oC 7 [.ref h4, .int p3]), (h4, aJ Y 6 f0), (h5, oC 3 [.ref h6, .int p4]), (h6, aI Y 80 f1), (h7, oC 7 [.ref h8, .int p5]), (h8, aJ Y 80 f2), (h9, oC 7 [.ref h10, .int p6]), (h10, aJ Y 10 f3), (h11, oC 11 [.ref h1, .ref g14, .ref g15, .ref g16, .ref h12]), (h12, oC 3 [.ref h13, .int (u.1 0)]), (h13, aI Y 10 (u.2.2.1 0))]) (va_A [(h0, oC 12 [.ref h1, .ref g0, .ref g1, .ref g2, .ref h11, .ref g3, .ref g4, .ref g5, .ref g6, .long p0]), (h1, oC 2 [.ref h2, .ref g7, .ref g8, .ref g9, .ref h3, .ref h5, .ref g10, .ref h7, .ref h9, .ref g11, .ref g12, .int p1]), (h2, oC 3 [.ref g13, .int p2]), (h3, oC 7 [.ref h4, .int p3]), (h4, aJ Y 6 f0), (h5, oC 3 [.ref h6, .int p4]), (h6, aI Y 80 f1), (h7, oC 7 [.ref h8, .int p5]), (h8, aJ Y 80 f2), (h9, oC 7 [.ref h10, .int p6]), (h10, aJ Y 10 f3), (h11, oC 11 [.ref h1, .ref g14, .ref g15, .ref g16, .ref h12]), (h12, oC 3 [.ref h13, .int p7]), (h13, aI Y 10 f4)] sz)) 1 6 (va_A [(h0, oC 12 [.ref h1, .ref g0, .ref g1, .ref g2, .ref h11, .ref g3, .ref g4, .ref g5, .ref g6, .long p0]), (h1, oC 2 [.ref h2, .ref g7, .ref g8, .ref g9, .ref h3, .ref h5, .ref g10, .ref h7, .ref h9, .ref g11, .ref g12, .int p1]), (h2, oC 3 [.ref g13, .int p2]), (h3, oC 7 [.ref h4, .int p3]), (h4, aJ Y 6 f0), (h5, oC 3 [.ref h6, .int p4]), (h6, aI Y 80 f1), (h7, oC 7 [.ref h8, .int p5]), (h8, aJ Y 80 f2), (h9, oC 7 [.ref h10, .int p6]), (h10, aJ Y 10 f3), (h11, oC 11 [.ref h1, .ref g14, .ref g15, .ref g16, .ref h12]), (h12, oC 3 [.ref h13, .int p7]), (h13, aI Y 10 f4)] sz) :=
  xmet_of (by decide +kernel) (Nat.le_of_ble_eq_true rfl) (fun p e s m args below meth c B EB hout hsz => by
    have B : VB p s m args meth c D Y (va_A [(h0, oC 12 [.ref h1, .ref g0, .ref g1, .ref g2, .ref h11, .ref g3, .ref g4, .ref g5, .ref g6, .long p0]), (h1, oC 2 [.ref h2, .ref g7, .ref g8, .ref g9, .ref h3, .ref h5, .ref g10, .ref h7, .ref h9, .ref g11, .ref g12, .int p1]), (h2, oC 3 [.ref g13, .int p2]), (h3, oC 7 [.ref h4, .int p3]), (h4, aJ Y 6 f0), (h5, oC 3 [.ref h6, .int p4]), (h6, aI Y 80 f1), (h7, oC 7 [.ref h8, .int p5]), (h8, aJ Y 80 f2), (h9, oC 7 [.ref h10, .int p6]), (h10, aJ Y 10 f3), (h11, oC 11 [.ref h1, .ref g14, .ref g15, .ref g16, .ref h12]), (h12, oC 3 [.ref h13, .int p7]), (h13, aI Y 10 f4)] sz) cX11_leastDrop 2 RX11 (some .int) := B
    refine V_aload_n 0 B dX11_leastDrop_0 0 rfl ?_
    refine V_iload_n 1 B dX11_leastDrop_1 1 rfl ?_
    refine V_xvv 2 B EB (st := []) (As := [.int p8]) (fun sz => sX11_needMode_1 l hl9 D Y h0 h1 h2 g0 g1 g2 h11 g3 g4 g5 g6 g7 g8 g9 h3 h5 g10 h7 h9 g11 g12 g13 p0 p1 p2 p8 sz) glV_RX11_180 ⟨rfl, rfl⟩ ⟨(Nat.le_of_ble_eq_true rfl), (Nat.le_of_ble_eq_true rfl)⟩ ⟨(Nat.le_of_ble_eq_true rfl), (Nat.le_of_ble_eq_true rfl)⟩ [0, 0, 0] rfl 12 0 rfl rfl rfl rfl (Nat.le_of_ble_eq_true rfl) rfl (fun _ _ => rfl) (fun _ _ _ => rfl) dX11_leastDrop_2 (fun E u1 w2 => ?_) (fun u1 w2 => ?_)
    ·
      obtain rfl := w2
      exact VX_out 2 B hout (mkU [p7] [] [f4] [] []) rfl rfl (Nat.le_of_ble_eq_true rfl) (Nat.le_of_ble_eq_true rfl)
    ·
      refine V_ws [(h0, oC 12 [.ref h1, .ref g0, .ref g1, .ref g2, .ref h11, .ref g3, .ref g4, .ref g5, .ref g6, .long p0]), (h1, oC 2 [.ref h2, .ref g7, .ref g8, .ref g9, .ref h3, .ref h5, .ref g10, .ref h7, .ref h9, .ref g11, .ref g12, .int p1]), (h2, oC 3 [.ref g13, .int p2]), (h3, oC 7 [.ref h4, .int p3]), (h4, aJ Y 6 f0), (h5, oC 3 [.ref h6, .int p4]), (h6, aI Y 80 f1), (h7, oC 7 [.ref h8, .int p5]), (h8, aJ Y 80 f2), (h9, oC 7 [.ref h10, .int p6]), (h10, aJ Y 10 f3), (h11, oC 11 [.ref h1, .ref g14, .ref g15, .ref g16, .ref h12]), (h12, oC 3 [.ref h13, .int p7]), (h13, aI Y 10 f4)] rfl ?_
      refine V_aload_n 5 B dX11_leastDrop_5 0 rfl ?_
      refine V_get 6 B gf_RX11_30 0 rfl rfl dX11_leastDrop_6 ?_
      refine V_iload_n 9 B dX11_leastDrop_9 1 rfl ?_
      refine V_gvi 10 B envX EB (st := []) (As := [.int p8]) (fun sz => sX10_fewestDropped_1 l D Y h1 h3 h4 h5 h6 h7 h8 h9 h10 h11 h12 h13 h2 g7 g8 g9 g10 g11 g12 g14 g15 g16 p1 p3 f0 p4 f1 p5 f2 p6 f3 p7 f4 p8 sz) glV_RX11_390 ⟨rfl, rfl⟩ ⟨(Nat.le_of_ble_eq_true rfl), (Nat.le_of_ble_eq_true rfl)⟩ ⟨(Nat.le_of_ble_eq_true rfl), (Nat.le_of_ble_eq_true rfl)⟩ [1, 1, 0, 0, 0, 0, 0, 0, 0, 0, 0, 0] rfl 11 9 rfl rfl rfl rfl (Nat.le_of_ble_eq_true rfl) rfl (fun _ _ _ => rfl) dX11_leastDrop_10 (fun j3 u4 w5 => ?_)
      refine V_ws [(h0, oC 12 [.ref h1, .ref g0, .ref g1, .ref g2, .ref h11, .ref g3, .ref g4, .ref g5, .ref g6, .long p0]), (h1, oC 2 [.ref h2, .ref g7, .ref g8, .ref g9, .ref h3, .ref h5, .ref g10, .ref h7, .ref h9, .ref g11, .ref g12, .int p1]), (h2, oC 3 [.ref g13, .int p2]), (h3, oC 7 [.ref h4, .int p3]), (h4, aJ Y 6 f0), (h5, oC 3 [.ref h6, .int p4]), (h6, aI Y 80 f1), (h7, oC 7 [.ref h8, .int p5]), (h8, aJ Y 80 f2), (h9, oC 7 [.ref h10, .int p6]), (h10, aJ Y 10 f3), (h11, oC 11 [.ref h1, .ref g14, .ref g15, .ref g16, .ref h12]), (h12, oC 3 [.ref h13, .int (u4.1 0)]), (h13, aI Y 10 (u4.2.2.1 0))] rfl ?_
      refine V_xret ?_
      refine V_widen (k := 1) (n := 6) (Nat.le_of_ble_eq_true rfl) (Nat.le_of_ble_eq_true rfl) ?_
      exact V_iret 13 B dX11_leastDrop_13 (mkU [(u4.1 0)] [] [(u4.2.2.1 0)] [] []) trivial rfl)
