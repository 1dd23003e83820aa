/-! loops -/
section VLP
variable {p : Program} {l : Launch} {e : Env} {R : Room} {s : State} {m : MethodId} {args : Array Value} {below : List Frame} {meth : Method} {c : Code} {cells slots : Nat} {Q : State → Prop} {D : va_G} {A : Nat → Prop} {nL : Nat} {lv : List (Nat × Value)} {st : List Value} {ws : va_W}
theorem V_lv (lv2 : List (Nat × Value)) (ks : List Nat) (h : lv_pick lv ks = lv2) {pc : Nat} (k : V p l e R s m args below meth c D A nL cells slots Q pc lv2 st ws) : V p l e R s m args below meth c D A nL cells slots Q pc lv st ws := fun H locs ls hl hP hD hS => k H locs ls (lv_sub hl ks h) hP hD hS
theorem V_loop {α : Type} (N : Nat) (I : Nat → α → Prop) (lvf : Nat → α → List (Nat × Value)) (wsf : Nat → α → va_W) (a0 : α) (h0 : I 0 a0) (e1 : lvf 0 a0 = lv) (e2 : wsf 0 a0 = ws) {pc : Nat} (step : ∀ (i : Nat) (a : α), i < N → I i a → (∀ b : α, I (i + 1) b → V p l e R s m args below meth c D A nL cells slots Q pc (lvf (i + 1) b) st (wsf (i + 1) b)) → V p l e R s m args below meth c D A nL cells slots Q pc (lvf i a) st (wsf i a)) (fin : ∀ a : α, I N a → V p l e R s m args below meth c D A nL cells slots Q pc (lvf N a) st (wsf N a)) : V p l e R s m args below meth c D A nL cells slots Q pc lv st ws := by
  subst e1
  subst e2
  have K : ∀ (n i : Nat) (a : α), i + n = N → I i a → V p l e R s m args below meth c D A nL cells slots Q pc (lvf i a) st (wsf i a) := by
    intro n
    induction n with
    | zero =>
      intro i a h hI
      obtain rfl : i = N := by omega
      exact fin a hI
    | succ n ih =>
      intro i a h hI
      exact step i a (by omega) hI (fun b hb => ih (i + 1) b (by omega) hb)
  exact K N 0 a0 (by omega) h0
end VLP
theorem upd_same {f : Nat → Int32} {k : Nat} {x : Int32} (h : f k = x) : upd f k x = f := by
  funext j
  unfold upd
  by_cases hj : j = k
  · rw [if_pos hj, hj, h]
  · rw [if_neg hj]
theorem upd_upd (f : Nat → Int32) (k : Nat) (x y : Int32) : upd (upd f k x) k y = upd f k y := by
  funext j
  unfold upd
  by_cases h : j = k
  · rw [if_pos h, if_pos h]
  · rw [if_neg h, if_neg h, if_neg h]
theorem nI_lo {i N : Nat} (h : i < N) (hN : N < 2 ^ 31) : (0 : Int) ≤ (nI i).toInt := by
  rw [nI_toInt (by omega)]
  omega
theorem nI_hi {i N : Nat} (h : i < N) (hN : N < 2 ^ 31) {k : Int} (e : (N : Int) - 1 = k) : (nI i).toInt ≤ k := by
  rw [nI_toInt (by omega)]
  omega
def ssF (x : Int32) : Int32 := if x / 26 = 0 then x - x / 26 * 26 else 32 * ((1 : Int32) <<< ((x / 26 - 1) &&& 31)) + (x - x / 26 * 26)
def lastS : Nat → Int32
  | 0 => 0
  | i + 1 => ssF (nI i)

set_option maxRecDepth 100000 in
set_option maxHeartbeats 4000000 in
theorem mX5_copyFrom_7 (l : Launch) (D : va_G) (Y : Nat → ClassId) (h2 : Nat) (h0 : Nat) (h1 : Nat) (h3 : Nat) (sz : Nat) : Met l yX5_copyFrom (WSm yX5_copyFrom cX5_copyFrom 4 none) (mkR 1 0 0 13) (PreC D Y [.ref h2, .ref h0] [(h0, oC 7 [.ref h1, .int 0]), (h1, aJ Y 6 (fun _ => 0)), (h2, oC 7 [.ref h3, .int 0]), (h3, aJ Y 86 (fun _ => 0))] sz) (QV D (fun (u : Unit) => True) (fun (_ : Unit) => [(h0, oC 7 [.ref h1, .int 0]), (h1, aJ Y 6 (fun _ => 0)), (h2, oC 7 [.ref h3, .int 0]), (h3, aJ Y 86 (fun _ => 0))]) (va_A [(h0, oC 7 [.ref h1, .int 0]), (h1, aJ Y 6 (fun _ => 0)), (h2, oC 7 [.ref h3, .int 0]), (h3, aJ Y 86 (fun _ => 0))] sz)) 0 0 (va_A [(h0, oC 7 [.ref h1, .int 0]), (h1, aJ Y 6 (fun _ => 0)), (h2, oC 7 [.ref h3, .int 0]), (h3, aJ Y 86 (fun _ => 0))] sz) :=
  met_of (by decide +kernel) (Nat.le_of_ble_eq_true rfl) (fun p e s m args below meth c B hin hsz => by
    have B : VB p s m args meth c D Y (va_A [(h0, oC 7 [.ref h1, .int 0]), (h1, aJ Y 6 (fun _ => 0)), (h2, oC 7 [.ref h3, .int 0]), (h3, aJ Y 86 (fun _ => 0))] sz) cX5_copyFrom 4 RX5 none := B
    refine V_aload_n 0 B dX5_copyFrom_0 1 rfl ?_
    refine V_get 1 B gf_RX5_19 0 rfl rfl dX5_copyFrom_1 ?_
    refine V_aload_n 4 B dX5_copyFrom_4 1 rfl ?_
    refine V_get 5 B gf_RX5_13 0 rfl rfl dX5_copyFrom_5 ?_
    refine V_alenJ 8 B (v := 6) 1 rfl (by decide +kernel) dX5_copyFrom_8 ?_
    refine V_mmin 9 B (v := 0) gm_RX5_29 dX5_copyFrom_9 (Nat.le_of_ble_eq_true rfl) (Nat.le_of_ble_eq_true rfl) (Nat.le_of_ble_eq_true rfl) (Nat.le_of_ble_eq_true rfl) (by decide +kernel) ?_
    refine V_aload_n 12 B dX5_copyFrom_12 0 rfl ?_
    refine V_get 13 B gf_RX5_13 2 rfl rfl dX5_copyFrom_13 ?_
    refine V_alenJ 16 B (v := 86) 3 rfl (by decide +kernel) dX5_copyFrom_16 ?_
    refine V_mmin 17 B (v := 0) gm_RX5_29 dX5_copyFrom_17 (Nat.le_of_ble_eq_true rfl) (Nat.le_of_ble_eq_true rfl) (Nat.le_of_ble_eq_true rfl) (Nat.le_of_ble_eq_true rfl) (by decide +kernel) ?_
    refine V_istore_n 20 B (lv2 := [(2, .int 0), (0, .ref h2), (1, .ref h0)]) dX5_copyFrom_20 (by decide) rfl ?_
    refine V_iconst 21 B (v := 0) dX5_copyFrom_21 (by decide +kernel) ?_
    refine V_istore_n 22 B (lv2 := [(3, .int 0), (2, .int 0), (0, .ref h2), (1, .ref h0)]) dX5_copyFrom_22 (by decide) rfl ?_
    refine V_iload_n 23 B dX5_copyFrom_23 0 rfl ?_
    refine V_iload_n 24 B dX5_copyFrom_24 1 rfl ?_
    refine V_icmp_ge_t 25 B 46 dX5_copyFrom_25 (by decide) (by decide +kernel) ?_
    refine V_aload_n 46 B dX5_copyFrom_46 2 rfl ?_
    refine V_iload_n 47 B dX5_copyFrom_47 1 rfl ?_
    refine V_put 48 B gp_RX5_19 2 rfl (Nat.le_of_ble_eq_true rfl) rfl rfl dX5_copyFrom_48 [(h0, oC 7 [.ref h1, .int 0]), (h1, aJ Y 6 (fun _ => 0)), (h2, oC 7 [.ref h3, .int 0]), (h3, aJ Y 86 (fun _ => 0))] rfl ?_
    exact V_vret 51 B dX5_copyFrom_51 () trivial rfl)
theorem dX10_barFor_0 : decode cX10_barFor 0 = .ok (.aload_n 0, 1) := by decide +kernel
theorem dX10_barFor_1 : decode cX10_barFor 1 = .ok (.getfield 30, 3) := by decide +kernel
theorem gf_RX10_30 : GF RX10 30 11 3 := ⟨RX10, TX10, 5, rfl, inw_X10, Nat.le_of_ble_eq_true rfl, (mT2 4 rfl rfl)⟩
theorem dX10_barFor_4 : decode cX10_barFor 4 = .ok (.aload_n 0, 1) := by decide +kernel
theorem dX10_barFor_5 : decode cX10_barFor 5 = .ok (.getfield 9, 3) := by decide +kernel
theorem dX10_barFor_8 : decode cX10_barFor 8 = .ok (.getfield 102, 3) := by decide +kernel
theorem gf_RX10_102 : GF RX10 102 2 4 := ⟨RX0, TX0, 12, rfl, inw_X0, Nat.le_of_ble_eq_true rfl, (mT1 177 rfl rfl)⟩
theorem dX10_barFor_11 : decode cX10_barFor 11 = .ok (.invokevirtual 105, 3) := by decide +kernel
theorem glV_RX10_105 : GLV RX10 105 yX5_copyFrom RX5 cX5_copyFrom 4 none 1 := ⟨⟨(mT6 157 rfl rfl), (mT3 192 rfl rfl), (mT3 193 rfl rfl), (mT1 5 rfl rfl), (mT3 194 rfl rfl)⟩, by decide +kernel⟩
theorem dX10_barFor_14 : decode cX10_barFor 14 = .ok (.iconst 0, 1) := by decide +kernel
theorem dX10_barFor_15 : decode cX10_barFor 15 = .ok (.istore_n 3, 1) := by decide +kernel
theorem dX10_barFor_16 : decode cX10_barFor 16 = .ok (.iload_n 3, 1) := by decide +kernel
theorem dX10_barFor_17 : decode cX10_barFor 17 = .ok (.aload_n 0, 1) := by decide +kernel
theorem dX10_barFor_18 : decode cX10_barFor 18 = .ok (.getfield 9, 3) := by decide +kernel
theorem dX10_barFor_21 : decode cX10_barFor 21 = .ok (.getfield 53, 3) := by decide +kernel
theorem dX10_barFor_24 : decode cX10_barFor 24 = .ok (.invokevirtual 62, 3) := by decide +kernel
theorem dX10_barFor_27 : decode cX10_barFor 27 = .ok (.if_icmp .ge 43, 3) := by decide +kernel
theorem dX10_barFor_70 : decode cX10_barFor 70 = .ok (.aload_n 0, 1) := by decide +kernel
theorem dX10_barFor_71 : decode cX10_barFor 71 = .ok (.getfield 9, 3) := by decide +kernel
theorem dX10_barFor_74 : decode cX10_barFor 74 = .ok (.getfield 44, 3) := by decide +kernel
theorem dX10_barFor_77 : decode cX10_barFor 77 = .ok (.iload_n 1, 1) := by decide +kernel
theorem dX10_barFor_78 : decode cX10_barFor 78 = .ok (.invokevirtual 49, 3) := by decide +kernel
theorem dX10_barFor_81 : decode cX10_barFor 81 = .ok (.istore_n 3, 1) := by decide +kernel
theorem dX10_barFor_82 : decode cX10_barFor 82 = .ok (.iload_n 2, 1) := by decide +kernel
theorem dX10_barFor_83 : decode cX10_barFor 83 = .ok (.ifCond .ne 8, 3) := by decide +kernel
theorem dX10_barFor_91 : decode cX10_barFor 91 = .ok (.return_, 1) := by decide +kernel
set_option maxRecDepth 100000 in
set_option maxHeartbeats 4000000 in
theorem mX10_barFor_1 (l : Launch) (D : va_G) (Y : Nat → ClassId) (h6 : Nat) (h0 : Nat) (h1 : Nat) (g0 : Nat) (g1 : Nat) (g2 : Nat) (h3 : Nat) (h5 : Nat) (g3 : Nat) (g4 : Nat) (g5 : Nat) (g6 : Nat) (g7 : Nat) (h2 : Nat) (h4 : Nat) (g8 : Nat) (g9 : Nat) (g10 : Nat) (h7 : Nat) (g11 : Nat) (h8 : Nat) (sz : Nat) : Met l yX10_barFor (WSm yX10_barFor cX10_barFor 5 none) (mkR 2 0 0 36) (PreC D Y [.ref h6, .int 0, .int 1] [(h0, oC 2 [.ref h1, .ref g0, .ref g1, .ref g2, .ref h3, .ref h5, .ref g3, .ref g4, .ref g5, .ref g6, .ref g7, .int 0]), (h1, oC 3 [.ref h2, .int 1]), (h2, aI Y 6 (upd (fun _ => 0) 0 (-1))), (h3, oC 7 [.ref h4, .int 0]), (h4, aJ Y 6 (fun _ => 0)), (h5, oC 3 [.ref g8, .int 0]), (h6, oC 11 [.ref h0, .ref g9, .ref g10, .ref h7, .ref g11]), (h7, oC 7 [.ref h8, .int 0]), (h8, aJ Y 86 (fun _ => 0))] sz) (QV D (fun (u : Unit) => True) (fun (_ : Unit) => [(h0, oC 2 [.ref h1, .ref g0, .ref g1, .ref g2, .ref h3, .ref h5, .ref g3, .ref g4, .ref g5, .ref g6, .ref g7, .int 0]), (h1, oC 3 [.ref h2, .int 1]), (h2, aI Y 6 (upd (fun _ => 0) 0 (-1))), (h3, oC 7 [.ref h4, .int 0]), (h4, aJ Y 6 (fun _ => 0)), (h5, oC 3 [.ref g8, .int 0]), (h6, oC 11 [.ref h0, .ref g9, .ref g10, .ref h7, .ref g11]), (h7, oC 7 [.ref h8, .int 0]), (h8, aJ Y 86 (fun _ => 0))]) (va_A [(h0, oC 2 [.ref h1, .ref g0, .ref g1, .ref g2, .ref h3, .ref h5, .ref g3, .ref g4, .ref g5, .ref g6, .ref g7, .int 0]), (h1, oC 3 [.ref h2, .int 1]), (h2, aI Y 6 (upd (fun _ => 0) 0 (-1))), (h3, oC 7 [.ref h4, .int 0]), (h4, aJ Y 6 (fun _ => 0)), (h5, oC 3 [.ref g8, .int 0]), (h6, oC 11 [.ref h0, .ref g9, .ref g10, .ref h7, .ref g11]), (h7, oC 7 [.ref h8, .int 0]), (h8, aJ Y 86 (fun _ => 0))] sz)) 0 0 (va_A [(h0, oC 2 [.ref h1, .ref g0, .ref g1, .ref g2, .ref h3, .ref h5, .ref g3, .ref g4, .ref g5, .ref g6, .ref g7, .int 0]), (h1, oC 3 [.ref h2, .int 1]), (h2, aI Y 6 (upd (fun _ => 0) 0 (-1))), (h3, oC 7 [.ref h4, .int 0]), (h4, aJ Y 6 (fun _ => 0)), (h5, oC 3 [.ref g8, .int 0]), (h6, oC 11 [.ref h0, .ref g9, .ref g10, .ref h7, .ref g11]), (h7, oC 7 [.ref h8, .int 0]), (h8, aJ Y 86 (fun _ => 0))] sz) :=
  met_of (by decide +kernel) (Nat.le_of_ble_eq_true rfl) (fun p e s m args below meth c B hin hsz => by
    have B : VB p s m args meth c D Y (va_A [(h0, oC 2 [.ref h1, .ref g0, .ref g1, .ref g2, .ref h3, .ref h5, .ref g3, .ref g4, .ref g5, .ref g6, .ref g7, .int 0]), (h1, oC 3 [.ref h2, .int 1]), (h2, aI Y 6 (upd (fun _ => 0) 0 (-1))), (h3, oC 7 [.ref h4, .int 0]), (h4, aJ Y 6 (fun _ => 0)), (h5, oC 3 [.ref g8, .int 0]), (h6, oC 11 [.ref h0, .ref g9, .ref g10, .ref h7, .ref g11]), (h7, oC 7 [.ref h8, .int 0]), (h8, aJ Y 86 (fun _ => 0))] sz) cX10_barFor 5 RX10 none := B
    refine V_aload_n 0 B dX10_barFor_0 0 rfl ?_
    refine V_get 1 B gf_RX10_30 6 rfl rfl dX10_barFor_1 ?_
    refine V_aload_n 4 B dX10_barFor_4 0 rfl ?_
    refine V_get 5 B gf_RX10_9 6 rfl rfl dX10_barFor_5 ?_
    refine V_get 8 B gf_RX10_102 0 rfl rfl dX10_barFor_8 ?_
    refine V_cvv 11 B (st := []) (As := [.ref h3]) (fun sz => mX5_copyFrom_7 l D Y (h7) (h3) (h4) (h8) sz) glV_RX10_105 ⟨rfl, rfl⟩ ⟨(Nat.le_of_ble_eq_true rfl), (Nat.le_of_ble_eq_true rfl)⟩ ⟨(Nat.le_of_ble_eq_true rfl), (Nat.le_of_ble_eq_true rfl)⟩ [3, 0, 2, 0] rfl 7 2 rfl rfl rfl rfl (Nat.le_of_ble_eq_true rfl) rfl (fun _ _ => rfl) dX10_barFor_11 (fun u0 w0 => ?_)
    refine V_ws [(h0, oC 2 [.ref h1, .ref g0, .ref g1, .ref g2, .ref h3, .ref h5, .ref g3, .ref g4, .ref g5, .ref g6, .ref g7, .int 0]), (h1, oC 3 [.ref h2, .int 1]), (h2, aI Y 6 (upd (fun _ => 0) 0 (-1))), (h3, oC 7 [.ref h4, .int 0]), (h4, aJ Y 6 (fun _ => 0)), (h5, oC 3 [.ref g8, .int 0]), (h6, oC 11 [.ref h0, .ref g9, .ref g10, .ref h7, .ref g11]), (h7, oC 7 [.ref h8, .int 0]), (h8, aJ Y 86 (fun _ => 0))] rfl ?_
    refine V_iconst 14 B (v := 0) dX10_barFor_14 (by decide +kernel) ?_
    refine V_istore_n 15 B (lv2 := [(3, .int 0), (0, .ref h6), (1, .int 0), (2, .int 1)]) dX10_barFor_15 (by decide) rfl ?_
    refine V_iload_n 16 B dX10_barFor_16 0 rfl ?_
    refine V_aload_n 17 B dX10_barFor_17 1 rfl ?_
    refine V_get 18 B gf_RX10_9 6 rfl rfl dX10_barFor_18 ?_
    refine V_get 21 B gf_RX10_53 0 rfl rfl dX10_barFor_21 ?_
    refine V_cvi 24 B (st := [.int 0]) (As := []) (fun sz => mX1_size_1 l D Y (h5) (g8) sz) glV_RX10_62 ⟨rfl, rfl⟩ ⟨(Nat.le_of_ble_eq_true rfl), (Nat.le_of_ble_eq_true rfl)⟩ ⟨(Nat.le_of_ble_eq_true rfl), (Nat.le_of_ble_eq_true rfl)⟩ [5] rfl 3 0 rfl rfl rfl rfl (Nat.le_of_ble_eq_true rfl) rfl (fun _ _ _ => rfl) dX10_barFor_24 (fun r1 u1 w1 => ?_)
    obtain rfl := w1
    refine V_ws [(h0, oC 2 [.ref h1, .ref g0, .ref g1, .ref g2, .ref h3, .ref h5, .ref g3, .ref g4, .ref g5, .ref g6, .ref g7, .int 0]), (h1, oC 3 [.ref h2, .int 1]), (h2, aI Y 6 (upd (fun _ => 0) 0 (-1))), (h3, oC 7 [.ref h4, .int 0]), (h4, aJ Y 6 (fun _ => 0)), (h5, oC 3 [.ref g8, .int 0]), (h6, oC 11 [.ref h0, .ref g9, .ref g10, .ref h7, .ref g11]), (h7, oC 7 [.ref h8, .int 0]), (h8, aJ Y 86 (fun _ => 0))] rfl ?_
    refine V_icmp_ge_t 27 B 70 dX10_barFor_27 (by decide) (by decide +kernel) ?_
    refine V_aload_n 70 B dX10_barFor_70 1 rfl ?_
    refine V_get 71 B gf_RX10_9 6 rfl rfl dX10_barFor_71 ?_
    refine V_get 74 B gf_RX10_44 0 rfl rfl dX10_barFor_74 ?_
    refine V_iload_n 77 B dX10_barFor_77 2 rfl ?_
    refine V_cvi 78 B (st := []) (As := [.int 0]) (fun sz => mX1_at_1 l D Y (h1) (h2) sz) glV_RX10_49 ⟨rfl, rfl⟩ ⟨(Nat.le_of_ble_eq_true rfl), (Nat.le_of_ble_eq_true rfl)⟩ ⟨(Nat.le_of_ble_eq_true rfl), (Nat.le_of_ble_eq_true rfl)⟩ [1, 0] rfl 3 0 rfl rfl rfl rfl (Nat.le_of_ble_eq_true rfl) rfl (fun _ _ _ => rfl) dX10_barFor_78 (fun r2 u2 w2 => ?_)
    obtain rfl := w2
    refine V_ws [(h0, oC 2 [.ref h1, .ref g0, .ref g1, .ref g2, .ref h3, .ref h5, .ref g3, .ref g4, .ref g5, .ref g6, .ref g7, .int 0]), (h1, oC 3 [.ref h2, .int 1]), (h2, aI Y 6 (upd (fun _ => 0) 0 (-1))), (h3, oC 7 [.ref h4, .int 0]), (h4, aJ Y 6 (fun _ => 0)), (h5, oC 3 [.ref g8, .int 0]), (h6, oC 11 [.ref h0, .ref g9, .ref g10, .ref h7, .ref g11]), (h7, oC 7 [.ref h8, .int 0]), (h8, aJ Y 86 (fun _ => 0))] rfl ?_
    refine V_istore_n 81 B (lv2 := [(3, .int (-1)), (0, .ref h6), (1, .int 0), (2, .int 1)]) dX10_barFor_81 (by decide) rfl ?_
    refine V_iload_n 82 B dX10_barFor_82 3 rfl ?_
    refine V_if_ne_t 83 B 91 dX10_barFor_83 (by decide) (by decide +kernel) ?_
    exact V_vret 91 B dX10_barFor_91 () trivial rfl)
theorem dX10_oneStroke_0 : decode cX10_oneStroke 0 = .ok (.iload_n 0, 1) := by decide +kernel
theorem dX10_oneStroke_1 : decode cX10_oneStroke 1 = .ok (.ifCond .ne 7, 3) := by decide +kernel
theorem dX10_oneStroke_8 : decode cX10_oneStroke 8 = .ok (.iconst 1, 1) := by decide +kernel
theorem dX10_oneStroke_9 : decode cX10_oneStroke 9 = .ok (.iload_n 0, 1) := by decide +kernel
theorem dX10_oneStroke_10 : decode cX10_oneStroke 10 = .ok (.iconst 1, 1) := by decide +kernel
theorem dX10_oneStroke_11 : decode cX10_oneStroke 11 = .ok (.isub, 1) := by decide +kernel
theorem dX10_oneStroke_12 : decode cX10_oneStroke 12 = .ok (.ishl, 1) := by decide +kernel
theorem dX10_oneStroke_13 : decode cX10_oneStroke 13 = .ok (.istore_n 2, 1) := by decide +kernel
theorem dX10_oneStroke_14 : decode cX10_oneStroke 14 = .ok (.lconst 0, 1) := by decide +kernel
theorem dX10_oneStroke_15 : decode cX10_oneStroke 15 = .ok (.bipush 32, 2) := by decide +kernel
theorem dX10_oneStroke_17 : decode cX10_oneStroke 17 = .ok (.iload_n 2, 1) := by decide +kernel
theorem dX10_oneStroke_18 : decode cX10_oneStroke 18 = .ok (.imul, 1) := by decide +kernel
theorem dX10_oneStroke_19 : decode cX10_oneStroke 19 = .ok (.iload_n 1, 1) := by decide +kernel
theorem dX10_oneStroke_20 : decode cX10_oneStroke 20 = .ok (.iadd, 1) := by decide +kernel
theorem dX10_oneStroke_21 : decode cX10_oneStroke 21 = .ok (.invokestatic 115, 3) := by decide +kernel
theorem glS_RX10_115 : GLS RX10 115 yX6_extended cX6_extended 4 (some .long) 2 := ⟨⟨(mT6 167 rfl rfl), (mT3 96 rfl rfl), (mT1 18 rfl rfl), (mT3 97 rfl rfl)⟩, by decide +kernel⟩
theorem dX10_oneStroke_24 : decode cX10_oneStroke 24 = .ok (.lreturn, 1) := by decide +kernel
theorem dX10_oneStroke_4 : decode cX10_oneStroke 4 = .ok (.iconst 0, 1) := by decide +kernel
theorem dX10_oneStroke_5 : decode cX10_oneStroke 5 = .ok (.goto 8, 3) := by decide +kernel
set_option maxRecDepth 100000 in
set_option maxHeartbeats 4000000 in
theorem mX10_oneStroke_1 (l : Launch) (D : va_G) (Y : Nat → ClassId) (p0 : Int32) (p1 : Int32) (sz : Nat) : Met l yX10_oneStroke (WSm yX10_oneStroke cX10_oneStroke 3 (some .long)) (mkR 2 0 0 44) (PreC D Y [.int p0, .int p1] [] sz) (QJ D (fun (r : Int64) (u : Unit) => (¬ p0 = 0 ∧ (0 ||| ((((32 * ((1 : Int32) <<< ((p0 - 1) &&& 31))) + p1) + 1).toInt64 <<< ((27 : Int32).toInt64 &&& 63))) = r) ∨ (p0 = 0 ∧ (0 ||| ((p1 + 1).toInt64 <<< ((27 : Int32).toInt64 &&& 63))) = r)) (fun (_ : Unit) => []) (va_A [] sz)) 0 0 (va_A [] sz) :=
  met_of (by decide +kernel) (Nat.le_of_ble_eq_true rfl) (fun p e s m args below meth c B hin hsz => by
    have B : VB p s m args meth c D Y (va_A [] sz) cX10_oneStroke 3 RX10 (some .long) := B
    refine V_iload_n 0 B dX10_oneStroke_0 0 rfl ?_
    refine V_if_ne 1 B 8 dX10_oneStroke_1 (by decide) (fun k0 => ?_) (fun k0 => ?_)
    ·
      refine V_iconst 8 B (v := 1) dX10_oneStroke_8 (by decide +kernel) ?_
      refine V_iload_n 9 B dX10_oneStroke_9 0 rfl ?_
      refine V_iconst 10 B (v := 1) dX10_oneStroke_10 (by decide +kernel) ?_
      refine V_isub 11 B dX10_oneStroke_11 rfl ?_
      refine V_ishl 12 B dX10_oneStroke_12 rfl ?_
      refine V_istore_n 13 B (lv2 := [(2, .int ((1 : Int32) <<< ((p0 - 1) &&& 31))), (0, .int p0), (1, .int p1)]) dX10_oneStroke_13 (by decide) rfl ?_
      refine V_lconst 14 B (v := 0) dX10_oneStroke_14 (by decide +kernel) ?_
      refine V_bipush 15 B (v := 32) dX10_oneStroke_15 (by decide +kernel) ?_
      refine V_iload_n 17 B dX10_oneStroke_17 0 rfl ?_
      refine V_imul 18 B dX10_oneStroke_18 rfl ?_
      refine V_iload_n 19 B dX10_oneStroke_19 2 rfl ?_
      refine V_iadd 20 B dX10_oneStroke_20 rfl ?_
      refine V_csl 21 B (st := []) (As := [.long 0, .int ((32 * ((1 : Int32) <<< ((p0 - 1) &&& 31))) + p1)]) (fun sz => mX6_extended_1 l D Y (((32 * ((1 : Int32) <<< ((p0 - 1) &&& 31))) + p1)) sz) glS_RX10_115 ⟨rfl, rfl⟩ ⟨(Nat.le_of_ble_eq_true rfl), (Nat.le_of_ble_eq_true rfl)⟩ ⟨(Nat.le_of_ble_eq_true rfl), (Nat.le_of_ble_eq_true rfl)⟩ [] rfl rfl (Nat.le_of_ble_eq_true rfl) rfl (fun _ _ _ => rfl) dX10_oneStroke_21 (fun r1 u1 w1 => ?_)
      obtain rfl := w1
      refine V_ws [] rfl ?_
      exact V_lret 24 B dX10_oneStroke_24 () (Or.inl ⟨k0, rfl⟩) rfl
    ·
      obtain rfl : p0 = 0 := k0
      refine V_iconst 4 B (v := 0) dX10_oneStroke_4 (by decide +kernel) ?_
      refine V_goto 5 B 13 dX10_oneStroke_5 (by decide) ?_
      refine V_istore_n 13 B (lv2 := [(2, .int 0), (0, .int 0), (1, .int p1)]) dX10_oneStroke_13 (by decide) rfl ?_
      refine V_lconst 14 B (v := 0) dX10_oneStroke_14 (by decide +kernel) ?_
      refine V_bipush 15 B (v := 32) dX10_oneStroke_15 (by decide +kernel) ?_
      refine V_iload_n 17 B dX10_oneStroke_17 0 rfl ?_
      refine V_imul 18 B (v := 0) dX10_oneStroke_18 (by decide +kernel) ?_
      refine V_iload_n 19 B dX10_oneStroke_19 2 rfl ?_
      refine V_iadd 20 B dX10_oneStroke_20 (Int32.zero_add _) ?_
      refine V_csl 21 B (st := []) (As := [.long 0, .int p1]) (fun sz => mX6_extended_1 l D Y (p1) sz) glS_RX10_115 ⟨rfl, rfl⟩ ⟨(Nat.le_of_ble_eq_true rfl), (Nat.le_of_ble_eq_true rfl)⟩ ⟨(Nat.le_of_ble_eq_true rfl), (Nat.le_of_ble_eq_true rfl)⟩ [] rfl rfl (Nat.le_of_ble_eq_true rfl) rfl (fun _ _ _ => rfl) dX10_oneStroke_21 (fun r2 u2 w2 => ?_)
      obtain rfl := w2
      refine V_ws [] rfl ?_
      exact V_lret 24 B dX10_oneStroke_24 () (Or.inr ⟨rfl, rfl⟩) rfl)
theorem dX5_hasClash_0 : decode cX5_hasClash 0 = .ok (.iconst 0, 1) := by decide +kernel
theorem dX5_hasClash_1 : decode cX5_hasClash 1 = .ok (.istore_n 3, 1) := by decide +kernel
theorem dX5_hasClash_2 : decode cX5_hasClash 2 = .ok (.iload_n 3, 1) := by decide +kernel
theorem dX5_hasClash_3 : decode cX5_hasClash 3 = .ok (.aload_n 0, 1) := by decide +kernel
theorem dX5_hasClash_4 : decode cX5_hasClash 4 = .ok (.getfield 19, 3) := by decide +kernel
theorem dX5_hasClash_7 : decode cX5_hasClash 7 = .ok (.if_icmp .ge 33, 3) := by decide +kernel
theorem dX5_hasClash_40 : decode cX5_hasClash 40 = .ok (.iconst 0, 1) := by decide +kernel
theorem dX5_hasClash_41 : decode cX5_hasClash 41 = .ok (.ireturn, 1) := by decide +kernel
set_option maxRecDepth 100000 in
set_option maxHeartbeats 4000000 in
theorem mX5_hasClash_1 (l : Launch) (D : va_G) (Y : Nat → ClassId) (h0 : Nat) (g0 : Nat) (p0 : Int64) (sz : Nat) : Met l yX5_hasClash (WSm yX5_hasClash cX5_hasClash 4 (some .boolean)) (mkR 0 0 0 0) (PreC D Y [.ref h0, .long p0] [(h0, oC 7 [.ref g0, .int 0])] sz) (QI D (fun (r : Int32) (u : Unit) => 0 = r) (fun (_ : Unit) => [(h0, oC 7 [.ref g0, .int 0])]) (va_A [(h0, oC 7 [.ref g0, .int 0])] sz)) 0 0 (va_A [(h0, oC 7 [.ref g0, .int 0])] sz) :=
  met_of (by decide +kernel) (Nat.le_of_ble_eq_true rfl) (fun p e s m args below meth c B hin hsz => by
    have B : VB p s m args meth c D Y (va_A [(h0, oC 7 [.ref g0, .int 0])] sz) cX5_hasClash 4 RX5 (some .boolean) := B
    refine V_iconst 0 B (v := 0) dX5_hasClash_0 (by decide +kernel) ?_
    refine V_istore_n 1 B (lv2 := [(3, .int 0), (0, .ref h0), (1, .long p0)]) dX5_hasClash_1 (by decide) rfl ?_
    refine V_iload_n 2 B dX5_hasClash_2 0 rfl ?_
    refine V_aload_n 3 B dX5_hasClash_3 1 rfl ?_
    refine V_get 4 B gf_RX5_19 0 rfl rfl dX5_hasClash_4 ?_
    refine V_icmp_ge_t 7 B 40 dX5_hasClash_7 (by decide) (by decide +kernel) ?_
    refine V_iconst 40 B (v := 0) dX5_hasClash_40 (by decide +kernel) ?_
    exact V_zret 41 B rfl dX5_hasClash_41 () rfl rfl)
theorem dX10_countFreeStrokes_0 : decode cX10_countFreeStrokes 0 = .ok (.iconst 0, 1) := by decide +kernel
theorem dX10_countFreeStrokes_1 : decode cX10_countFreeStrokes 1 = .ok (.istore_n 1, 1) := by decide +kernel
theorem dX10_countFreeStrokes_2 : decode cX10_countFreeStrokes 2 = .ok (.iconst 0, 1) := by decide +kernel
theorem dX10_countFreeStrokes_3 : decode cX10_countFreeStrokes 3 = .ok (.istore_n 2, 1) := by decide +kernel
theorem dX10_countFreeStrokes_4 : decode cX10_countFreeStrokes 4 = .ok (.iload_n 2, 1) := by decide +kernel
theorem dX10_countFreeStrokes_5 : decode cX10_countFreeStrokes 5 = .ok (.iconst 4, 1) := by decide +kernel
theorem dX10_countFreeStrokes_6 : decode cX10_countFreeStrokes 6 = .ok (.if_icmp .gt 41, 3) := by decide +kernel
theorem dX10_countFreeStrokes_9 : decode cX10_countFreeStrokes 9 = .ok (.iconst 0, 1) := by decide +kernel
theorem dX10_countFreeStrokes_10 : decode cX10_countFreeStrokes 10 = .ok (.istore_n 3, 1) := by decide +kernel
theorem dX10_countFreeStrokes_11 : decode cX10_countFreeStrokes 11 = .ok (.iload_n 3, 1) := by decide +kernel
theorem dX10_countFreeStrokes_12 : decode cX10_countFreeStrokes 12 = .ok (.bipush 26, 2) := by decide +kernel
theorem dX10_countFreeStrokes_14 : decode cX10_countFreeStrokes 14 = .ok (.if_icmp .ge 27, 3) := by decide +kernel
theorem dX10_countFreeStrokes_17 : decode cX10_countFreeStrokes 17 = .ok (.aload_n 0, 1) := by decide +kernel
theorem dX10_countFreeStrokes_18 : decode cX10_countFreeStrokes 18 = .ok (.getfield 30, 3) := by decide +kernel
theorem dX10_countFreeStrokes_21 : decode cX10_countFreeStrokes 21 = .ok (.iload_n 2, 1) := by decide +kernel
theorem dX10_countFreeStrokes_22 : decode cX10_countFreeStrokes 22 = .ok (.iload_n 3, 1) := by decide +kernel
theorem dX10_countFreeStrokes_23 : decode cX10_countFreeStrokes 23 = .ok (.invokestatic 119, 3) := by decide +kernel
theorem glS_RX10_119 : GLS RX10 119 yX10_oneStroke cX10_oneStroke 3 (some .long) 2 := ⟨⟨(mT6 164 rfl rfl), (mT6 165 rfl rfl), (mT1 8 rfl rfl), (mT6 166 rfl rfl)⟩, by decide +kernel⟩
theorem dX10_countFreeStrokes_26 : decode cX10_countFreeStrokes 26 = .ok (.invokevirtual 123, 3) := by decide +kernel
theorem glV_RX10_123 : GLV RX10 123 yX5_hasClash RX5 cX5_hasClash 4 (some .boolean) 1 := ⟨⟨(mT6 168 rfl rfl), (mT3 104 rfl rfl), (mT3 105 rfl rfl), (mT1 5 rfl rfl), (mT3 106 rfl rfl)⟩, by decide +kernel⟩
theorem dX10_countFreeStrokes_29 : decode cX10_countFreeStrokes 29 = .ok (.ifCond .ne 6, 3) := by decide +kernel
theorem dX10_countFreeStrokes_32 : decode cX10_countFreeStrokes 32 = .ok (.iinc 1 1, 3) := by decide +kernel
theorem dX10_countFreeStrokes_35 : decode cX10_countFreeStrokes 35 = .ok (.iinc 3 1, 3) := by decide +kernel
theorem dX10_countFreeStrokes_38 : decode cX10_countFreeStrokes 38 = .ok (.goto (-27), 3) := by decide +kernel
theorem dX10_countFreeStrokes_41 : decode cX10_countFreeStrokes 41 = .ok (.iinc 2 1, 3) := by decide +kernel
theorem dX10_countFreeStrokes_44 : decode cX10_countFreeStrokes 44 = .ok (.goto (-40), 3) := by decide +kernel
theorem dX10_countFreeStrokes_47 : decode cX10_countFreeStrokes 47 = .ok (.iload_n 1, 1) := by decide +kernel
theorem dX10_countFreeStrokes_48 : decode cX10_countFreeStrokes 48 = .ok (.ireturn, 1) := by decide +kernel
set_option maxRecDepth 100000 in
set_option maxHeartbeats 4000000 in
theorem mX10_countFreeStrokes_1 (l : Launch) (D : va_G) (Y : Nat → ClassId) (h0 : Nat) (g0 : Nat) (g1 : Nat) (g2 : Nat) (h1 : Nat) (g3 : Nat) (g4 : Nat) (sz : Nat) : Met l yX10_countFreeStrokes (WSm yX10_countFreeStrokes cX10_countFreeStrokes 4 (some .int)) (mkR 3 0 0 66) (PreC D Y [.ref h0] [(h0, oC 11 [.ref g0, .ref g1, .ref g2, .ref h1, .ref g3]), (h1, oC 7 [.ref g4, .int 0])] sz) (QI D (fun (r : Int32) (u : Unit) => 130 = r) (fun (_ : Unit) => [(h0, oC 11 [.ref g0, .ref g1, .ref g2, .ref h1, .ref g3]), (h1, oC 7 [.ref g4, .int 0])]) (va_A [(h0, oC 11 [.ref g0, .ref g1, .ref g2, .ref h1, .ref g3]), (h1, oC 7 [.ref g4, .int 0])] sz)) 0 0 (va_A [(h0, oC 11 [.ref g0, .ref g1, .ref g2, .ref h1, .ref g3]), (h1, oC 7 [.ref g4, .int 0])] sz) :=
  met_of (by decide +kernel) (Nat.le_of_ble_eq_true rfl) (fun p e s m args below meth c B hin hsz => by
    have B : VB p s m args meth c D Y (va_A [(h0, oC 11 [.ref g0, .ref g1, .ref g2, .ref h1, .ref g3]), (h1, oC 7 [.ref g4, .int 0])] sz) cX10_countFreeStrokes 4 RX10 (some .int) := B
    refine V_iconst 0 B (v := 0) dX10_countFreeStrokes_0 (by decide +kernel) ?_
    refine V_istore_n 1 B (lv2 := [(1, .int 0), (0, .ref h0)]) dX10_countFreeStrokes_1 (by decide) rfl ?_
    refine V_iconst 2 B (v := 0) dX10_countFreeStrokes_2 (by decide +kernel) ?_
    refine V_istore_n 3 B (lv2 := [(2, .int 0), (1, .int 0), (0, .ref h0)]) dX10_countFreeStrokes_3 (by decide) rfl ?_
    refine V_loop (α := Unit) 5 (fun _ _ => True) (fun iA _ => [(2, .int (nI iA)), (1, .int (nI (26 * iA))), (0, .ref h0)]) (fun _ _ => [(h0, oC 11 [.ref g0, .ref g1, .ref g2, .ref h1, .ref g3]), (h1, oC 7 [.ref g4, .int 0])]) () trivial rfl rfl (fun iA _ hiA _ IHA => ?_) (fun _ _ => ?_)
    ·
      refine V_lv [(2, .int (nI iA)), (1, .int (nI (26 * iA))), (0, .ref h0)] [0, 1, 2] rfl ?_
      refine V_ws [(h0, oC 11 [.ref g0, .ref g1, .ref g2, .ref h1, .ref g3]), (h1, oC 7 [.ref g4, .int 0])] rfl ?_
      refine V_iload_n 4 B dX10_countFreeStrokes_4 0 rfl ?_
      refine V_iconst 5 B (v := 4) dX10_countFreeStrokes_5 (by decide +kernel) ?_
      refine V_icmp_gt_f 6 B 47 dX10_countFreeStrokes_6 (by decide) (q_ngt (nI_hi hiA (by decide) (k := 4) (by decide +kernel)) (by decide +kernel)) ?_
      refine V_iconst 9 B (v := 0) dX10_countFreeStrokes_9 (by decide +kernel) ?_
      refine V_istore_n 10 B (lv2 := [(3, .int 0), (2, .int (nI iA)), (1, .int (nI (26 * iA))), (0, .ref h0)]) dX10_countFreeStrokes_10 (by decide) rfl ?_
      refine V_loop (α := Unit) 26 (fun _ _ => True) (fun iB _ => [(3, .int (nI iB)), (2, .int (nI iA)), (1, .int (nI (26 * iA + iB))), (0, .ref h0)]) (fun _ _ => [(h0, oC 11 [.ref g0, .ref g1, .ref g2, .ref h1, .ref g3]), (h1, oC 7 [.ref g4, .int 0])]) () trivial rfl rfl (fun iB _ hiB _ IHB => ?_) (fun _ _ => ?_)
      ·
        refine V_lv [(3, .int (nI iB)), (2, .int (nI iA)), (1, .int (nI (26 * iA + iB))), (0, .ref h0)] [0, 1, 2, 3] rfl ?_
        refine V_ws [(h0, oC 11 [.ref g0, .ref g1, .ref g2, .ref h1, .ref g3]), (h1, oC 7 [.ref g4, .int 0])] rfl ?_
        refine V_iload_n 11 B dX10_countFreeStrokes_11 0 rfl ?_
        refine V_bipush 12 B (v := 26) dX10_countFreeStrokes_12 (by decide +kernel) ?_
        refine V_icmp_ge_f 14 B 41 dX10_countFreeStrokes_14 (by decide) (q_nge (nI_hi hiB (by decide) (k := 25) (by decide +kernel)) (by decide +kernel)) ?_
        refine V_aload_n 17 B dX10_countFreeStrokes_17 3 rfl ?_
        refine V_get 18 B gf_RX10_30 0 rfl rfl dX10_countFreeStrokes_18 ?_
        refine V_iload_n 21 B dX10_countFreeStrokes_21 1 rfl ?_
        refine V_iload_n 22 B dX10_countFreeStrokes_22 0 rfl ?_
        refine V_csl 23 B (st := [.ref h1]) (As := [.int (nI iA), .int (nI iB)]) (fun sz => mX10_oneStroke_1 l D Y ((nI iA)) ((nI iB)) sz) glS_RX10_119 ⟨rfl, rfl⟩ ⟨(Nat.le_of_ble_eq_true rfl), (Nat.le_of_ble_eq_true rfl)⟩ ⟨(Nat.le_of_ble_eq_true rfl), (Nat.le_of_ble_eq_true rfl)⟩ [] rfl rfl (Nat.le_of_ble_eq_true rfl) rfl (fun _ _ _ => rfl) dX10_countFreeStrokes_23 (fun r0 u0 w0 => ?_)
        rcases w0 with ⟨k1, rfl⟩ | ⟨k2, rfl⟩
        ·
          refine V_ws [(h0, oC 11 [.ref g0, .ref g1, .ref g2, .ref h1, .ref g3]), (h1, oC 7 [.ref g4, .int 0])] rfl ?_
          refine V_cvi 26 B (st := []) (As := [.long (0 ||| ((((32 * ((1 : Int32) <<< (((nI iA) - 1) &&& 31))) + (nI iB)) + 1).toInt64 <<< ((27 : Int32).toInt64 &&& 63)))]) (fun sz => mX5_hasClash_1 l D Y (h1) (g4) ((0 ||| ((((32 * ((1 : Int32) <<< (((nI iA) - 1) &&& 31))) + (nI iB)) + 1).toInt64 <<< ((27 : Int32).toInt64 &&& 63)))) sz) glV_RX10_123 ⟨rfl, rfl⟩ ⟨(Nat.le_of_ble_eq_true rfl), (Nat.le_of_ble_eq_true rfl)⟩ ⟨(Nat.le_of_ble_eq_true rfl), (Nat.le_of_ble_eq_true rfl)⟩ [1] rfl 7 0 rfl rfl rfl rfl (Nat.le_of_ble_eq_true rfl) rfl (fun _ _ _ => rfl) dX10_countFreeStrokes_26 (fun r3 u3 w3 => ?_)
          obtain rfl := w3
          refine V_ws [(h0, oC 11 [.ref g0, .ref g1, .ref g2, .ref h1, .ref g3]), (h1, oC 7 [.ref g4, .int 0])] rfl ?_
          refine V_if_ne_f 29 B 35 dX10_countFreeStrokes_29 (by decide) (by decide +kernel) ?_
          refine V_iinc 32 B (v := (nI ((26 * iA + iB) + 1))) (lv2 := [(1, .int (nI ((26 * iA + iB) + 1))), (3, .int (nI iB)), (2, .int (nI iA)), (0, .ref h0)]) dX10_countFreeStrokes_32 2 rfl (nI_1 _) (by decide) rfl ?_
          refine V_iinc 35 B (v := (nI (iB + 1))) (lv2 := [(3, .int (nI (iB + 1))), (1, .int (nI ((26 * iA + iB) + 1))), (2, .int (nI iA)), (0, .ref h0)]) dX10_countFreeStrokes_35 1 rfl (nI_1 _) (by decide) rfl ?_
          refine V_goto 38 B 11 dX10_countFreeStrokes_38 (by decide) ?_
          refine V_lv [(3, .int (nI (iB + 1))), (2, .int (nI iA)), (1, .int (nI (26 * iA + (iB + 1)))), (0, .ref h0)] [0, 2, 1, 3] rfl ?_
          exact IHB () trivial
        ·
          refine V_ws [(h0, oC 11 [.ref g0, .ref g1, .ref g2, .ref h1, .ref g3]), (h1, oC 7 [.ref g4, .int 0])] rfl ?_
          refine V_cvi 26 B (st := []) (As := [.long (0 ||| (((nI iB) + 1).toInt64 <<< ((27 : Int32).toInt64 &&& 63)))]) (fun sz => mX5_hasClash_1 l D Y (h1) (g4) ((0 ||| (((nI iB) + 1).toInt64 <<< ((27 : Int32).toInt64 &&& 63)))) sz) glV_RX10_123 ⟨rfl, rfl⟩ ⟨(Nat.le_of_ble_eq_true rfl), (Nat.le_of_ble_eq_true rfl)⟩ ⟨(Nat.le_of_ble_eq_true rfl), (Nat.le_of_ble_eq_true rfl)⟩ [1] rfl 7 0 rfl rfl rfl rfl (Nat.le_of_ble_eq_true rfl) rfl (fun _ _ _ => rfl) dX10_countFreeStrokes_26 (fun r4 u4 w4 => ?_)
          obtain rfl := w4
          refine V_ws [(h0, oC 11 [.ref g0, .ref g1, .ref g2, .ref h1, .ref g3]), (h1, oC 7 [.ref g4, .int 0])] rfl ?_
          refine V_if_ne_f 29 B 35 dX10_countFreeStrokes_29 (by decide) (by decide +kernel) ?_
          refine V_iinc 32 B (v := (nI ((26 * iA + iB) + 1))) (lv2 := [(1, .int (nI ((26 * iA + iB) + 1))), (3, .int (nI iB)), (2, .int (nI iA)), (0, .ref h0)]) dX10_countFreeStrokes_32 2 rfl (nI_1 _) (by decide) rfl ?_
          refine V_iinc 35 B (v := (nI (iB + 1))) (lv2 := [(3, .int (nI (iB + 1))), (1, .int (nI ((26 * iA + iB) + 1))), (2, .int (nI iA)), (0, .ref h0)]) dX10_countFreeStrokes_35 1 rfl (nI_1 _) (by decide) rfl ?_
          refine V_goto 38 B 11 dX10_countFreeStrokes_38 (by decide) ?_
          refine V_lv [(3, .int (nI (iB + 1))), (2, .int (nI iA)), (1, .int (nI (26 * iA + (iB + 1)))), (0, .ref h0)] [0, 2, 1, 3] rfl ?_
          exact IHB () trivial
      ·
        refine V_lv [(3, .int 26), (2, .int (nI iA)), (1, .int (nI (26 * iA + 26))), (0, .ref h0)] [0, 1, 2, 3] rfl ?_
        refine V_ws [(h0, oC 11 [.ref g0, .ref g1, .ref g2, .ref h1, .ref g3]), (h1, oC 7 [.ref g4, .int 0])] rfl ?_
        refine V_iload_n 11 B dX10_countFreeStrokes_11 0 rfl ?_
        refine V_bipush 12 B (v := 26) dX10_countFreeStrokes_12 (by decide +kernel) ?_
        refine V_icmp_ge_t 14 B 41 dX10_countFreeStrokes_14 (by decide) (by decide +kernel) ?_
        refine V_iinc 41 B (v := (nI (iA + 1))) (lv2 := [(2, .int (nI (iA + 1))), (3, .int 26), (1, .int (nI (26 * iA + 26))), (0, .ref h0)]) dX10_countFreeStrokes_41 1 rfl (nI_1 _) (by decide) rfl ?_
        refine V_goto 44 B 4 dX10_countFreeStrokes_44 (by decide) ?_
        refine V_lv [(2, .int (nI (iA + 1))), (1, .int (nI (26 * (iA + 1)))), (0, .ref h0)] [0, 2, 3] rfl ?_
        exact IHA () trivial
    ·
      refine V_lv [(2, .int 5), (1, .int 130), (0, .ref h0)] [0, 1, 2] rfl ?_
      refine V_ws [(h0, oC 11 [.ref g0, .ref g1, .ref g2, .ref h1, .ref g3]), (h1, oC 7 [.ref g4, .int 0])] rfl ?_
      refine V_iload_n 4 B dX10_countFreeStrokes_4 0 rfl ?_
      refine V_iconst 5 B (v := 4) dX10_countFreeStrokes_5 (by decide +kernel) ?_
      refine V_icmp_gt_t 6 B 47 dX10_countFreeStrokes_6 (by decide) (by decide +kernel) ?_
      refine V_iload_n 47 B dX10_countFreeStrokes_47 1 rfl ?_
      exact V_iret 48 B dX10_countFreeStrokes_48 () rfl rfl)
theorem dX11_freeStrokes_0 : decode cX11_freeStrokes 0 = .ok (.aload_n 0, 1) := by decide +kernel
theorem dX11_freeStrokes_1 : decode cX11_freeStrokes 1 = .ok (.iload_n 1, 1) := by decide +kernel
theorem dX11_freeStrokes_2 : decode cX11_freeStrokes 2 = .ok (.invokevirtual 180, 3) := by decide +kernel
theorem dX11_freeStrokes_5 : decode cX11_freeStrokes 5 = .ok (.aload_n 0, 1) := by decide +kernel
theorem dX11_freeStrokes_6 : decode cX11_freeStrokes 6 = .ok (.getfield 30, 3) := by decide +kernel
theorem dX11_freeStrokes_9 : decode cX11_freeStrokes 9 = .ok (.iload_n 1, 1) := by decide +kernel
theorem dX11_freeStrokes_10 : decode cX11_freeStrokes 10 = .ok (.iconst 1, 1) := by decide +kernel
theorem dX11_freeStrokes_11 : decode cX11_freeStrokes 11 = .ok (.invokevirtual 301, 3) := by decide +kernel
theorem glV_RX11_301 : GLV RX11 301 yX10_barFor RX10 cX10_barFor 5 none 2 := ⟨⟨(mT6 153 rfl rfl), (mT6 154 rfl rfl), (mT6 155 rfl rfl), (mT1 8 rfl rfl), (mT6 156 rfl rfl)⟩, by decide +kernel⟩
theorem dX11_freeStrokes_14 : decode cX11_freeStrokes 14 = .ok (.aload_n 0, 1) := by decide +kernel
theorem dX11_freeStrokes_15 : decode cX11_freeStrokes 15 = .ok (.getfield 30, 3) := by decide +kernel
theorem dX11_freeStrokes_18 : decode cX11_freeStrokes 18 = .ok (.invokevirtual 305, 3) := by decide +kernel
theorem glV_RX11_305 : GLV RX11 305 yX10_countFreeStrokes RX10 cX10_countFreeStrokes 4 (some .int) 0 := ⟨⟨(mT6 160 rfl rfl), (mT6 161 rfl rfl), (mT6 162 rfl rfl), (mT1 8 rfl rfl), (mT6 163 rfl rfl)⟩, by decide +kernel⟩
theorem dX11_freeStrokes_21 : decode cX11_freeStrokes 21 = .ok (.ireturn, 1) := by decide +kernel
set_option maxRecDepth 100000 in
set_option maxHeartbeats 4000000 in
theorem mX11_freeStrokes_1 (l : Launch) (hl9 : l.stackTraces = false) (D : va_G) (Y : Nat → ClassId) (h0 : Nat) (h1 : Nat) (g0 : Nat) (g1 : Nat) (g2 : Nat) (h7 : Nat) (g3 : Nat) (g4 : Nat) (g5 : Nat) (g6 : Nat) (h2 : Nat) (g7 : Nat) (g8 : Nat) (g9 : Nat) (h4 : Nat) (h6 : Nat) (g10 : Nat) (g11 : Nat) (g12 : Nat) (g13 : Nat) (g14 : Nat) (h3 : Nat) (h5 : Nat) (g15 : Nat) (g16 : Nat) (g17 : Nat) (h8 : Nat) (g18 : Nat) (h9 : Nat) (p0 : Int32) (sz : Nat) : vx_Met l yX11_freeStrokes (WSm yX11_freeStrokes cX11_freeStrokes 2 (some .int)) (mkR 7 1 6 103) (PreX D Y [.ref h0, .int p0] [(h0, oC 12 [.ref h1, .ref g0, .ref g1, .ref g2, .ref h7, .ref g3, .ref g4, .ref g5, .ref g6, .long 0]), (h1, oC 2 [.ref h2, .ref g7, .ref g8, .ref g9, .ref h4, .ref h6, .ref g10, .ref g11, .ref g12, .ref g13, .ref g14, .int 0]), (h2, oC 3 [.ref h3, .int 1]), (h3, aI Y 6 (upd (fun _ => 0) 0 (-1))), (h4, oC 7 [.ref h5, .int 0]), (h5, aJ Y 6 (fun _ => 0)), (h6, oC 3 [.ref g15, .int 0]), (h7, oC 11 [.ref h1, .ref g16, .ref g17, .ref h8, .ref g18]), (h8, oC 7 [.ref h9, .int 0]), (h9, aJ Y 86 (fun _ => 0))] sz) (QI D (fun (r : Int32) (u : Unit) => p0 = 0 ∧ 130 = r) (fun (_ : Unit) => [(h0, oC 12 [.ref h1, .ref g0, .ref g1, .ref g2, .ref h7, .ref g3, .ref g4, .ref g5, .ref g6, .long 0]), (h1, oC 2 [.ref h2, .ref g7, .ref g8, .ref g9, .ref h4, .ref h6, .ref g10, .ref g11, .ref g12, .ref g13, .ref g14, .int 0]), (h2, oC 3 [.ref h3, .int 1]), (h3, aI Y 6 (upd (fun _ => 0) 0 (-1))), (h4, oC 7 [.ref h5, .int 0]), (h5, aJ Y 6 (fun _ => 0)), (h6, oC 3 [.ref g15, .int 0]), (h7, oC 11 [.ref h1, .ref g16, .ref g17, .ref h8, .ref g18]), (h8, oC 7 [.ref h9, .int 0]), (h9, aJ Y 86 (fun _ => 0))]) (va_A [(h0, oC 12 [.ref h1, .ref g0, .ref g1, .ref g2, .ref h7, .ref g3, .ref g4, .ref g5, .ref g6, .long 0]), (h1, oC 2 [.ref h2, .ref g7, .ref g8, .ref g9, .ref h4, .ref h6, .ref g10, .ref g11, .ref g12, .ref g13, .ref g14, .int 0]), (h2, oC 3 [.ref h3, .int 1]), (h3, aI Y 6 (upd (fun _ => 0) 0 (-1))), (h4, oC 7 [.ref h5, .int 0]), (h5, aJ Y 6 (fun _ => 0)), (h6, oC 3 [.ref g15, .int 0]), (h7, oC 11 [.ref h1, .ref g16, .ref g17, .ref h8, .ref g18]), (h8, oC 7 [.ref h9, .int 0]), (h9, aJ Y 86 (fun _ => 0))] sz)) (XW D (fun (E : String) (u : Unit) => (E = "java/lang/IndexOutOfBoundsException" ∧ p0 < 0) ∨ (E = "java/lang/IndexOutOfBoundsException" ∧ ¬ p0 < 0 ∧ 1 ≤ p0)) (fun (_ : Unit) => [(h0, oC 12 [.ref h1, .ref g0, .ref g1, .ref g2, .ref h7, .ref g3, .ref g4, .ref g5, .ref g6, .long 0]), (h1, oC 2 [.ref h2, .ref g7, .ref g8, .ref g9, .ref h4, .ref h6, .ref g10, .ref g11, .ref g12, .ref g13, .ref g14, .int 0]), (h2, oC 3 [.ref h3, .int 1]), (h3, aI Y 6 (upd (fun _ => 0) 0 (-1))), (h4, oC 7 [.ref h5, .int 0]), (h5, aJ Y 6 (fun _ => 0)), (h6, oC 3 [.ref g15, .int 0]), (h7, oC 11 [.ref h1, .ref g16, .ref g17, .ref h8, .ref g18]), (h8, oC 7 [.ref h9, .int 0]), (h9, aJ Y 86 (fun _ => 0))]) (va_A [(h0, oC 12 [.ref h1, .ref g0, .ref g1, .ref g2, .ref h7, .ref g3, .ref g4, .ref g5, .ref g6, .long 0]), (h1, oC 2 [.ref h2, .ref g7, .ref g8, .ref g9, .ref h4, .ref h6, .ref g10, .ref g11, .ref g12, .ref g13, .ref g14, .int 0]), (h2, oC 3 [.ref h3, .int 1]), (h3, aI Y 6 (upd (fun _ => 0) 0 (-1))), (h4, oC 7 [.ref h5, .int 0]), (h5, aJ Y 6 (fun _ => 0)), (h6, oC 3 [.ref g15, .int 0]), (h7, oC 11 [.ref h1, .ref g16, .ref g17, .ref h8, .ref g18]), (h8, oC 7 [.ref h9, .int 0]), (h9, aJ Y 86 (fun _ => 0))] sz)) 1 6 (va_A [(h0, oC 12 [.ref h1, .ref g0, .ref g1, .ref g2, .ref h7, .ref g3, .ref g4, .ref g5, .ref g6, .long 0]), (h1, oC 2 [.ref h2, .ref g7, .ref g8, .ref g9, .ref h4, .ref h6, .ref g10, .ref g11, .ref g12, .ref g13, .ref g14, .int 0]), (h2, oC 3 [.ref h3, .int 1]), (h3, aI Y 6 (upd (fun _ => 0) 0 (-1))), (h4, oC 7 [.ref h5, .int 0]), (h5, aJ Y 6 (fun _ => 0)), (h6, oC 3 [.ref g15, .int 0]), (h7, oC 11 [.ref h1, .ref g16, .ref g17, .ref h8, .ref g18]), (h8, oC 7 [.ref h9, .int 0]), (h9, aJ Y 86 (fun _ => 0))] sz) :=
  xmet_of (by decide +kernel) (Nat.le_of_ble_eq_true rfl) (fun p e s m args below meth c B EB hout hsz => by
    have B : VB p s m args meth c D Y (va_A [(h0, oC 12 [.ref h1, .ref g0, .ref g1, .ref g2, .ref h7, .ref g3, .ref g4, .ref g5, .ref g6, .long 0]), (h1, oC 2 [.ref h2, .ref g7, .ref g8, .ref g9, .ref h4, .ref h6, .ref g10, .ref g11, .ref g12, .ref g13, .ref g14, .int 0]), (h2, oC 3 [.ref h3, .int 1]), (h3, aI Y 6 (upd (fun _ => 0) 0 (-1))), (h4, oC 7 [.ref h5, .int 0]), (h5, aJ Y 6 (fun _ => 0)), (h6, oC 3 [.ref g15, .int 0]), (h7, oC 11 [.ref h1, .ref g16, .ref g17, .ref h8, .ref g18]), (h8, oC 7 [.ref h9, .int 0]), (h9, aJ Y 86 (fun _ => 0))] sz) cX11_freeStrokes 2 RX11 (some .int) := B
    refine V_aload_n 0 B dX11_freeStrokes_0 0 rfl ?_
    refine V_iload_n 1 B dX11_freeStrokes_1 1 rfl ?_
    refine V_xvv 2 B EB (st := []) (As := [.int p0]) (fun sz => mX11_needMode_1 l hl9 D Y (h0) (h1) (g0) (g1) (g2) (h7) (g3) (g4) (g5) (g6) (h2) (g7) (g8) (g9) (h4) (h6) (g10) (g11) (g12) (g13) (g14) (h3) (p0) sz) glV_RX11_180 ⟨rfl, rfl⟩ ⟨(Nat.le_of_ble_eq_true rfl), (Nat.le_of_ble_eq_true rfl)⟩ ⟨(Nat.le_of_ble_eq_true rfl), (Nat.le_of_ble_eq_true rfl)⟩ [0, 0, 0] rfl 12 0 rfl rfl rfl rfl (Nat.le_of_ble_eq_true rfl) rfl (fun _ _ => rfl) (fun _ _ _ => rfl) dX11_freeStrokes_2 (fun E u0 w0 => ?_) (fun u0 w0 => ?_)
    ·
      rcases w0 with ⟨rfl, k1⟩ | ⟨rfl, k2, k3⟩
      ·
        exact VX_out 2 B hout () (Or.inl ⟨rfl, k1⟩) rfl (Nat.le_of_ble_eq_true rfl) (Nat.le_of_ble_eq_true rfl)
      ·
        exact VX_out 2 B hout () (Or.inr ⟨rfl, k2, k3⟩) rfl (Nat.le_of_ble_eq_true rfl) (Nat.le_of_ble_eq_true rfl)
    ·
      have k4 := w0
      refine V_ws [(h0, oC 12 [.ref h1, .ref g0, .ref g1, .ref g2, .ref h7, .ref g3, .ref g4, .ref g5, .ref g6, .long 0]), (h1, oC 2 [.ref h2, .ref g7, .ref g8, .ref g9, .ref h4, .ref h6, .ref g10, .ref g11, .ref g12, .ref g13, .ref g14, .int 0]), (h2, oC 3 [.ref h3, .int 1]), (h3, aI Y 6 (upd (fun _ => 0) 0 (-1))), (h4, oC 7 [.ref h5, .int 0]), (h5, aJ Y 6 (fun _ => 0)), (h6, oC 3 [.ref g15, .int 0]), (h7, oC 11 [.ref h1, .ref g16, .ref g17, .ref h8, .ref g18]), (h8, oC 7 [.ref h9, .int 0]), (h9, aJ Y 86 (fun _ => 0))] rfl ?_
      obtain rfl : p0 = 0 := k4
      refine V_aload_n 5 B dX11_freeStrokes_5 0 rfl ?_
      refine V_get 6 B gf_RX11_30 0 rfl rfl dX11_freeStrokes_6 ?_
      refine V_iload_n 9 B dX11_freeStrokes_9 1 rfl ?_
      refine V_iconst 10 B (v := 1) dX11_freeStrokes_10 (by decide +kernel) ?_
      refine V_cvv 11 B (st := []) (As := [.int 0, .int 1]) (fun sz => mX10_barFor_1 l D Y (h7) (h1) (h2) (g7) (g8) (g9) (h4) (h6) (g10) (g11) (g12) (g13) (g14) (h3) (h5) (g15) (g16) (g17) (h8) (g18) (h9) sz) glV_RX11_301 ⟨rfl, rfl⟩ ⟨(Nat.le_of_ble_eq_true rfl), (Nat.le_of_ble_eq_true rfl)⟩ ⟨(Nat.le_of_ble_eq_true rfl), (Nat.le_of_ble_eq_true rfl)⟩ [1, 0, 0, 0, 0, 0, 0, 0, 0] rfl 11 6 rfl rfl rfl rfl (Nat.le_of_ble_eq_true rfl) rfl (fun _ _ => rfl) dX11_freeStrokes_11 (fun u5 w5 => ?_)
      refine V_ws [(h0, oC 12 [.ref h1, .ref g0, .ref g1, .ref g2, .ref h7, .ref g3, .ref g4, .ref g5, .ref g6, .long 0]), (h1, oC 2 [.ref h2, .ref g7, .ref g8, .ref g9, .ref h4, .ref h6, .ref g10, .ref g11, .ref g12, .ref g13, .ref g14, .int 0]), (h2, oC 3 [.ref h3, .int 1]), (h3, aI Y 6 (upd (fun _ => 0) 0 (-1))), (h4, oC 7 [.ref h5, .int 0]), (h5, aJ Y 6 (fun _ => 0)), (h6, oC 3 [.ref g15, .int 0]), (h7, oC 11 [.ref h1, .ref g16, .ref g17, .ref h8, .ref g18]), (h8, oC 7 [.ref h9, .int 0]), (h9, aJ Y 86 (fun _ => 0))] rfl ?_
      refine V_aload_n 14 B dX11_freeStrokes_14 0 rfl ?_
      refine V_get 15 B gf_RX11_30 0 rfl rfl dX11_freeStrokes_15 ?_
      refine V_cvi 18 B (st := []) (As := []) (fun sz => mX10_countFreeStrokes_1 l D Y (h7) (h1) (g16) (g17) (h8) (g18) (h9) sz) glV_RX11_305 ⟨rfl, rfl⟩ ⟨(Nat.le_of_ble_eq_true rfl), (Nat.le_of_ble_eq_true rfl)⟩ ⟨(Nat.le_of_ble_eq_true rfl), (Nat.le_of_ble_eq_true rfl)⟩ [7, 0] rfl 11 0 rfl rfl rfl rfl (Nat.le_of_ble_eq_true rfl) rfl (fun _ _ _ => rfl) dX11_freeStrokes_18 (fun r6 u6 w6 => ?_)
      obtain rfl := w6
      refine V_ws [(h0, oC 12 [.ref h1, .ref g0, .ref g1, .ref g2, .ref h7, .ref g3, .ref g4, .ref g5, .ref g6, .long 0]), (h1, oC 2 [.ref h2, .ref g7, .ref g8, .ref g9, .ref h4, .ref h6, .ref g10, .ref g11, .ref g12, .ref g13, .ref g14, .int 0]), (h2, oC 3 [.ref h3, .int 1]), (h3, aI Y 6 (upd (fun _ => 0) 0 (-1))), (h4, oC 7 [.ref h5, .int 0]), (h5, aJ Y 6 (fun _ => 0)), (h6, oC 3 [.ref g15, .int 0]), (h7, oC 11 [.ref h1, .ref g16, .ref g17, .ref h8, .ref g18]), (h8, oC 7 [.ref h9, .int 0]), (h9, aJ Y 86 (fun _ => 0))] rfl ?_
      refine V_xret ?_
      exact V_iret 21 B dX11_freeStrokes_21 () ⟨rfl, rfl⟩ rfl)
theorem dX12_simpleStroke_0 : decode cX12_simpleStroke 0 = .ok (.iload_n 0, 1) := by decide +kernel
theorem dX12_simpleStroke_1 : decode cX12_simpleStroke 1 = .ok (.bipush 26, 2) := by decide +kernel
theorem dX12_simpleStroke_3 : decode cX12_simpleStroke 3 = .ok (.idiv, 1) := by decide +kernel
theorem dX12_simpleStroke_4 : decode cX12_simpleStroke 4 = .ok (.istore_n 1, 1) := by decide +kernel
theorem dX12_simpleStroke_5 : decode cX12_simpleStroke 5 = .ok (.bipush 32, 2) := by decide +kernel
theorem dX12_simpleStroke_7 : decode cX12_simpleStroke 7 = .ok (.iload_n 1, 1) := by decide +kernel
theorem dX12_simpleStroke_8 : decode cX12_simpleStroke 8 = .ok (.ifCond .ne 7, 3) := by decide +kernel
theorem dX12_simpleStroke_15 : decode cX12_simpleStroke 15 = .ok (.iconst 1, 1) := by decide +kernel
theorem dX12_simpleStroke_16 : decode cX12_simpleStroke 16 = .ok (.iload_n 1, 1) := by decide +kernel
theorem dX12_simpleStroke_17 : decode cX12_simpleStroke 17 = .ok (.iconst 1, 1) := by decide +kernel
theorem dX12_simpleStroke_18 : decode cX12_simpleStroke 18 = .ok (.isub, 1) := by decide +kernel
theorem dX12_simpleStroke_19 : decode cX12_simpleStroke 19 = .ok (.ishl, 1) := by decide +kernel
theorem dX12_simpleStroke_20 : decode cX12_simpleStroke 20 = .ok (.imul, 1) := by decide +kernel
theorem dX12_simpleStroke_21 : decode cX12_simpleStroke 21 = .ok (.iload_n 0, 1) := by decide +kernel
theorem dX12_simpleStroke_22 : decode cX12_simpleStroke 22 = .ok (.bipush 26, 2) := by decide +kernel
theorem dX12_simpleStroke_24 : decode cX12_simpleStroke 24 = .ok (.irem, 1) := by decide +kernel
theorem dX12_simpleStroke_25 : decode cX12_simpleStroke 25 = .ok (.iadd, 1) := by decide +kernel
theorem dX12_simpleStroke_26 : decode cX12_simpleStroke 26 = .ok (.ireturn, 1) := by decide +kernel
theorem dX12_simpleStroke_11 : decode cX12_simpleStroke 11 = .ok (.iconst 0, 1) := by decide +kernel
theorem dX12_simpleStroke_12 : decode cX12_simpleStroke 12 = .ok (.goto 8, 3) := by decide +kernel
set_option maxRecDepth 100000 in
set_option maxHeartbeats 4000000 in
theorem mX12_simpleStroke_1 (l : Launch) (D : va_G) (Y : Nat → ClassId) (p0 : Int32) (sz : Nat) : Met l yX12_simpleStroke (WSm yX12_simpleStroke cX12_simpleStroke 2 (some .int)) (mkR 0 0 0 0) (PreC D Y [.int p0] [] sz) (QI D (fun (r : Int32) (u : Unit) => (¬ (p0 / 26) = 0 ∧ ((32 * ((1 : Int32) <<< (((p0 / 26) - 1) &&& 31))) + (p0 - p0 / 26 * 26)) = r) ∨ ((p0 / 26) = 0 ∧ (p0 - p0 / 26 * 26) = r)) (fun (_ : Unit) => []) (va_A [] sz)) 0 0 (va_A [] sz) :=
  met_of (by decide +kernel) (Nat.le_of_ble_eq_true rfl) (fun p e s m args below meth c B hin hsz => by
    have B : VB p s m args meth c D Y (va_A [] sz) cX12_simpleStroke 2 RX12 (some .int) := B
    refine V_iload_n 0 B dX12_simpleStroke_0 0 rfl ?_
    refine V_bipush 1 B (v := 26) dX12_simpleStroke_1 (by decide +kernel) ?_
    refine V_idiv 3 B dX12_simpleStroke_3 (by decide +kernel) rfl ?_
    refine V_istore_n 4 B (lv2 := [(1, .int (p0 / 26)), (0, .int p0)]) dX12_simpleStroke_4 (by decide) rfl ?_
    refine V_bipush 5 B (v := 32) dX12_simpleStroke_5 (by decide +kernel) ?_
    refine V_iload_n 7 B dX12_simpleStroke_7 0 rfl ?_
    refine V_if_ne 8 B 15 dX12_simpleStroke_8 (by decide) (fun k0 => ?_) (fun k0 => ?_)
    ·
      refine V_iconst 15 B (v := 1) dX12_simpleStroke_15 (by decide +kernel) ?_
      refine V_iload_n 16 B dX12_simpleStroke_16 0 rfl ?_
      refine V_iconst 17 B (v := 1) dX12_simpleStroke_17 (by decide +kernel) ?_
      refine V_isub 18 B dX12_simpleStroke_18 rfl ?_
      refine V_ishl 19 B dX12_simpleStroke_19 rfl ?_
      refine V_imul 20 B dX12_simpleStroke_20 rfl ?_
      refine V_iload_n 21 B dX12_simpleStroke_21 1 rfl ?_
      refine V_bipush 22 B (v := 26) dX12_simpleStroke_22 (by decide +kernel) ?_
      refine V_irem 24 B dX12_simpleStroke_24 (by decide +kernel) rfl ?_
      refine V_iadd 25 B dX12_simpleStroke_25 rfl ?_
      exact V_iret 26 B dX12_simpleStroke_26 () (Or.inl ⟨k0, rfl⟩) rfl
    ·
      refine V_iconst 11 B (v := 0) dX12_simpleStroke_11 (by decide +kernel) ?_
      refine V_goto 12 B 20 dX12_simpleStroke_12 (by decide) ?_
      refine V_imul 20 B (v := 0) dX12_simpleStroke_20 (by decide +kernel) ?_
      refine V_iload_n 21 B dX12_simpleStroke_21 1 rfl ?_
      refine V_bipush 22 B (v := 26) dX12_simpleStroke_22 (by decide +kernel) ?_
      refine V_irem 24 B dX12_simpleStroke_24 (by decide +kernel) rfl ?_
      refine V_iadd 25 B dX12_simpleStroke_25 (Int32.zero_add _) ?_
      exact V_iret 26 B dX12_simpleStroke_26 () (Or.inr ⟨k0, rfl⟩) rfl)
theorem dX12_clashesReserved_0 : decode cX12_clashesReserved 0 = .ok (.iconst 0, 1) := by decide +kernel
theorem dX12_clashesReserved_1 : decode cX12_clashesReserved 1 = .ok (.istore_n 2, 1) := by decide +kernel
theorem dX12_clashesReserved_2 : decode cX12_clashesReserved 2 = .ok (.iconst 0, 1) := by decide +kernel
theorem dX12_clashesReserved_3 : decode cX12_clashesReserved 3 = .ok (.istore_n 3, 1) := by decide +kernel
theorem dX12_clashesReserved_4 : decode cX12_clashesReserved 4 = .ok (.iload_n 3, 1) := by decide +kernel
theorem dX12_clashesReserved_5 : decode cX12_clashesReserved 5 = .ok (.aload_n 0, 1) := by decide +kernel
theorem dX12_clashesReserved_6 : decode cX12_clashesReserved 6 = .ok (.getfield 9, 3) := by decide +kernel
theorem dX12_clashesReserved_9 : decode cX12_clashesReserved 9 = .ok (.iconst 2, 1) := by decide +kernel
theorem dX12_clashesReserved_10 : decode cX12_clashesReserved 10 = .ok (.iaload, 1) := by decide +kernel
theorem dX12_clashesReserved_11 : decode cX12_clashesReserved 11 = .ok (.if_icmp .ge 21, 3) := by decide +kernel
theorem dX12_clashesReserved_32 : decode cX12_clashesReserved 32 = .ok (.iload_n 2, 1) := by decide +kernel
theorem dX12_clashesReserved_33 : decode cX12_clashesReserved 33 = .ok (.ireturn, 1) := by decide +kernel
set_option maxRecDepth 100000 in
set_option maxHeartbeats 4000000 in
theorem mX12_clashesReserved_1 (l : Launch) (D : va_G) (Y : Nat → ClassId) (h0 : Nat) (h1 : Nat) (g0 : Nat) (g1 : Nat) (g2 : Nat) (g3 : Nat) (g4 : Nat) (p0 : Int32) (p1 : Int32) (sz : Nat) : Met l yX12_clashesReserved (WSm yX12_clashesReserved cX12_clashesReserved 4 (some .boolean)) (mkR 0 0 0 0) (PreC D Y [.ref h0, .int 3629] [(h0, oC 13 [.ref h1, .ref g0, .int 0, .ref g1, .ref g2, .int 0, .int 0, .int 0, .int (-1), .int 0, .int 0, .int 0, .long 0, .ref g3, .ref g4, .int 0, .int 0]), (h1, aI Y 3640 (upd (upd (upd (clB 0 (fun _ => 0)) 3629 1) 3630 p1) 3630 p0))] sz) (QI D (fun (r : Int32) (u : Unit) => 0 = r) (fun (_ : Unit) => [(h0, oC 13 [.ref h1, .ref g0, .int 0, .ref g1, .ref g2, .int 0, .int 0, .int 0, .int (-1), .int 0, .int 0, .int 0, .long 0, .ref g3, .ref g4, .int 0, .int 0]), (h1, aI Y 3640 (upd (upd (upd (clB 0 (fun _ => 0)) 3629 1) 3630 p1) 3630 p0))]) (va_A [(h0, oC 13 [.ref h1, .ref g0, .int 0, .ref g1, .ref g2, .int 0, .int 0, .int 0, .int (-1), .int 0, .int 0, .int 0, .long 0, .ref g3, .ref g4, .int 0, .int 0]), (h1, aI Y 3640 (upd (upd (upd (clB 0 (fun _ => 0)) 3629 1) 3630 p1) 3630 p0))] sz)) 0 0 (va_A [(h0, oC 13 [.ref h1, .ref g0, .int 0, .ref g1, .ref g2, .int 0, .int 0, .int 0, .int (-1), .int 0, .int 0, .int 0, .long 0, .ref g3, .ref g4, .int 0, .int 0]), (h1, aI Y 3640 (upd (upd (upd (clB 0 (fun _ => 0)) 3629 1) 3630 p1) 3630 p0))] sz) :=
  met_of (by decide +kernel) (Nat.le_of_ble_eq_true rfl) (fun p e s m args below meth c B hin hsz => by
    have B : VB p s m args meth c D Y (va_A [(h0, oC 13 [.ref h1, .ref g0, .int 0, .ref g1, .ref g2, .int 0, .int 0, .int 0, .int (-1), .int 0, .int 0, .int 0, .long 0, .ref g3, .ref g4, .int 0, .int 0]), (h1, aI Y 3640 (upd (upd (upd (clB 0 (fun _ => 0)) 3629 1) 3630 p1) 3630 p0))] sz) cX12_clashesReserved 4 RX12 (some .boolean) := B
    refine V_iconst 0 B (v := 0) dX12_clashesReserved_0 (by decide +kernel) ?_
    refine V_istore_n 1 B (lv2 := [(2, .int 0), (0, .ref h0), (1, .int 3629)]) dX12_clashesReserved_1 (by decide) rfl ?_
    refine V_iconst 2 B (v := 0) dX12_clashesReserved_2 (by decide +kernel) ?_
    refine V_istore_n 3 B (lv2 := [(3, .int 0), (2, .int 0), (0, .ref h0), (1, .int 3629)]) dX12_clashesReserved_3 (by decide) rfl ?_
    refine V_iload_n 4 B dX12_clashesReserved_4 0 rfl ?_
    refine V_aload_n 5 B dX12_clashesReserved_5 2 rfl ?_
    refine V_get 6 B gf_RX12_9 0 rfl rfl dX12_clashesReserved_6 ?_
    refine V_iconst 9 B (v := 2) dX12_clashesReserved_9 (by decide +kernel) ?_
    refine V_iald 10 B (v := 0) 1 rfl (vpin _ _ (by decide +kernel)) dX12_clashesReserved_10 rfl ?_
    refine V_icmp_ge_t 11 B 32 dX12_clashesReserved_11 (by decide) (by decide +kernel) ?_
    refine V_iload_n 32 B dX12_clashesReserved_32 1 rfl ?_
    exact V_zret 33 B rfl dX12_clashesReserved_33 () rfl rfl)
theorem dX12_clashIn_0 : decode cX12_clashIn 0 = .ok (.iconst 0, 1) := by decide +kernel
theorem dX12_clashIn_1 : decode cX12_clashIn 1 = .ok (.istore 4, 2) := by decide +kernel
theorem dX12_clashIn_3 : decode cX12_clashIn 3 = .ok (.iload 4, 2) := by decide +kernel
theorem dX12_clashIn_5 : decode cX12_clashIn 5 = .ok (.aload_n 0, 1) := by decide +kernel
theorem dX12_clashIn_6 : decode cX12_clashIn 6 = .ok (.getfield 9, 3) := by decide +kernel
theorem dX12_clashIn_9 : decode cX12_clashIn 9 = .ok (.iconst 3, 1) := by decide +kernel
theorem dX12_clashIn_10 : decode cX12_clashIn 10 = .ok (.iaload, 1) := by decide +kernel
theorem dX12_clashIn_11 : decode cX12_clashIn 11 = .ok (.if_icmp .ge 46, 3) := by decide +kernel
theorem dX12_clashIn_57 : decode cX12_clashIn 57 = .ok (.iconst (-1), 1) := by decide +kernel
theorem dX12_clashIn_58 : decode cX12_clashIn 58 = .ok (.ireturn, 1) := by decide +kernel
set_option maxRecDepth 100000 in
set_option maxHeartbeats 4000000 in
theorem mX12_clashIn_1 (l : Launch) (D : va_G) (Y : Nat → ClassId) (h0 : Nat) (h1 : Nat) (g0 : Nat) (g1 : Nat) (g2 : Nat) (g3 : Nat) (g4 : Nat) (p0 : Int32) (p1 : Int32) (sz : Nat) : Met l yX12_clashIn (WSm yX12_clashIn cX12_clashIn 5 (some .int)) (mkR 0 0 0 0) (PreC D Y [.ref h0, .int 0, .int 3629, .int (-1)] [(h0, oC 13 [.ref h1, .ref g0, .int 0, .ref g1, .ref g2, .int 0, .int 0, .int 0, .int (-1), .int 0, .int 0, .int 0, .long 0, .ref g3, .ref g4, .int 0, .int 0]), (h1, aI Y 3640 (upd (upd (upd (clB 0 (fun _ => 0)) 3629 1) 3630 p1) 3630 p0))] sz) (QI D (fun (r : Int32) (u : Unit) => (-1) = r) (fun (_ : Unit) => [(h0, oC 13 [.ref h1, .ref g0, .int 0, .ref g1, .ref g2, .int 0, .int 0, .int 0, .int (-1), .int 0, .int 0, .int 0, .long 0, .ref g3, .ref g4, .int 0, .int 0]), (h1, aI Y 3640 (upd (upd (upd (clB 0 (fun _ => 0)) 3629 1) 3630 p1) 3630 p0))]) (va_A [(h0, oC 13 [.ref h1, .ref g0, .int 0, .ref g1, .ref g2, .int 0, .int 0, .int 0, .int (-1), .int 0, .int 0, .int 0, .long 0, .ref g3, .ref g4, .int 0, .int 0]), (h1, aI Y 3640 (upd (upd (upd (clB 0 (fun _ => 0)) 3629 1) 3630 p1) 3630 p0))] sz)) 0 0 (va_A [(h0, oC 13 [.ref h1, .ref g0, .int 0, .ref g1, .ref g2, .int 0, .int 0, .int 0, .int (-1), .int 0, .int 0, .int 0, .long 0, .ref g3, .ref g4, .int 0, .int 0]), (h1, aI Y 3640 (upd (upd (upd (clB 0 (fun _ => 0)) 3629 1) 3630 p1) 3630 p0))] sz) :=
  met_of (by decide +kernel) (Nat.le_of_ble_eq_true rfl) (fun p e s m args below meth c B hin hsz => by
    have B : VB p s m args meth c D Y (va_A [(h0, oC 13 [.ref h1, .ref g0, .int 0, .ref g1, .ref g2, .int 0, .int 0, .int 0, .int (-1), .int 0, .int 0, .int 0, .long 0, .ref g3, .ref g4, .int 0, .int 0]), (h1, aI Y 3640 (upd (upd (upd (clB 0 (fun _ => 0)) 3629 1) 3630 p1) 3630 p0))] sz) cX12_clashIn 5 RX12 (some .int) := B
    refine V_iconst 0 B (v := 0) dX12_clashIn_0 (by decide +kernel) ?_
    refine V_istore 1 B (lv2 := [(4, .int 0), (0, .ref h0), (1, .int 0), (2, .int 3629), (3, .int (-1))]) dX12_clashIn_1 (by decide) rfl ?_
    refine V_iload 3 B dX12_clashIn_3 0 rfl ?_
    refine V_aload_n 5 B dX12_clashIn_5 1 rfl ?_
    refine V_get 6 B gf_RX12_9 0 rfl rfl dX12_clashIn_6 ?_
    refine V_iconst 9 B (v := 3) dX12_clashIn_9 (by decide +kernel) ?_
    refine V_iald 10 B (v := 0) 1 rfl (vpin _ _ (by decide +kernel)) dX12_clashIn_10 rfl ?_
    refine V_icmp_ge_t 11 B 57 dX12_clashIn_11 (by decide) (by decide +kernel) ?_
    refine V_iconst 57 B (v := (-1)) dX12_clashIn_57 (by decide +kernel) ?_
    exact V_iret 58 B dX12_clashIn_58 () rfl rfl)
theorem dX12_canBind_0 : decode cX12_canBind 0 = .ok (.aload_n 0, 1) := by decide +kernel
theorem dX12_canBind_1 : decode cX12_canBind 1 = .ok (.iload_n 2, 1) := by decide +kernel
theorem dX12_canBind_2 : decode cX12_canBind 2 = .ok (.invokevirtual 118, 3) := by decide +kernel
theorem glV_RX12_118 : GLV RX12 118 yX12_clashesReserved RX12 cX12_clashesReserved 4 (some .boolean) 1 := ⟨⟨(mT8 112 rfl rfl), (mT8 114 rfl rfl), (mTs 46 rfl rfl), (mT1 13 rfl rfl), (mT8 115 rfl rfl)⟩, by decide +kernel⟩
theorem dX12_canBind_5 : decode cX12_canBind 5 = .ok (.ifCond .ne 18, 3) := by decide +kernel
theorem dX12_canBind_8 : decode cX12_canBind 8 = .ok (.aload_n 0, 1) := by decide +kernel
theorem dX12_canBind_9 : decode cX12_canBind 9 = .ok (.iload_n 1, 1) := by decide +kernel
theorem dX12_canBind_10 : decode cX12_canBind 10 = .ok (.iload_n 2, 1) := by decide +kernel
theorem dX12_canBind_11 : decode cX12_canBind 11 = .ok (.iconst (-1), 1) := by decide +kernel
theorem dX12_canBind_12 : decode cX12_canBind 12 = .ok (.invokevirtual 121, 3) := by decide +kernel
theorem glV_RX12_121 : GLV RX12 121 yX12_clashIn RX12 cX12_clashIn 5 (some .int) 3 := ⟨⟨(mT8 74 rfl rfl), (mT8 76 rfl rfl), (mTs 40 rfl rfl), (mT1 13 rfl rfl), (mT8 77 rfl rfl)⟩, by decide +kernel⟩
theorem dX12_canBind_15 : decode cX12_canBind 15 = .ok (.iconst (-1), 1) := by decide +kernel
theorem dX12_canBind_16 : decode cX12_canBind 16 = .ok (.if_icmp .ne 7, 3) := by decide +kernel
theorem dX12_canBind_19 : decode cX12_canBind 19 = .ok (.iconst 1, 1) := by decide +kernel
theorem dX12_canBind_20 : decode cX12_canBind 20 = .ok (.goto 4, 3) := by decide +kernel
theorem dX12_canBind_24 : decode cX12_canBind 24 = .ok (.ireturn, 1) := by decide +kernel
set_option maxRecDepth 100000 in
set_option maxHeartbeats 4000000 in
theorem mX12_canBind_1 (l : Launch) (D : va_G) (Y : Nat → ClassId) (h0 : Nat) (h1 : Nat) (g0 : Nat) (g1 : Nat) (g2 : Nat) (g3 : Nat) (g4 : Nat) (p0 : Int32) (p1 : Int32) (sz : Nat) : Met l yX12_canBind (WSm yX12_canBind cX12_canBind 3 (some .boolean)) (mkR 1 0 0 24) (PreC D Y [.ref h0, .int 0, .int 3629] [(h0, oC 13 [.ref h1, .ref g0, .int 0, .ref g1, .ref g2, .int 0, .int 0, .int 0, .int (-1), .int 0, .int 0, .int 0, .long 0, .ref g3, .ref g4, .int 0, .int 0]), (h1, aI Y 3640 (upd (upd (upd (clB 0 (fun _ => 0)) 3629 1) 3630 p1) 3630 p0))] sz) (QI D (fun (r : Int32) (u : Unit) => 1 = r) (fun (_ : Unit) => [(h0, oC 13 [.ref h1, .ref g0, .int 0, .ref g1, .ref g2, .int 0, .int 0, .int 0, .int (-1), .int 0, .int 0, .int 0, .long 0, .ref g3, .ref g4, .int 0, .int 0]), (h1, aI Y 3640 (upd (upd (upd (clB 0 (fun _ => 0)) 3629 1) 3630 p1) 3630 p0))]) (va_A [(h0, oC 13 [.ref h1, .ref g0, .int 0, .ref g1, .ref g2, .int 0, .int 0, .int 0, .int (-1), .int 0, .int 0, .int 0, .long 0, .ref g3, .ref g4, .int 0, .int 0]), (h1, aI Y 3640 (upd (upd (upd (clB 0 (fun _ => 0)) 3629 1) 3630 p1) 3630 p0))] sz)) 0 0 (va_A [(h0, oC 13 [.ref h1, .ref g0, .int 0, .ref g1, .ref g2, .int 0, .int 0, .int 0, .int (-1), .int 0, .int 0, .int 0, .long 0, .ref g3, .ref g4, .int 0, .int 0]), (h1, aI Y 3640 (upd (upd (upd (clB 0 (fun _ => 0)) 3629 1) 3630 p1) 3630 p0))] sz) :=
  met_of (by decide +kernel) (Nat.le_of_ble_eq_true rfl) (fun p e s m args below meth c B hin hsz => by
    have B : VB p s m args meth c D Y (va_A [(h0, oC 13 [.ref h1, .ref g0, .int 0, .ref g1, .ref g2, .int 0, .int 0, .int 0, .int (-1), .int 0, .int 0, .int 0, .long 0, .ref g3, .ref g4, .int 0, .int 0]), (h1, aI Y 3640 (upd (upd (upd (clB 0 (fun _ => 0)) 3629 1) 3630 p1) 3630 p0))] sz) cX12_canBind 3 RX12 (some .boolean) := B
    refine V_aload_n 0 B dX12_canBind_0 0 rfl ?_
    refine V_iload_n 1 B dX12_canBind_1 2 rfl ?_
    refine V_cvi 2 B (st := []) (As := [.int 3629]) (fun sz => mX12_clashesReserved_1 l D Y (h0) (h1) (g0) (g1) (g2) (g3) (g4) (p0) (p1) sz) glV_RX12_118 ⟨rfl, rfl⟩ ⟨(Nat.le_of_ble_eq_true rfl), (Nat.le_of_ble_eq_true rfl)⟩ ⟨(Nat.le_of_ble_eq_true rfl), (Nat.le_of_ble_eq_true rfl)⟩ [0, 0] rfl 13 0 rfl rfl rfl rfl (Nat.le_of_ble_eq_true rfl) rfl (fun _ _ _ => rfl) dX12_canBind_2 (fun r0 u0 w0 => ?_)
    obtain rfl := w0
    refine V_ws [(h0, oC 13 [.ref h1, .ref g0, .int 0, .ref g1, .ref g2, .int 0, .int 0, .int 0, .int (-1), .int 0, .int 0, .int 0, .long 0, .ref g3, .ref g4, .int 0, .int 0]), (h1, aI Y 3640 (upd (upd (upd (clB 0 (fun _ => 0)) 3629 1) 3630 p1) 3630 p0))] rfl ?_
    refine V_if_ne_f 5 B 23 dX12_canBind_5 (by decide) (by decide +kernel) ?_
    refine V_aload_n 8 B dX12_canBind_8 0 rfl ?_
    refine V_iload_n 9 B dX12_canBind_9 1 rfl ?_
    refine V_iload_n 10 B dX12_canBind_10 2 rfl ?_
    refine V_iconst 11 B (v := (-1)) dX12_canBind_11 (by decide +kernel) ?_
    refine V_cvi 12 B (st := []) (As := [.int 0, .int 3629, .int (-1)]) (fun sz => mX12_clashIn_1 l D Y (h0) (h1) (g0) (g1) (g2) (g3) (g4) (p0) (p1) sz) glV_RX12_121 ⟨rfl, rfl⟩ ⟨(Nat.le_of_ble_eq_true rfl), (Nat.le_of_ble_eq_true rfl)⟩ ⟨(Nat.le_of_ble_eq_true rfl), (Nat.le_of_ble_eq_true rfl)⟩ [0, 0] rfl 13 0 rfl rfl rfl rfl (Nat.le_of_ble_eq_true rfl) rfl (fun _ _ _ => rfl) dX12_canBind_12 (fun r1 u1 w1 => ?_)
    obtain rfl := w1
    refine V_ws [(h0, oC 13 [.ref h1, .ref g0, .int 0, .ref g1, .ref g2, .int 0, .int 0, .int 0, .int (-1), .int 0, .int 0, .int 0, .long 0, .ref g3, .ref g4, .int 0, .int 0]), (h1, aI Y 3640 (upd (upd (upd (clB 0 (fun _ => 0)) 3629 1) 3630 p1) 3630 p0))] rfl ?_
    refine V_iconst 15 B (v := (-1)) dX12_canBind_15 (by decide +kernel) ?_
    refine V_icmp_ne_f 16 B 23 dX12_canBind_16 (by decide) (by decide +kernel) ?_
    refine V_iconst 19 B (v := 1) dX12_canBind_19 (by decide +kernel) ?_
    refine V_goto 20 B 24 dX12_canBind_20 (by decide) ?_
    exact V_zret 24 B rfl dX12_canBind_24 () rfl rfl)
theorem dX12_freeStrokes_0 : decode cX12_freeStrokes 0 = .ok (.aload_n 0, 1) := by decide +kernel
theorem dX12_freeStrokes_1 : decode cX12_freeStrokes 1 = .ok (.iconst 0, 1) := by decide +kernel
theorem dX12_freeStrokes_2 : decode cX12_freeStrokes 2 = .ok (.putfield 38, 3) := by decide +kernel
theorem dX12_freeStrokes_5 : decode cX12_freeStrokes 5 = .ok (.aload_n 0, 1) := by decide +kernel
theorem dX12_freeStrokes_6 : decode cX12_freeStrokes 6 = .ok (.aload_n 0, 1) := by decide +kernel
theorem dX12_freeStrokes_7 : decode cX12_freeStrokes 7 = .ok (.iload_n 1, 1) := by decide +kernel
theorem dX12_freeStrokes_8 : decode cX12_freeStrokes 8 = .ok (.invokevirtual 91, 3) := by decide +kernel
theorem dX12_freeStrokes_11 : decode cX12_freeStrokes 11 = .ok (.ifCond .ne 7, 3) := by decide +kernel
theorem dX12_freeStrokes_18 : decode cX12_freeStrokes 18 = .ok (.iconst 0, 1) := by decide +kernel
theorem dX12_freeStrokes_19 : decode cX12_freeStrokes 19 = .ok (.iconst 1, 1) := by decide +kernel
theorem dX12_freeStrokes_20 : decode cX12_freeStrokes 20 = .ok (.invokevirtual 69, 3) := by decide +kernel
theorem dX12_freeStrokes_23 : decode cX12_freeStrokes 23 = .ok (.ifCond .eq 5, 3) := by decide +kernel
theorem dX12_freeStrokes_28 : decode cX12_freeStrokes 28 = .ok (.iconst 0, 1) := by decide +kernel
theorem dX12_freeStrokes_29 : decode cX12_freeStrokes 29 = .ok (.istore_n 2, 1) := by decide +kernel
theorem dX12_freeStrokes_30 : decode cX12_freeStrokes 30 = .ok (.aload_n 0, 1) := by decide +kernel
theorem dX12_freeStrokes_31 : decode cX12_freeStrokes 31 = .ok (.getfield 9, 3) := by decide +kernel
theorem dX12_freeStrokes_34 : decode cX12_freeStrokes 34 = .ok (.sipush 3629, 3) := by decide +kernel
theorem dX12_freeStrokes_37 : decode cX12_freeStrokes 37 = .ok (.iconst 1, 1) := by decide +kernel
theorem dX12_freeStrokes_38 : decode cX12_freeStrokes 38 = .ok (.iastore, 1) := by decide +kernel
theorem dX12_freeStrokes_39 : decode cX12_freeStrokes 39 = .ok (.iconst 0, 1) := by decide +kernel
theorem dX12_freeStrokes_40 : decode cX12_freeStrokes 40 = .ok (.istore_n 3, 1) := by decide +kernel
theorem dX12_freeStrokes_41 : decode cX12_freeStrokes 41 = .ok (.iload_n 3, 1) := by decide +kernel
theorem dX12_freeStrokes_42 : decode cX12_freeStrokes 42 = .ok (.sipush 130, 3) := by decide +kernel
theorem dX12_freeStrokes_45 : decode cX12_freeStrokes 45 = .ok (.if_icmp .ge 40, 3) := by decide +kernel
theorem dX12_freeStrokes_48 : decode cX12_freeStrokes 48 = .ok (.aload_n 0, 1) := by decide +kernel
theorem dX12_freeStrokes_49 : decode cX12_freeStrokes 49 = .ok (.getfield 9, 3) := by decide +kernel
theorem dX12_freeStrokes_52 : decode cX12_freeStrokes 52 = .ok (.sipush 3630, 3) := by decide +kernel
theorem dX12_freeStrokes_55 : decode cX12_freeStrokes 55 = .ok (.iload_n 3, 1) := by decide +kernel
theorem dX12_freeStrokes_56 : decode cX12_freeStrokes 56 = .ok (.invokestatic 181, 3) := by decide +kernel
theorem glS_RX12_181 : GLS RX12 181 yX12_simpleStroke cX12_simpleStroke 2 (some .int) 1 := ⟨⟨(mT9 22 rfl rfl), (mT9 23 rfl rfl), (mT1 13 rfl rfl), (mT9 24 rfl rfl)⟩, by decide +kernel⟩
theorem dX12_freeStrokes_59 : decode cX12_freeStrokes 59 = .ok (.iastore, 1) := by decide +kernel
theorem dX12_freeStrokes_60 : decode cX12_freeStrokes 60 = .ok (.iload_n 2, 1) := by decide +kernel
theorem dX12_freeStrokes_61 : decode cX12_freeStrokes 61 = .ok (.aload_n 0, 1) := by decide +kernel
theorem dX12_freeStrokes_62 : decode cX12_freeStrokes 62 = .ok (.iload_n 1, 1) := by decide +kernel
theorem dX12_freeStrokes_63 : decode cX12_freeStrokes 63 = .ok (.sipush 3629, 3) := by decide +kernel
theorem dX12_freeStrokes_66 : decode cX12_freeStrokes 66 = .ok (.invokevirtual 129, 3) := by decide +kernel
theorem glV_RX12_129 : GLV RX12 129 yX12_canBind RX12 cX12_canBind 3 (some .boolean) 2 := ⟨⟨(mT8 108 rfl rfl), (mT8 110 rfl rfl), (mTs 45 rfl rfl), (mT1 13 rfl rfl), (mT8 111 rfl rfl)⟩, by decide +kernel⟩
theorem dX12_freeStrokes_69 : decode cX12_freeStrokes 69 = .ok (.ifCond .eq 7, 3) := by decide +kernel
theorem dX12_freeStrokes_72 : decode cX12_freeStrokes 72 = .ok (.iconst 1, 1) := by decide +kernel
theorem dX12_freeStrokes_73 : decode cX12_freeStrokes 73 = .ok (.goto 4, 3) := by decide +kernel
theorem dX12_freeStrokes_77 : decode cX12_freeStrokes 77 = .ok (.iadd, 1) := by decide +kernel
theorem dX12_freeStrokes_78 : decode cX12_freeStrokes 78 = .ok (.istore_n 2, 1) := by decide +kernel
theorem dX12_freeStrokes_79 : decode cX12_freeStrokes 79 = .ok (.iinc 3 1, 3) := by decide +kernel
theorem dX12_freeStrokes_82 : decode cX12_freeStrokes 82 = .ok (.goto (-41), 3) := by decide +kernel
theorem dX12_freeStrokes_85 : decode cX12_freeStrokes 85 = .ok (.iload_n 2, 1) := by decide +kernel
theorem dX12_freeStrokes_86 : decode cX12_freeStrokes 86 = .ok (.ireturn, 1) := by decide +kernel
theorem dX12_freeStrokes_14 : decode cX12_freeStrokes 14 = .ok (.iconst 1, 1) := by decide +kernel
theorem dX12_freeStrokes_15 : decode cX12_freeStrokes 15 = .ok (.goto 4, 3) := by decide +kernel
theorem dX12_freeStrokes_26 : decode cX12_freeStrokes 26 = .ok (.iconst 0, 1) := by decide +kernel
theorem dX12_freeStrokes_27 : decode cX12_freeStrokes 27 = .ok (.ireturn, 1) := by decide +kernel
set_option maxRecDepth 100000 in
set_option maxHeartbeats 4000000 in
theorem mX12_freeStrokes_1 (l : Launch) (D : va_G) (Y : Nat → ClassId) (h0 : Nat) (h1 : Nat) (g0 : Nat) (g1 : Nat) (g2 : Nat) (g3 : Nat) (g4 : Nat) (p0 : Int32) (sz : Nat) : Met l yX12_freeStrokes (WSm yX12_freeStrokes cX12_freeStrokes 4 (some .int)) (mkR 2 0 0 46) (PreC D Y [.ref h0, .int p0] [(h0, oC 13 [.ref h1, .ref g0, .int 0, .ref g1, .ref g2, .int 0, .int 0, .int 0, .int (-1), .int 0, .int 0, .int 0, .long 0, .ref g3, .ref g4, .int 0, .int 0]), (h1, aI Y 3640 (clB 0 (fun _ => 0)))] sz) (QI D (fun (r : Int32) (u : Nat) => (u = 0 ∧ p0 = 0 ∧ 130 = r) ∨ (u = 1 ∧ p0 < 0 ∧ 0 = r) ∨ (u = 2 ∧ 0 < p0 ∧ 0 = r)) (fun (u : Nat) => match u with | 0 => [(h0, oC 13 [.ref h1, .ref g0, .int 0, .ref g1, .ref g2, .int 0, .int 0, .int 0, .int (-1), .int 0, .int 0, .int 0, .long 0, .ref g3, .ref g4, .int 0, .int 0]), (h1, aI Y 3640 (upd (upd (clB 0 (fun _ => 0)) 3629 1) 3630 281))] | 1 => [(h0, oC 13 [.ref h1, .ref g0, .int 1, .ref g1, .ref g2, .int 0, .int 0, .int 0, .int (-1), .int 0, .int 0, .int 0, .long 0, .ref g3, .ref g4, .int 0, .int 0]), (h1, aI Y 3640 (clB 0 (fun _ => 0)))] | _ => [(h0, oC 13 [.ref h1, .ref g0, .int 1, .ref g1, .ref g2, .int 0, .int 0, .int 0, .int (-1), .int 0, .int 0, .int 0, .long 0, .ref g3, .ref g4, .int 0, .int 0]), (h1, aI Y 3640 (clB 0 (fun _ => 0)))]) (va_A [(h0, oC 13 [.ref h1, .ref g0, .int 0, .ref g1, .ref g2, .int 0, .int 0, .int 0, .int (-1), .int 0, .int 0, .int 0, .long 0, .ref g3, .ref g4, .int 0, .int 0]), (h1, aI Y 3640 (clB 0 (fun _ => 0)))] sz)) 0 0 (va_A [(h0, oC 13 [.ref h1, .ref g0, .int 0, .ref g1, .ref g2, .int 0, .int 0, .int 0, .int (-1), .int 0, .int 0, .int 0, .long 0, .ref g3, .ref g4, .int 0, .int 0]), (h1, aI Y 3640 (clB 0 (fun _ => 0)))] sz) :=
  met_of (by decide +kernel) (Nat.le_of_ble_eq_true rfl) (fun p e s m args below meth c B hin hsz => by
    have B : VB p s m args meth c D Y (va_A [(h0, oC 13 [.ref h1, .ref g0, .int 0, .ref g1, .ref g2, .int 0, .int 0, .int 0, .int (-1), .int 0, .int 0, .int 0, .long 0, .ref g3, .ref g4, .int 0, .int 0]), (h1, aI Y 3640 (clB 0 (fun _ => 0)))] sz) cX12_freeStrokes 4 RX12 (some .int) := B
    refine V_aload_n 0 B dX12_freeStrokes_0 0 rfl ?_
    refine V_iconst 1 B (v := 0) dX12_freeStrokes_1 (by decide +kernel) ?_
    refine V_put 2 B gp_RX12_38 0 rfl (Nat.le_of_ble_eq_true rfl) rfl rfl dX12_freeStrokes_2 [(h0, oC 13 [.ref h1, .ref g0, .int 0, .ref g1, .ref g2, .int 0, .int 0, .int 0, .int (-1), .int 0, .int 0, .int 0, .long 0, .ref g3, .ref g4, .int 0, .int 0]), (h1, aI Y 3640 (clB 0 (fun _ => 0)))] rfl ?_
    refine V_aload_n 5 B dX12_freeStrokes_5 0 rfl ?_
    refine V_aload_n 6 B dX12_freeStrokes_6 0 rfl ?_
    refine V_iload_n 7 B dX12_freeStrokes_7 1 rfl ?_
    refine V_cvi 8 B (st := [.ref h0]) (As := [.int p0]) (fun sz => mX12_isMode_1 l D Y (h0) (h1) (g0) (g1) (g2) (g3) (g4) (p0) sz) glV_RX12_91 ⟨rfl, rfl⟩ ⟨(Nat.le_of_ble_eq_true rfl), (Nat.le_of_ble_eq_true rfl)⟩ ⟨(Nat.le_of_ble_eq_true rfl), (Nat.le_of_ble_eq_true rfl)⟩ [0, 0] rfl 13 0 rfl rfl rfl rfl (Nat.le_of_ble_eq_true rfl) rfl (fun _ _ _ => rfl) dX12_freeStrokes_8 (fun r0 u0 w0 => ?_)
    rcases w0 with ⟨k1, rfl⟩ | ⟨k2, rfl⟩ | ⟨k3, rfl⟩
    ·
      refine V_ws [(h0, oC 13 [.ref h1, .ref g0, .int 0, .ref g1, .ref g2, .int 0, .int 0, .int 0, .int (-1), .int 0, .int 0, .int 0, .long 0, .ref g3, .ref g4, .int 0, .int 0]), (h1, aI Y 3640 (clB 0 (fun _ => 0)))] rfl ?_
      obtain rfl : p0 = 0 := k1
      refine V_if_ne_t 11 B 18 dX12_freeStrokes_11 (by decide) (by decide +kernel) ?_
      refine V_iconst 18 B (v := 0) dX12_freeStrokes_18 (by decide +kernel) ?_
      refine V_iconst 19 B (v := 1) dX12_freeStrokes_19 (by decide +kernel) ?_
      refine V_cvi 20 B (st := []) (As := [.int 0, .int 1]) (fun sz => mX12_throwsIf_2 l D Y (h0) (h1) (g0) (g1) (g2) (g3) (g4) sz) glV_RX12_69 ⟨rfl, rfl⟩ ⟨(Nat.le_of_ble_eq_true rfl), (Nat.le_of_ble_eq_true rfl)⟩ ⟨(Nat.le_of_ble_eq_true rfl), (Nat.le_of_ble_eq_true rfl)⟩ [0] rfl 13 0 rfl rfl rfl rfl (Nat.le_of_ble_eq_true rfl) rfl (fun _ _ _ => rfl) dX12_freeStrokes_20 (fun r4 u4 w4 => ?_)
      obtain rfl := w4
      refine V_ws [(h0, oC 13 [.ref h1, .ref g0, .int 0, .ref g1, .ref g2, .int 0, .int 0, .int 0, .int (-1), .int 0, .int 0, .int 0, .long 0, .ref g3, .ref g4, .int 0, .int 0]), (h1, aI Y 3640 (clB 0 (fun _ => 0)))] rfl ?_
      refine V_if_eq_t 23 B 28 dX12_freeStrokes_23 (by decide) (by decide +kernel) ?_
      refine V_iconst 28 B (v := 0) dX12_freeStrokes_28 (by decide +kernel) ?_
      refine V_istore_n 29 B (lv2 := [(2, .int 0), (0, .ref h0), (1, .int 0)]) dX12_freeStrokes_29 (by decide) rfl ?_
      refine V_aload_n 30 B dX12_freeStrokes_30 1 rfl ?_
      refine V_get 31 B gf_RX12_9 0 rfl rfl dX12_freeStrokes_31 ?_
      refine V_sipush 34 B (v := 3629) dX12_freeStrokes_34 (by decide +kernel) ?_
      refine V_iconst 37 B (v := 1) dX12_freeStrokes_37 (by decide +kernel) ?_
      refine V_iast 38 B 1 rfl (vpin _ _ (by decide +kernel)) dX12_freeStrokes_38 [(h0, oC 13 [.ref h1, .ref g0, .int 0, .ref g1, .ref g2, .int 0, .int 0, .int 0, .int (-1), .int 0, .int 0, .int 0, .long 0, .ref g3, .ref g4, .int 0, .int 0]), (h1, aI Y 3640 (upd (clB 0 (fun _ => 0)) 3629 1))] rfl ?_
      refine V_iconst 39 B (v := 0) dX12_freeStrokes_39 (by decide +kernel) ?_
      refine V_istore_n 40 B (lv2 := [(3, .int 0), (2, .int 0), (0, .ref h0), (1, .int 0)]) dX12_freeStrokes_40 (by decide) rfl ?_
      refine V_loop (α := Unit) 130 (fun _ _ => True) (fun iA _ => [(3, .int (nI iA)), (2, .int (nI iA)), (0, .ref h0), (1, .int 0)]) (fun iA _ => [(h0, oC 13 [.ref h1, .ref g0, .int 0, .ref g1, .ref g2, .int 0, .int 0, .int 0, .int (-1), .int 0, .int 0, .int 0, .long 0, .ref g3, .ref g4, .int 0, .int 0]), (h1, aI Y 3640 (upd (upd (clB 0 (fun _ => 0)) 3629 1) 3630 (lastS iA)))]) () trivial rfl (by
        rw [show upd (upd (clB 0 (fun _ => 0)) 3629 1) 3630 (lastS 0) = (upd (clB 0 (fun _ => 0)) 3629 1) from upd_same (by decide +kernel)]) (fun iA _ hiA _ IHA => ?_) (fun _ _ => ?_)
      ·
        refine V_lv [(3, .int (nI iA)), (2, .int (nI iA)), (0, .ref h0), (1, .int 0)] [0, 1, 2, 3] rfl ?_
        refine V_ws [(h0, oC 13 [.ref h1, .ref g0, .int 0, .ref g1, .ref g2, .int 0, .int 0, .int 0, .int (-1), .int 0, .int 0, .int 0, .long 0, .ref g3, .ref g4, .int 0, .int 0]), (h1, aI Y 3640 (upd (upd (clB 0 (fun _ => 0)) 3629 1) 3630 (lastS iA)))] rfl ?_
        refine V_iload_n 41 B dX12_freeStrokes_41 0 rfl ?_
        refine V_sipush 42 B (v := 130) dX12_freeStrokes_42 (by decide +kernel) ?_
        refine V_icmp_ge_f 45 B 85 dX12_freeStrokes_45 (by decide) (q_nge (nI_hi hiA (by decide) (k := 129) (by decide +kernel)) (by decide +kernel)) ?_
        refine V_aload_n 48 B dX12_freeStrokes_48 2 rfl ?_
        refine V_get 49 B gf_RX12_9 0 rfl rfl dX12_freeStrokes_49 ?_
        refine V_sipush 52 B (v := 3630) dX12_freeStrokes_52 (by decide +kernel) ?_
        refine V_iload_n 55 B dX12_freeStrokes_55 0 rfl ?_
        refine V_csi 56 B (st := [.int 3630, .ref h1]) (As := [.int (nI iA)]) (fun sz => mX12_simpleStroke_1 l D Y ((nI iA)) sz) glS_RX12_181 ⟨rfl, rfl⟩ ⟨(Nat.le_of_ble_eq_true rfl), (Nat.le_of_ble_eq_true rfl)⟩ ⟨(Nat.le_of_ble_eq_true rfl), (Nat.le_of_ble_eq_true rfl)⟩ [] rfl rfl (Nat.le_of_ble_eq_true rfl) rfl (fun _ _ _ => rfl) dX12_freeStrokes_56 (fun r5 u5 w5 => ?_)
        rcases w5 with ⟨k6, rfl⟩ | ⟨k7, rfl⟩
        ·
          refine V_ws [(h0, oC 13 [.ref h1, .ref g0, .int 0, .ref g1, .ref g2, .int 0, .int 0, .int 0, .int (-1), .int 0, .int 0, .int 0, .long 0, .ref g3, .ref g4, .int 0, .int 0]), (h1, aI Y 3640 (upd (upd (clB 0 (fun _ => 0)) 3629 1) 3630 (lastS iA)))] rfl ?_
          refine V_iast 59 B 1 rfl (vpin _ _ (by decide +kernel)) dX12_freeStrokes_59 [(h0, oC 13 [.ref h1, .ref g0, .int 0, .ref g1, .ref g2, .int 0, .int 0, .int 0, .int (-1), .int 0, .int 0, .int 0, .long 0, .ref g3, .ref g4, .int 0, .int 0]), (h1, aI Y 3640 (upd (upd (upd (clB 0 (fun _ => 0)) 3629 1) 3630 (lastS iA)) 3630 ((32 * ((1 : Int32) <<< ((((nI iA) / 26) - 1) &&& 31))) + ((nI iA) - (nI iA) / 26 * 26))))] rfl ?_
          refine V_iload_n 60 B dX12_freeStrokes_60 1 rfl ?_
          refine V_aload_n 61 B dX12_freeStrokes_61 2 rfl ?_
          refine V_iload_n 62 B dX12_freeStrokes_62 3 rfl ?_
          refine V_sipush 63 B (v := 3629) dX12_freeStrokes_63 (by decide +kernel) ?_
          refine V_cvi 66 B (st := [.int (nI iA)]) (As := [.int 0, .int 3629]) (fun sz => mX12_canBind_1 l D Y (h0) (h1) (g0) (g1) (g2) (g3) (g4) (((32 * ((1 : Int32) <<< ((((nI iA) / 26) - 1) &&& 31))) + ((nI iA) - (nI iA) / 26 * 26))) ((lastS iA)) sz) glV_RX12_129 ⟨rfl, rfl⟩ ⟨(Nat.le_of_ble_eq_true rfl), (Nat.le_of_ble_eq_true rfl)⟩ ⟨(Nat.le_of_ble_eq_true rfl), (Nat.le_of_ble_eq_true rfl)⟩ [0, 0] rfl 13 0 rfl rfl rfl rfl (Nat.le_of_ble_eq_true rfl) rfl (fun _ _ _ => rfl) dX12_freeStrokes_66 (fun r8 u8 w8 => ?_)
          obtain rfl := w8
          refine V_ws [(h0, oC 13 [.ref h1, .ref g0, .int 0, .ref g1, .ref g2, .int 0, .int 0, .int 0, .int (-1), .int 0, .int 0, .int 0, .long 0, .ref g3, .ref g4, .int 0, .int 0]), (h1, aI Y 3640 (upd (upd (upd (clB 0 (fun _ => 0)) 3629 1) 3630 (lastS iA)) 3630 ((32 * ((1 : Int32) <<< ((((nI iA) / 26) - 1) &&& 31))) + ((nI iA) - (nI iA) / 26 * 26))))] rfl ?_
          refine V_if_eq_f 69 B 76 dX12_freeStrokes_69 (by decide) (by decide +kernel) ?_
          refine V_iconst 72 B (v := 1) dX12_freeStrokes_72 (by decide +kernel) ?_
          refine V_goto 73 B 77 dX12_freeStrokes_73 (by decide) ?_
          refine V_iadd 77 B dX12_freeStrokes_77 (nI_1 _) ?_
          refine V_istore_n 78 B (lv2 := [(2, .int (nI (iA + 1))), (3, .int (nI iA)), (0, .ref h0), (1, .int 0)]) dX12_freeStrokes_78 (by decide) rfl ?_
          refine V_iinc 79 B (v := (nI (iA + 1))) (lv2 := [(3, .int (nI (iA + 1))), (2, .int (nI (iA + 1))), (0, .ref h0), (1, .int 0)]) dX12_freeStrokes_79 1 rfl (nI_1 _) (by decide) rfl ?_
          refine V_goto 82 B 41 dX12_freeStrokes_82 (by decide) ?_
          refine V_ws [(h0, oC 13 [.ref h1, .ref g0, .int 0, .ref g1, .ref g2, .int 0, .int 0, .int 0, .int (-1), .int 0, .int 0, .int 0, .long 0, .ref g3, .ref g4, .int 0, .int 0]), (h1, aI Y 3640 (upd (upd (clB 0 (fun _ => 0)) 3629 1) 3630 (lastS (iA + 1))))] (by rw [upd_upd, show lastS (iA + 1) = ((32 * ((1 : Int32) <<< ((((nI iA) / 26) - 1) &&& 31))) + ((nI iA) - (nI iA) / 26 * 26)) from if_neg k6]) ?_
          refine V_lv [(3, .int (nI (iA + 1))), (2, .int (nI (iA + 1))), (0, .ref h0), (1, .int 0)] [0, 1, 2, 3] rfl ?_
          exact IHA () trivial
        ·
          refine V_ws [(h0, oC 13 [.ref h1, .ref g0, .int 0, .ref g1, .ref g2, .int 0, .int 0, .int 0, .int (-1), .int 0, .int 0, .int 0, .long 0, .ref g3, .ref g4, .int 0, .int 0]), (h1, aI Y 3640 (upd (upd (clB 0 (fun _ => 0)) 3629 1) 3630 (lastS iA)))] rfl ?_
          refine V_iast 59 B 1 rfl (vpin _ _ (by decide +kernel)) dX12_freeStrokes_59 [(h0, oC 13 [.ref h1, .ref g0, .int 0, .ref g1, .ref g2, .int 0, .int 0, .int 0, .int (-1), .int 0, .int 0, .int 0, .long 0, .ref g3, .ref g4, .int 0, .int 0]), (h1, aI Y 3640 (upd (upd (upd (clB 0 (fun _ => 0)) 3629 1) 3630 (lastS iA)) 3630 ((nI iA) - (nI iA) / 26 * 26)))] rfl ?_
          refine V_iload_n 60 B dX12_freeStrokes_60 1 rfl ?_
          refine V_aload_n 61 B dX12_freeStrokes_61 2 rfl ?_
          refine V_iload_n 62 B dX12_freeStrokes_62 3 rfl ?_
          refine V_sipush 63 B (v := 3629) dX12_freeStrokes_63 (by decide +kernel) ?_
          refine V_cvi 66 B (st := [.int (nI iA)]) (As := [.int 0, .int 3629]) (fun sz => mX12_canBind_1 l D Y (h0) (h1) (g0) (g1) (g2) (g3) (g4) (((nI iA) - (nI iA) / 26 * 26)) ((lastS iA)) sz) glV_RX12_129 ⟨rfl, rfl⟩ ⟨(Nat.le_of_ble_eq_true rfl), (Nat.le_of_ble_eq_true rfl)⟩ ⟨(Nat.le_of_ble_eq_true rfl), (Nat.le_of_ble_eq_true rfl)⟩ [0, 0] rfl 13 0 rfl rfl rfl rfl (Nat.le_of_ble_eq_true rfl) rfl (fun _ _ _ => rfl) dX12_freeStrokes_66 (fun r9 u9 w9 => ?_)
          obtain rfl := w9
          refine V_ws [(h0, oC 13 [.ref h1, .ref g0, .int 0, .ref g1, .ref g2, .int 0, .int 0, .int 0, .int (-1), .int 0, .int 0, .int 0, .long 0, .ref g3, .ref g4, .int 0, .int 0]), (h1, aI Y 3640 (upd (upd (upd (clB 0 (fun _ => 0)) 3629 1) 3630 (lastS iA)) 3630 ((nI iA) - (nI iA) / 26 * 26)))] rfl ?_
          refine V_if_eq_f 69 B 76 dX12_freeStrokes_69 (by decide) (by decide +kernel) ?_
          refine V_iconst 72 B (v := 1) dX12_freeStrokes_72 (by decide +kernel) ?_
          refine V_goto 73 B 77 dX12_freeStrokes_73 (by decide) ?_
          refine V_iadd 77 B dX12_freeStrokes_77 (nI_1 _) ?_
          refine V_istore_n 78 B (lv2 := [(2, .int (nI (iA + 1))), (3, .int (nI iA)), (0, .ref h0), (1, .int 0)]) dX12_freeStrokes_78 (by decide) rfl ?_
          refine V_iinc 79 B (v := (nI (iA + 1))) (lv2 := [(3, .int (nI (iA + 1))), (2, .int (nI (iA + 1))), (0, .ref h0), (1, .int 0)]) dX12_freeStrokes_79 1 rfl (nI_1 _) (by decide) rfl ?_
          refine V_goto 82 B 41 dX12_freeStrokes_82 (by decide) ?_
          refine V_ws [(h0, oC 13 [.ref h1, .ref g0, .int 0, .ref g1, .ref g2, .int 0, .int 0, .int 0, .int (-1), .int 0, .int 0, .int 0, .long 0, .ref g3, .ref g4, .int 0, .int 0]), (h1, aI Y 3640 (upd (upd (clB 0 (fun _ => 0)) 3629 1) 3630 (lastS (iA + 1))))] (by rw [upd_upd, show lastS (iA + 1) = ((nI iA) - (nI iA) / 26 * 26) from if_pos k7]) ?_
          refine V_lv [(3, .int (nI (iA + 1))), (2, .int (nI (iA + 1))), (0, .ref h0), (1, .int 0)] [0, 1, 2, 3] rfl ?_
          exact IHA () trivial
      ·
        refine V_lv [(3, .int 130), (2, .int 130), (0, .ref h0), (1, .int 0)] [0, 1, 2, 3] rfl ?_
        refine V_ws [(h0, oC 13 [.ref h1, .ref g0, .int 0, .ref g1, .ref g2, .int 0, .int 0, .int 0, .int (-1), .int 0, .int 0, .int 0, .long 0, .ref g3, .ref g4, .int 0, .int 0]), (h1, aI Y 3640 (upd (upd (clB 0 (fun _ => 0)) 3629 1) 3630 281))] (by
        rw [show lastS 130 = 281 by decide +kernel]) ?_
        refine V_iload_n 41 B dX12_freeStrokes_41 0 rfl ?_
        refine V_sipush 42 B (v := 130) dX12_freeStrokes_42 (by decide +kernel) ?_
        refine V_icmp_ge_t 45 B 85 dX12_freeStrokes_45 (by decide) (by decide +kernel) ?_
        refine V_iload_n 85 B dX12_freeStrokes_85 1 rfl ?_
        exact V_iret 86 B dX12_freeStrokes_86 0 (Or.inl ⟨rfl, rfl, rfl⟩) rfl
    ·
      refine V_ws [(h0, oC 13 [.ref h1, .ref g0, .int 0, .ref g1, .ref g2, .int 0, .int 0, .int 0, .int (-1), .int 0, .int 0, .int 0, .long 0, .ref g3, .ref g4, .int 0, .int 0]), (h1, aI Y 3640 (clB 0 (fun _ => 0)))] rfl ?_
      refine V_if_ne_f 11 B 18 dX12_freeStrokes_11 (by decide) (by decide +kernel) ?_
      refine V_iconst 14 B (v := 1) dX12_freeStrokes_14 (by decide +kernel) ?_
      refine V_goto 15 B 19 dX12_freeStrokes_15 (by decide) ?_
      refine V_iconst 19 B (v := 1) dX12_freeStrokes_19 (by decide +kernel) ?_
      refine V_cvi 20 B (st := []) (As := [.int 1, .int 1]) (fun sz => mX12_throwsIf_1 l D Y (h0) (h1) (g0) (g1) (g2) (g3) (g4) sz) glV_RX12_69 ⟨rfl, rfl⟩ ⟨(Nat.le_of_ble_eq_true rfl), (Nat.le_of_ble_eq_true rfl)⟩ ⟨(Nat.le_of_ble_eq_true rfl), (Nat.le_of_ble_eq_true rfl)⟩ [0] rfl 13 0 rfl rfl rfl rfl (Nat.le_of_ble_eq_true rfl) rfl (fun _ _ _ => rfl) dX12_freeStrokes_20 (fun r10 u10 w10 => ?_)
      obtain rfl := w10
      refine V_ws [(h0, oC 13 [.ref h1, .ref g0, .int 1, .ref g1, .ref g2, .int 0, .int 0, .int 0, .int (-1), .int 0, .int 0, .int 0, .long 0, .ref g3, .ref g4, .int 0, .int 0]), (h1, aI Y 3640 (clB 0 (fun _ => 0)))] rfl ?_
      refine V_if_eq_f 23 B 28 dX12_freeStrokes_23 (by decide) (by decide +kernel) ?_
      refine V_iconst 26 B (v := 0) dX12_freeStrokes_26 (by decide +kernel) ?_
      exact V_iret 27 B dX12_freeStrokes_27 1 (Or.inr (Or.inl ⟨rfl, k2, rfl⟩)) rfl
    ·
      refine V_ws [(h0, oC 13 [.ref h1, .ref g0, .int 0, .ref g1, .ref g2, .int 0, .int 0, .int 0, .int (-1), .int 0, .int 0, .int 0, .long 0, .ref g3, .ref g4, .int 0, .int 0]), (h1, aI Y 3640 (clB 0 (fun _ => 0)))] rfl ?_
      refine V_if_ne_f 11 B 18 dX12_freeStrokes_11 (by decide) (by decide +kernel) ?_
      refine V_iconst 14 B (v := 1) dX12_freeStrokes_14 (by decide +kernel) ?_
      refine V_goto 15 B 19 dX12_freeStrokes_15 (by decide) ?_
      refine V_iconst 19 B (v := 1) dX12_freeStrokes_19 (by decide +kernel) ?_
      refine V_cvi 20 B (st := []) (As := [.int 1, .int 1]) (fun sz => mX12_throwsIf_1 l D Y (h0) (h1) (g0) (g1) (g2) (g3) (g4) sz) glV_RX12_69 ⟨rfl, rfl⟩ ⟨(Nat.le_of_ble_eq_true rfl), (Nat.le_of_ble_eq_true rfl)⟩ ⟨(Nat.le_of_ble_eq_true rfl), (Nat.le_of_ble_eq_true rfl)⟩ [0] rfl 13 0 rfl rfl rfl rfl (Nat.le_of_ble_eq_true rfl) rfl (fun _ _ _ => rfl) dX12_freeStrokes_20 (fun r11 u11 w11 => ?_)
      obtain rfl := w11
      refine V_ws [(h0, oC 13 [.ref h1, .ref g0, .int 1, .ref g1, .ref g2, .int 0, .int 0, .int 0, .int (-1), .int 0, .int 0, .int 0, .long 0, .ref g3, .ref g4, .int 0, .int 0]), (h1, aI Y 3640 (clB 0 (fun _ => 0)))] rfl ?_
      refine V_if_eq_f 23 B 28 dX12_freeStrokes_23 (by decide) (by decide +kernel) ?_
      refine V_iconst 26 B (v := 0) dX12_freeStrokes_26 (by decide +kernel) ?_
      exact V_iret 27 B dX12_freeStrokes_27 2 (Or.inr (Or.inr ⟨rfl, k3, rfl⟩)) rfl)
theorem dL_freeStrokes_0 : decode cL_freeStrokes 0 = .ok (.aload_n 2, 1) := by decide +kernel
theorem dL_freeStrokes_1 : decode cL_freeStrokes 1 = .ok (.iconst 0, 1) := by decide +kernel
theorem dL_freeStrokes_2 : decode cL_freeStrokes 2 = .ok (.aload_n 0, 1) := by decide +kernel
theorem dL_freeStrokes_3 : decode cL_freeStrokes 3 = .ok (.iload_n 1, 1) := by decide +kernel
theorem dL_freeStrokes_4 : decode cL_freeStrokes 4 = .ok (.invokevirtual 90, 3) := by decide +kernel
theorem glV_RL_90 : GLV RL 90 yX11_freeStrokes RX11 cX11_freeStrokes 2 (some .int) 1 := ⟨⟨(mT6 149 rfl rfl), (mT6 150 rfl rfl), (mT6 151 rfl rfl), (mT1 1 rfl rfl), (mT6 152 rfl rfl)⟩, by decide +kernel⟩
theorem dL_freeStrokes_12 : decode cL_freeStrokes 12 = .ok (.astore_n 3, 1) := by decide +kernel
theorem dL_freeStrokes_13 : decode cL_freeStrokes 13 = .ok (.iconst 1, 1) := by decide +kernel
theorem dL_freeStrokes_14 : decode cL_freeStrokes 14 = .ok (.ireturn, 1) := by decide +kernel
theorem dL_freeStrokes_7 : decode cL_freeStrokes 7 = .ok (.i2l, 1) := by decide +kernel
theorem dL_freeStrokes_8 : decode cL_freeStrokes 8 = .ok (.lastore, 1) := by decide +kernel
theorem dL_freeStrokes_9 : decode cL_freeStrokes 9 = .ok (.goto 6, 3) := by decide +kernel
theorem dL_freeStrokes_15 : decode cL_freeStrokes 15 = .ok (.iconst 0, 1) := by decide +kernel
theorem dL_freeStrokes_16 : decode cL_freeStrokes 16 = .ok (.ireturn, 1) := by decide +kernel
set_option maxRecDepth 100000 in
set_option maxHeartbeats 4000000 in
theorem mL_freeStrokes_1 (l : Launch) (hl9 : l.stackTraces = false) (D : va_G) (Y : Nat → ClassId) (h0 : Nat) (h10 : Nat) (h1 : Nat) (g0 : Nat) (g1 : Nat) (g2 : Nat) (h7 : Nat) (g3 : Nat) (g4 : Nat) (g5 : Nat) (g6 : Nat) (h2 : Nat) (g7 : Nat) (g8 : Nat) (g9 : Nat) (h4 : Nat) (h6 : Nat) (g10 : Nat) (g11 : Nat) (g12 : Nat) (g13 : Nat) (g14 : Nat) (h3 : Nat) (h5 : Nat) (g15 : Nat) (g16 : Nat) (g17 : Nat) (h8 : Nat) (g18 : Nat) (h9 : Nat) (p0 : Int32) (sz : Nat) : Met l yL_freeStrokes (Cond.codeWith yL_freeStrokes cL_freeStrokes 4 (some .int) [(0, 9, 12, 18)] :: lw_good) (mkR 8 1 6 124) (PreX D Y [.ref h0, .int p0, .ref h10] [(h0, oC 12 [.ref h1, .ref g0, .ref g1, .ref g2, .ref h7, .ref g3, .ref g4, .ref g5, .ref g6, .long 0]), (h1, oC 2 [.ref h2, .ref g7, .ref g8, .ref g9, .ref h4, .ref h6, .ref g10, .ref g11, .ref g12, .ref g13, .ref g14, .int 0]), (h2, oC 3 [.ref h3, .int 1]), (h3, aI Y 6 (upd (fun _ => 0) 0 (-1))), (h4, oC 7 [.ref h5, .int 0]), (h5, aJ Y 6 (fun _ => 0)), (h6, oC 3 [.ref g15, .int 0]), (h7, oC 11 [.ref h1, .ref g16, .ref g17, .ref h8, .ref g18]), (h8, oC 7 [.ref h9, .int 0]), (h9, aJ Y 86 (fun _ => 0)), (h10, aJ Y 1 (fun _ => 0))] sz) (QI D (fun (r : Int32) (u : Nat) => (u = 0 ∧ p0 < 0 ∧ 1 = r) ∨ (u = 1 ∧ ¬ p0 < 0 ∧ 1 ≤ p0 ∧ 1 = r) ∨ (u = 2 ∧ p0 = 0 ∧ 0 = r)) (fun (u : Nat) => match u with | 0 => [(h0, oC 12 [.ref h1, .ref g0, .ref g1, .ref g2, .ref h7, .ref g3, .ref g4, .ref g5, .ref g6, .long 0]), (h1, oC 2 [.ref h2, .ref g7, .ref g8, .ref g9, .ref h4, .ref h6, .ref g10, .ref g11, .ref g12, .ref g13, .ref g14, .int 0]), (h2, oC 3 [.ref h3, .int 1]), (h3, aI Y 6 (upd (fun _ => 0) 0 (-1))), (h4, oC 7 [.ref h5, .int 0]), (h5, aJ Y 6 (fun _ => 0)), (h6, oC 3 [.ref g15, .int 0]), (h7, oC 11 [.ref h1, .ref g16, .ref g17, .ref h8, .ref g18]), (h8, oC 7 [.ref h9, .int 0]), (h9, aJ Y 86 (fun _ => 0)), (h10, aJ Y 1 (fun _ => 0))] | 1 => [(h0, oC 12 [.ref h1, .ref g0, .ref g1, .ref g2, .ref h7, .ref g3, .ref g4, .ref g5, .ref g6, .long 0]), (h1, oC 2 [.ref h2, .ref g7, .ref g8, .ref g9, .ref h4, .ref h6, .ref g10, .ref g11, .ref g12, .ref g13, .ref g14, .int 0]), (h2, oC 3 [.ref h3, .int 1]), (h3, aI Y 6 (upd (fun _ => 0) 0 (-1))), (h4, oC 7 [.ref h5, .int 0]), (h5, aJ Y 6 (fun _ => 0)), (h6, oC 3 [.ref g15, .int 0]), (h7, oC 11 [.ref h1, .ref g16, .ref g17, .ref h8, .ref g18]), (h8, oC 7 [.ref h9, .int 0]), (h9, aJ Y 86 (fun _ => 0)), (h10, aJ Y 1 (fun _ => 0))] | _ => [(h0, oC 12 [.ref h1, .ref g0, .ref g1, .ref g2, .ref h7, .ref g3, .ref g4, .ref g5, .ref g6, .long 0]), (h1, oC 2 [.ref h2, .ref g7, .ref g8, .ref g9, .ref h4, .ref h6, .ref g10, .ref g11, .ref g12, .ref g13, .ref g14, .int 0]), (h2, oC 3 [.ref h3, .int 1]), (h3, aI Y 6 (upd (fun _ => 0) 0 (-1))), (h4, oC 7 [.ref h5, .int 0]), (h5, aJ Y 6 (fun _ => 0)), (h6, oC 3 [.ref g15, .int 0]), (h7, oC 11 [.ref h1, .ref g16, .ref g17, .ref h8, .ref g18]), (h8, oC 7 [.ref h9, .int 0]), (h9, aJ Y 86 (fun _ => 0)), (h10, aJ Y 1 (vp_updL (fun _ => 0) 0 130))]) (va_A [(h0, oC 12 [.ref h1, .ref g0, .ref g1, .ref g2, .ref h7, .ref g3, .ref g4, .ref g5, .ref g6, .long 0]), (h1, oC 2 [.ref h2, .ref g7, .ref g8, .ref g9, .ref h4, .ref h6, .ref g10, .ref g11, .ref g12, .ref g13, .ref g14, .int 0]), (h2, oC 3 [.ref h3, .int 1]), (h3, aI Y 6 (upd (fun _ => 0) 0 (-1))), (h4, oC 7 [.ref h5, .int 0]), (h5, aJ Y 6 (fun _ => 0)), (h6, oC 3 [.ref g15, .int 0]), (h7, oC 11 [.ref h1, .ref g16, .ref g17, .ref h8, .ref g18]), (h8, oC 7 [.ref h9, .int 0]), (h9, aJ Y 86 (fun _ => 0)), (h10, aJ Y 1 (fun _ => 0))] sz)) 1 6 (va_A [(h0, oC 12 [.ref h1, .ref g0, .ref g1, .ref g2, .ref h7, .ref g3, .ref g4, .ref g5, .ref g6, .long 0]), (h1, oC 2 [.ref h2, .ref g7, .ref g8, .ref g9, .ref h4, .ref h6, .ref g10, .ref g11, .ref g12, .ref g13, .ref g14, .int 0]), (h2, oC 3 [.ref h3, .int 1]), (h3, aI Y 6 (upd (fun _ => 0) 0 (-1))), (h4, oC 7 [.ref h5, .int 0]), (h5, aJ Y 6 (fun _ => 0)), (h6, oC 3 [.ref g15, .int 0]), (h7, oC 11 [.ref h1, .ref g16, .ref g17, .ref h8, .ref g18]), (h8, oC 7 [.ref h9, .int 0]), (h9, aJ Y 86 (fun _ => 0)), (h10, aJ Y 1 (fun _ => 0))] sz) :=
  metH_of (by decide +kernel) (Nat.le_of_ble_eq_true rfl) (fun p e s m args below meth c B EB htab hsz => by
    have B : VB p s m args meth c D Y (va_A [(h0, oC 12 [.ref h1, .ref g0, .ref g1, .ref g2, .ref h7, .ref g3, .ref g4, .ref g5, .ref g6, .long 0]), (h1, oC 2 [.ref h2, .ref g7, .ref g8, .ref g9, .ref h4, .ref h6, .ref g10, .ref g11, .ref g12, .ref g13, .ref g14, .int 0]), (h2, oC 3 [.ref h3, .int 1]), (h3, aI Y 6 (upd (fun _ => 0) 0 (-1))), (h4, oC 7 [.ref h5, .int 0]), (h5, aJ Y 6 (fun _ => 0)), (h6, oC 3 [.ref g15, .int 0]), (h7, oC 11 [.ref h1, .ref g16, .ref g17, .ref h8, .ref g18]), (h8, oC 7 [.ref h9, .int 0]), (h9, aJ Y 86 (fun _ => 0)), (h10, aJ Y 1 (fun _ => 0))] sz) cL_freeStrokes 4 RL (some .int) := B
    refine V_aload_n 0 B dL_freeStrokes_0 2 rfl ?_
    refine V_iconst 1 B (v := 0) dL_freeStrokes_1 (by decide +kernel) ?_
    refine V_aload_n 2 B dL_freeStrokes_2 0 rfl ?_
    refine V_iload_n 3 B dL_freeStrokes_3 1 rfl ?_
    refine V_xvi 4 B EB (st := [.int 0, .ref h10]) (As := [.int p0]) (fun sz => mX11_freeStrokes_1 l hl9 D Y (h0) (h1) (g0) (g1) (g2) (h7) (g3) (g4) (g5) (g6) (h2) (g7) (g8) (g9) (h4) (h6) (g10) (g11) (g12) (g13) (g14) (h3) (h5) (g15) (g16) (g17) (h8) (g18) (h9) (p0) sz) glV_RL_90 ⟨rfl, rfl⟩ ⟨(Nat.le_of_ble_eq_true rfl), (Nat.le_of_ble_eq_true rfl)⟩ ⟨(Nat.le_of_ble_eq_true rfl), (Nat.le_of_ble_eq_true rfl)⟩ [0, 0, 0, 0, 0, 0, 0, 0, 0, 0] rfl 12 0 rfl rfl rfl rfl (Nat.le_of_ble_eq_true rfl) rfl (fun _ _ _ => rfl) (fun _ _ _ => rfl) dL_freeStrokes_4 (fun E u0 w0 => ?_) (fun r0 u0 w0 => ?_)
    ·
      rcases w0 with ⟨rfl, k1⟩ | ⟨rfl, k2, k3⟩
      ·
        refine VX_catch 4 B htab [] (0, 9, 12, 18) [] rfl "java/lang/IndexOutOfBoundsException" (fun z hz => nomatch hz) rfl (by decide) (mT5 103 rfl rfl) (EB.2.2.2.1 _ (List.mem_of_getElem? (i := 1) rfl)) 12 rfl (fun q9 => ?_)
        refine V_ws [(h0, oC 12 [.ref h1, .ref g0, .ref g1, .ref g2, .ref h7, .ref g3, .ref g4, .ref g5, .ref g6, .long 0]), (h1, oC 2 [.ref h2, .ref g7, .ref g8, .ref g9, .ref h4, .ref h6, .ref g10, .ref g11, .ref g12, .ref g13, .ref g14, .int 0]), (h2, oC 3 [.ref h3, .int 1]), (h3, aI Y 6 (upd (fun _ => 0) 0 (-1))), (h4, oC 7 [.ref h5, .int 0]), (h5, aJ Y 6 (fun _ => 0)), (h6, oC 3 [.ref g15, .int 0]), (h7, oC 11 [.ref h1, .ref g16, .ref g17, .ref h8, .ref g18]), (h8, oC 7 [.ref h9, .int 0]), (h9, aJ Y 86 (fun _ => 0)), (h10, aJ Y 1 (fun _ => 0))] rfl ?_
        refine V_astore_n 12 B (lv2 := [(3, .ref q9), (0, .ref h0), (1, .int p0), (2, .ref h10)]) dL_freeStrokes_12 (by decide) rfl ?_
        refine V_iconst 13 B (v := 1) dL_freeStrokes_13 (by decide +kernel) ?_
        exact V_iret 14 B dL_freeStrokes_14 0 (Or.inl ⟨rfl, k1, rfl⟩) rfl
      ·
        refine VX_catch 4 B htab [] (0, 9, 12, 18) [] rfl "java/lang/IndexOutOfBoundsException" (fun z hz => nomatch hz) rfl (by decide) (mT5 103 rfl rfl) (EB.2.2.2.1 _ (List.mem_of_getElem? (i := 1) rfl)) 12 rfl (fun q9 => ?_)
        refine V_ws [(h0, oC 12 [.ref h1, .ref g0, .ref g1, .ref g2, .ref h7, .ref g3, .ref g4, .ref g5, .ref g6, .long 0]), (h1, oC 2 [.ref h2, .ref g7, .ref g8, .ref g9, .ref h4, .ref h6, .ref g10, .ref g11, .ref g12, .ref g13, .ref g14, .int 0]), (h2, oC 3 [.ref h3, .int 1]), (h3, aI Y 6 (upd (fun _ => 0) 0 (-1))), (h4, oC 7 [.ref h5, .int 0]), (h5, aJ Y 6 (fun _ => 0)), (h6, oC 3 [.ref g15, .int 0]), (h7, oC 11 [.ref h1, .ref g16, .ref g17, .ref h8, .ref g18]), (h8, oC 7 [.ref h9, .int 0]), (h9, aJ Y 86 (fun _ => 0)), (h10, aJ Y 1 (fun _ => 0))] rfl ?_
        refine V_astore_n 12 B (lv2 := [(3, .ref q9), (0, .ref h0), (1, .int p0), (2, .ref h10)]) dL_freeStrokes_12 (by decide) rfl ?_
        refine V_iconst 13 B (v := 1) dL_freeStrokes_13 (by decide +kernel) ?_
        exact V_iret 14 B dL_freeStrokes_14 1 (Or.inr (Or.inl ⟨rfl, k2, k3, rfl⟩)) rfl
    ·
      obtain ⟨k4, rfl⟩ := w0
      refine V_ws [(h0, oC 12 [.ref h1, .ref g0, .ref g1, .ref g2, .ref h7, .ref g3, .ref g4, .ref g5, .ref g6, .long 0]), (h1, oC 2 [.ref h2, .ref g7, .ref g8, .ref g9, .ref h4, .ref h6, .ref g10, .ref g11, .ref g12, .ref g13, .ref g14, .int 0]), (h2, oC 3 [.ref h3, .int 1]), (h3, aI Y 6 (upd (fun _ => 0) 0 (-1))), (h4, oC 7 [.ref h5, .int 0]), (h5, aJ Y 6 (fun _ => 0)), (h6, oC 3 [.ref g15, .int 0]), (h7, oC 11 [.ref h1, .ref g16, .ref g17, .ref h8, .ref g18]), (h8, oC 7 [.ref h9, .int 0]), (h9, aJ Y 86 (fun _ => 0)), (h10, aJ Y 1 (fun _ => 0))] rfl ?_
      obtain rfl : p0 = 0 := k4
      refine V_i2l 7 B (v := 130) dL_freeStrokes_7 (by decide +kernel) ?_
      refine V_last 8 B 10 rfl (vpin _ _ (by decide +kernel)) dL_freeStrokes_8 [(h0, oC 12 [.ref h1, .ref g0, .ref g1, .ref g2, .ref h7, .ref g3, .ref g4, .ref g5, .ref g6, .long 0]), (h1, oC 2 [.ref h2, .ref g7, .ref g8, .ref g9, .ref h4, .ref h6, .ref g10, .ref g11, .ref g12, .ref g13, .ref g14, .int 0]), (h2, oC 3 [.ref h3, .int 1]), (h3, aI Y 6 (upd (fun _ => 0) 0 (-1))), (h4, oC 7 [.ref h5, .int 0]), (h5, aJ Y 6 (fun _ => 0)), (h6, oC 3 [.ref g15, .int 0]), (h7, oC 11 [.ref h1, .ref g16, .ref g17, .ref h8, .ref g18]), (h8, oC 7 [.ref h9, .int 0]), (h9, aJ Y 86 (fun _ => 0)), (h10, aJ Y 1 (vp_updL (fun _ => 0) 0 130))] rfl ?_
      refine V_goto 9 B 15 dL_freeStrokes_9 (by decide) ?_
      refine V_iconst 15 B (v := 0) dL_freeStrokes_15 (by decide +kernel) ?_
      exact V_iret 16 B dL_freeStrokes_16 2 (Or.inr (Or.inr ⟨rfl, rfl, rfl⟩)) rfl)
set_option maxRecDepth 100000 in
set_option maxHeartbeats 4000000 in
theorem mX12_freeStrokes_2 (l : Launch) (D : va_G) (Y : Nat → ClassId) (h0 : Nat) (h1 : Nat) (g0 : Nat) (g1 : Nat) (g2 : Nat) (g3 : Nat) (g4 : Nat) (sz : Nat) : Met l yX12_freeStrokes (WSm yX12_freeStrokes cX12_freeStrokes 4 (some .int)) (mkR 2 0 0 46) (PreC D Y [.ref h0, .int 0] [(h0, oC 13 [.ref h1, .ref g0, .int 0, .ref g1, .ref g2, .int 0, .int 0, .int 0, .int (-1), .int 0, .int 0, .int 0, .long 0, .ref g3, .ref g4, .int 0, .int 0]), (h1, aI Y 3640 (clB 0 (fun _ => 0)))] sz) (QI D (fun (r : Int32) (u : Unit) => 130 = r) (fun (_ : Unit) => [(h0, oC 13 [.ref h1, .ref g0, .int 0, .ref g1, .ref g2, .int 0, .int 0, .int 0, .int (-1), .int 0, .int 0, .int 0, .long 0, .ref g3, .ref g4, .int 0, .int 0]), (h1, aI Y 3640 (upd (upd (clB 0 (fun _ => 0)) 3629 1) 3630 281))]) (va_A [(h0, oC 13 [.ref h1, .ref g0, .int 0, .ref g1, .ref g2, .int 0, .int 0, .int 0, .int (-1), .int 0, .int 0, .int 0, .long 0, .ref g3, .ref g4, .int 0, .int 0]), (h1, aI Y 3640 (clB 0 (fun _ => 0)))] sz)) 0 0 (va_A [(h0, oC 13 [.ref h1, .ref g0, .int 0, .ref g1, .ref g2, .int 0, .int 0, .int 0, .int (-1), .int 0, .int 0, .int 0, .long 0, .ref g3, .ref g4, .int 0, .int 0]), (h1, aI Y 3640 (clB 0 (fun _ => 0)))] sz) :=
  met_of (by decide +kernel) (Nat.le_of_ble_eq_true rfl) (fun p e s m args below meth c B hin hsz => by
    have B : VB p s m args meth c D Y (va_A [(h0, oC 13 [.ref h1, .ref g0, .int 0, .ref g1, .ref g2, .int 0, .int 0, .int 0, .int (-1), .int 0, .int 0, .int 0, .long 0, .ref g3, .ref g4, .int 0, .int 0]), (h1, aI Y 3640 (clB 0 (fun _ => 0)))] sz) cX12_freeStrokes 4 RX12 (some .int) := B
    refine V_aload_n 0 B dX12_freeStrokes_0 0 rfl ?_
    refine V_iconst 1 B (v := 0) dX12_freeStrokes_1 (by decide +kernel) ?_
    refine V_put 2 B gp_RX12_38 0 rfl (Nat.le_of_ble_eq_true rfl) rfl rfl dX12_freeStrokes_2 [(h0, oC 13 [.ref h1, .ref g0, .int 0, .ref g1, .ref g2, .int 0, .int 0, .int 0, .int (-1), .int 0, .int 0, .int 0, .long 0, .ref g3, .ref g4, .int 0, .int 0]), (h1, aI Y 3640 (clB 0 (fun _ => 0)))] rfl ?_
    refine V_aload_n 5 B dX12_freeStrokes_5 0 rfl ?_
    refine V_aload_n 6 B dX12_freeStrokes_6 0 rfl ?_
    refine V_iload_n 7 B dX12_freeStrokes_7 1 rfl ?_
    refine V_cvi 8 B (st := [.ref h0]) (As := [.int 0]) (fun sz => mX12_isMode_2 l D Y (h0) (h1) (g0) (g1) (g2) (g3) (g4) sz) glV_RX12_91 ⟨rfl, rfl⟩ ⟨(Nat.le_of_ble_eq_true rfl), (Nat.le_of_ble_eq_true rfl)⟩ ⟨(Nat.le_of_ble_eq_true rfl), (Nat.le_of_ble_eq_true rfl)⟩ [0, 0] rfl 13 0 rfl rfl rfl rfl (Nat.le_of_ble_eq_true rfl) rfl (fun _ _ _ => rfl) dX12_freeStrokes_8 (fun r0 u0 w0 => ?_)
    obtain rfl := w0
    refine V_ws [(h0, oC 13 [.ref h1, .ref g0, .int 0, .ref g1, .ref g2, .int 0, .int 0, .int 0, .int (-1), .int 0, .int 0, .int 0, .long 0, .ref g3, .ref g4, .int 0, .int 0]), (h1, aI Y 3640 (clB 0 (fun _ => 0)))] rfl ?_
    refine V_if_ne_t 11 B 18 dX12_freeStrokes_11 (by decide) (by decide +kernel) ?_
    refine V_iconst 18 B (v := 0) dX12_freeStrokes_18 (by decide +kernel) ?_
    refine V_iconst 19 B (v := 1) dX12_freeStrokes_19 (by decide +kernel) ?_
    refine V_cvi 20 B (st := []) (As := [.int 0, .int 1]) (fun sz => mX12_throwsIf_2 l D Y (h0) (h1) (g0) (g1) (g2) (g3) (g4) sz) glV_RX12_69 ⟨rfl, rfl⟩ ⟨(Nat.le_of_ble_eq_true rfl), (Nat.le_of_ble_eq_true rfl)⟩ ⟨(Nat.le_of_ble_eq_true rfl), (Nat.le_of_ble_eq_true rfl)⟩ [0] rfl 13 0 rfl rfl rfl rfl (Nat.le_of_ble_eq_true rfl) rfl (fun _ _ _ => rfl) dX12_freeStrokes_20 (fun r1 u1 w1 => ?_)
    obtain rfl := w1
    refine V_ws [(h0, oC 13 [.ref h1, .ref g0, .int 0, .ref g1, .ref g2, .int 0, .int 0, .int 0, .int (-1), .int 0, .int 0, .int 0, .long 0, .ref g3, .ref g4, .int 0, .int 0]), (h1, aI Y 3640 (clB 0 (fun _ => 0)))] rfl ?_
    refine V_if_eq_t 23 B 28 dX12_freeStrokes_23 (by decide) (by decide +kernel) ?_
    refine V_iconst 28 B (v := 0) dX12_freeStrokes_28 (by decide +kernel) ?_
    refine V_istore_n 29 B (lv2 := [(2, .int 0), (0, .ref h0), (1, .int 0)]) dX12_freeStrokes_29 (by decide) rfl ?_
    refine V_aload_n 30 B dX12_freeStrokes_30 1 rfl ?_
    refine V_get 31 B gf_RX12_9 0 rfl rfl dX12_freeStrokes_31 ?_
    refine V_sipush 34 B (v := 3629) dX12_freeStrokes_34 (by decide +kernel) ?_
    refine V_iconst 37 B (v := 1) dX12_freeStrokes_37 (by decide +kernel) ?_
    refine V_iast 38 B 1 rfl (vpin _ _ (by decide +kernel)) dX12_freeStrokes_38 [(h0, oC 13 [.ref h1, .ref g0, .int 0, .ref g1, .ref g2, .int 0, .int 0, .int 0, .int (-1), .int 0, .int 0, .int 0, .long 0, .ref g3, .ref g4, .int 0, .int 0]), (h1, aI Y 3640 (upd (clB 0 (fun _ => 0)) 3629 1))] rfl ?_
    refine V_iconst 39 B (v := 0) dX12_freeStrokes_39 (by decide +kernel) ?_
    refine V_istore_n 40 B (lv2 := [(3, .int 0), (2, .int 0), (0, .ref h0), (1, .int 0)]) dX12_freeStrokes_40 (by decide) rfl ?_
    refine V_loop (α := Unit) 130 (fun _ _ => True) (fun iA _ => [(3, .int (nI iA)), (2, .int (nI iA)), (0, .ref h0), (1, .int 0)]) (fun iA _ => [(h0, oC 13 [.ref h1, .ref g0, .int 0, .ref g1, .ref g2, .int 0, .int 0, .int 0, .int (-1), .int 0, .int 0, .int 0, .long 0, .ref g3, .ref g4, .int 0, .int 0]), (h1, aI Y 3640 (upd (upd (clB 0 (fun _ => 0)) 3629 1) 3630 (lastS iA)))]) () trivial rfl (by
        rw [show upd (upd (clB 0 (fun _ => 0)) 3629 1) 3630 (lastS 0) = (upd (clB 0 (fun _ => 0)) 3629 1) from upd_same (by decide +kernel)]) (fun iA _ hiA _ IHA => ?_) (fun _ _ => ?_)
    ·
      refine V_lv [(3, .int (nI iA)), (2, .int (nI iA)), (0, .ref h0), (1, .int 0)] [0, 1, 2, 3] rfl ?_
      refine V_ws [(h0, oC 13 [.ref h1, .ref g0, .int 0, .ref g1, .ref g2, .int 0, .int 0, .int 0, .int (-1), .int 0, .int 0, .int 0, .long 0, .ref g3, .ref g4, .int 0, .int 0]), (h1, aI Y 3640 (upd (upd (clB 0 (fun _ => 0)) 3629 1) 3630 (lastS iA)))] rfl ?_
      refine V_iload_n 41 B dX12_freeStrokes_41 0 rfl ?_
      refine V_sipush 42 B (v := 130) dX12_freeStrokes_42 (by decide +kernel) ?_
      refine V_icmp_ge_f 45 B 85 dX12_freeStrokes_45 (by decide) (q_nge (nI_hi hiA (by decide) (k := 129) (by decide +kernel)) (by decide +kernel)) ?_
      refine V_aload_n 48 B dX12_freeStrokes_48 2 rfl ?_
      refine V_get 49 B gf_RX12_9 0 rfl rfl dX12_freeStrokes_49 ?_
      refine V_sipush 52 B (v := 3630) dX12_freeStrokes_52 (by decide +kernel) ?_
      refine V_iload_n 55 B dX12_freeStrokes_55 0 rfl ?_
      refine V_csi 56 B (st := [.int 3630, .ref h1]) (As := [.int (nI iA)]) (fun sz => mX12_simpleStroke_1 l D Y ((nI iA)) sz) glS_RX12_181 ⟨rfl, rfl⟩ ⟨(Nat.le_of_ble_eq_true rfl), (Nat.le_of_ble_eq_true rfl)⟩ ⟨(Nat.le_of_ble_eq_true rfl), (Nat.le_of_ble_eq_true rfl)⟩ [] rfl rfl (Nat.le_of_ble_eq_true rfl) rfl (fun _ _ _ => rfl) dX12_freeStrokes_56 (fun r2 u2 w2 => ?_)
      rcases w2 with ⟨k3, rfl⟩ | ⟨k4, rfl⟩
      ·
        refine V_ws [(h0, oC 13 [.ref h1, .ref g0, .int 0, .ref g1, .ref g2, .int 0, .int 0, .int 0, .int (-1), .int 0, .int 0, .int 0, .long 0, .ref g3, .ref g4, .int 0, .int 0]), (h1, aI Y 3640 (upd (upd (clB 0 (fun _ => 0)) 3629 1) 3630 (lastS iA)))] rfl ?_
        refine V_iast 59 B 1 rfl (vpin _ _ (by decide +kernel)) dX12_freeStrokes_59 [(h0, oC 13 [.ref h1, .ref g0, .int 0, .ref g1, .ref g2, .int 0, .int 0, .int 0, .int (-1), .int 0, .int 0, .int 0, .long 0, .ref g3, .ref g4, .int 0, .int 0]), (h1, aI Y 3640 (upd (upd (upd (clB 0 (fun _ => 0)) 3629 1) 3630 (lastS iA)) 3630 ((32 * ((1 : Int32) <<< ((((nI iA) / 26) - 1) &&& 31))) + ((nI iA) - (nI iA) / 26 * 26))))] rfl ?_
        refine V_iload_n 60 B dX12_freeStrokes_60 1 rfl ?_
        refine V_aload_n 61 B dX12_freeStrokes_61 2 rfl ?_
        refine V_iload_n 62 B dX12_freeStrokes_62 3 rfl ?_
        refine V_sipush 63 B (v := 3629) dX12_freeStrokes_63 (by decide +kernel) ?_
        refine V_cvi 66 B (st := [.int (nI iA)]) (As := [.int 0, .int 3629]) (fun sz => mX12_canBind_1 l D Y (h0) (h1) (g0) (g1) (g2) (g3) (g4) (((32 * ((1 : Int32) <<< ((((nI iA) / 26) - 1) &&& 31))) + ((nI iA) - (nI iA) / 26 * 26))) ((lastS iA)) sz) glV_RX12_129 ⟨rfl, rfl⟩ ⟨(Nat.le_of_ble_eq_true rfl), (Nat.le_of_ble_eq_true rfl)⟩ ⟨(Nat.le_of_ble_eq_true rfl), (Nat.le_of_ble_eq_true rfl)⟩ [0, 0] rfl 13 0 rfl rfl rfl rfl (Nat.le_of_ble_eq_true rfl) rfl (fun _ _ _ => rfl) dX12_freeStrokes_66 (fun r5 u5 w5 => ?_)
        obtain rfl := w5
        refine V_ws [(h0, oC 13 [.ref h1, .ref g0, .int 0, .ref g1, .ref g2, .int 0, .int 0, .int 0, .int (-1), .int 0, .int 0, .int 0, .long 0, .ref g3, .ref g4, .int 0, .int 0]), (h1, aI Y 3640 (upd (upd (upd (clB 0 (fun _ => 0)) 3629 1) 3630 (lastS iA)) 3630 ((32 * ((1 : Int32) <<< ((((nI iA) / 26) - 1) &&& 31))) + ((nI iA) - (nI iA) / 26 * 26))))] rfl ?_
        refine V_if_eq_f 69 B 76 dX12_freeStrokes_69 (by decide) (by decide +kernel) ?_
        refine V_iconst 72 B (v := 1) dX12_freeStrokes_72 (by decide +kernel) ?_
        refine V_goto 73 B 77 dX12_freeStrokes_73 (by decide) ?_
        refine V_iadd 77 B dX12_freeStrokes_77 (nI_1 _) ?_
        refine V_istore_n 78 B (lv2 := [(2, .int (nI (iA + 1))), (3, .int (nI iA)), (0, .ref h0), (1, .int 0)]) dX12_freeStrokes_78 (by decide) rfl ?_
        refine V_iinc 79 B (v := (nI (iA + 1))) (lv2 := [(3, .int (nI (iA + 1))), (2, .int (nI (iA + 1))), (0, .ref h0), (1, .int 0)]) dX12_freeStrokes_79 1 rfl (nI_1 _) (by decide) rfl ?_
        refine V_goto 82 B 41 dX12_freeStrokes_82 (by decide) ?_
        refine V_ws [(h0, oC 13 [.ref h1, .ref g0, .int 0, .ref g1, .ref g2, .int 0, .int 0, .int 0, .int (-1), .int 0, .int 0, .int 0, .long 0, .ref g3, .ref g4, .int 0, .int 0]), (h1, aI Y 3640 (upd (upd (clB 0 (fun _ => 0)) 3629 1) 3630 (lastS (iA + 1))))] (by rw [upd_upd, show lastS (iA + 1) = ((32 * ((1 : Int32) <<< ((((nI iA) / 26) - 1) &&& 31))) + ((nI iA) - (nI iA) / 26 * 26)) from if_neg k3]) ?_
        refine V_lv [(3, .int (nI (iA + 1))), (2, .int (nI (iA + 1))), (0, .ref h0), (1, .int 0)] [0, 1, 2, 3] rfl ?_
        exact IHA () trivial
      ·
        refine V_ws [(h0, oC 13 [.ref h1, .ref g0, .int 0, .ref g1, .ref g2, .int 0, .int 0, .int 0, .int (-1), .int 0, .int 0, .int 0, .long 0, .ref g3, .ref g4, .int 0, .int 0]), (h1, aI Y 3640 (upd (upd (clB 0 (fun _ => 0)) 3629 1) 3630 (lastS iA)))] rfl ?_
        refine V_iast 59 B 1 rfl (vpin _ _ (by decide +kernel)) dX12_freeStrokes_59 [(h0, oC 13 [.ref h1, .ref g0, .int 0, .ref g1, .ref g2, .int 0, .int 0, .int 0, .int (-1), .int 0, .int 0, .int 0, .long 0, .ref g3, .ref g4, .int 0, .int 0]), (h1, aI Y 3640 (upd (upd (upd (clB 0 (fun _ => 0)) 3629 1) 3630 (lastS iA)) 3630 ((nI iA) - (nI iA) / 26 * 26)))] rfl ?_
        refine V_iload_n 60 B dX12_freeStrokes_60 1 rfl ?_
        refine V_aload_n 61 B dX12_freeStrokes_61 2 rfl ?_
        refine V_iload_n 62 B dX12_freeStrokes_62 3 rfl ?_
        refine V_sipush 63 B (v := 3629) dX12_freeStrokes_63 (by decide +kernel) ?_
        refine V_cvi 66 B (st := [.int (nI iA)]) (As := [.int 0, .int 3629]) (fun sz => mX12_canBind_1 l D Y (h0) (h1) (g0) (g1) (g2) (g3) (g4) (((nI iA) - (nI iA) / 26 * 26)) ((lastS iA)) sz) glV_RX12_129 ⟨rfl, rfl⟩ ⟨(Nat.le_of_ble_eq_true rfl), (Nat.le_of_ble_eq_true rfl)⟩ ⟨(Nat.le_of_ble_eq_true rfl), (Nat.le_of_ble_eq_true rfl)⟩ [0, 0] rfl 13 0 rfl rfl rfl rfl (Nat.le_of_ble_eq_true rfl) rfl (fun _ _ _ => rfl) dX12_freeStrokes_66 (fun r6 u6 w6 => ?_)
        obtain rfl := w6
        refine V_ws [(h0, oC 13 [.ref h1, .ref g0, .int 0, .ref g1, .ref g2, .int 0, .int 0, .int 0, .int (-1), .int 0, .int 0, .int 0, .long 0, .ref g3, .ref g4, .int 0, .int 0]), (h1, aI Y 3640 (upd (upd (upd (clB 0 (fun _ => 0)) 3629 1) 3630 (lastS iA)) 3630 ((nI iA) - (nI iA) / 26 * 26)))] rfl ?_
        refine V_if_eq_f 69 B 76 dX12_freeStrokes_69 (by decide) (by decide +kernel) ?_
        refine V_iconst 72 B (v := 1) dX12_freeStrokes_72 (by decide +kernel) ?_
        refine V_goto 73 B 77 dX12_freeStrokes_73 (by decide) ?_
        refine V_iadd 77 B dX12_freeStrokes_77 (nI_1 _) ?_
        refine V_istore_n 78 B (lv2 := [(2, .int (nI (iA + 1))), (3, .int (nI iA)), (0, .ref h0), (1, .int 0)]) dX12_freeStrokes_78 (by decide) rfl ?_
        refine V_iinc 79 B (v := (nI (iA + 1))) (lv2 := [(3, .int (nI (iA + 1))), (2, .int (nI (iA + 1))), (0, .ref h0), (1, .int 0)]) dX12_freeStrokes_79 1 rfl (nI_1 _) (by decide) rfl ?_
        refine V_goto 82 B 41 dX12_freeStrokes_82 (by decide) ?_
        refine V_ws [(h0, oC 13 [.ref h1, .ref g0, .int 0, .ref g1, .ref g2, .int 0, .int 0, .int 0, .int (-1), .int 0, .int 0, .int 0, .long 0, .ref g3, .ref g4, .int 0, .int 0]), (h1, aI Y 3640 (upd (upd (clB 0 (fun _ => 0)) 3629 1) 3630 (lastS (iA + 1))))] (by rw [upd_upd, show lastS (iA + 1) = ((nI iA) - (nI iA) / 26 * 26) from if_pos k4]) ?_
        refine V_lv [(3, .int (nI (iA + 1))), (2, .int (nI (iA + 1))), (0, .ref h0), (1, .int 0)] [0, 1, 2, 3] rfl ?_
        exact IHA () trivial
    ·
      refine V_lv [(3, .int 130), (2, .int 130), (0, .ref h0), (1, .int 0)] [0, 1, 2, 3] rfl ?_
      refine V_ws [(h0, oC 13 [.ref h1, .ref g0, .int 0, .ref g1, .ref g2, .int 0, .int 0, .int 0, .int (-1), .int 0, .int 0, .int 0, .long 0, .ref g3, .ref g4, .int 0, .int 0]), (h1, aI Y 3640 (upd (upd (clB 0 (fun _ => 0)) 3629 1) 3630 281))] (by
        rw [show lastS 130 = 281 by decide +kernel]) ?_
      refine V_iload_n 41 B dX12_freeStrokes_41 0 rfl ?_
      refine V_sipush 42 B (v := 130) dX12_freeStrokes_42 (by decide +kernel) ?_
      refine V_icmp_ge_t 45 B 85 dX12_freeStrokes_45 (by decide) (by decide +kernel) ?_
      refine V_iload_n 85 B dX12_freeStrokes_85 1 rfl ?_
      exact V_iret 86 B dX12_freeStrokes_86 () rfl rfl)
theorem dL_law_2070 : decode cL_law 2070 = .ok (.aload_n 1, 1) := by decide +kernel
theorem dL_law_2071 : decode cL_law 2071 = .ok (.aload_n 0, 1) := by decide +kernel
theorem dL_law_2072 : decode cL_law 2072 = .ok (.iload 4, 2) := by decide +kernel
theorem dL_law_2074 : decode cL_law 2074 = .ok (.iconst 1, 1) := by decide +kernel
theorem dL_law_2075 : decode cL_law 2075 = .ok (.iadd, 1) := by decide +kernel
theorem dL_law_2076 : decode cL_law 2076 = .ok (.iaload, 1) := by decide +kernel
theorem dL_law_2077 : decode cL_law 2077 = .ok (.aload_n 3, 1) := by decide +kernel
theorem dL_law_2078 : decode cL_law 2078 = .ok (.invokestatic 274, 3) := by decide +kernel
theorem glH_RL_274 : GLH RL 274 yL_freeStrokes cL_freeStrokes 4 (some .int) [(0, 9, 12, 18)] 3 := ⟨⟨(mT6 146 rfl rfl), (mT6 147 rfl rfl), (mT1 0 rfl rfl), (mT6 148 rfl rfl)⟩, by decide +kernel⟩
theorem dL_law_2081 : decode cL_law 2081 = .ok (.istore 5, 2) := by decide +kernel
theorem dL_law_2083 : decode cL_law 2083 = .ok (.aload_n 2, 1) := by decide +kernel
theorem dL_law_2084 : decode cL_law 2084 = .ok (.aload_n 0, 1) := by decide +kernel
theorem dL_law_2085 : decode cL_law 2085 = .ok (.iload 4, 2) := by decide +kernel
theorem dL_law_2087 : decode cL_law 2087 = .ok (.iconst 1, 1) := by decide +kernel
theorem dL_law_2088 : decode cL_law 2088 = .ok (.iadd, 1) := by decide +kernel
theorem dL_law_2089 : decode cL_law 2089 = .ok (.iaload, 1) := by decide +kernel
theorem dL_law_2090 : decode cL_law 2090 = .ok (.invokevirtual 276, 3) := by decide +kernel
theorem glV_RL_276 : GLV RL 276 yX12_freeStrokes RX12 cX12_freeStrokes 4 (some .int) 1 := ⟨⟨(mT9 18 rfl rfl), (mT9 19 rfl rfl), (mT9 20 rfl rfl), (mT1 13 rfl rfl), (mT9 21 rfl rfl)⟩, by decide +kernel⟩
theorem dL_law_2093 : decode cL_law 2093 = .ok (.istore 6, 2) := by decide +kernel
theorem dL_law_2095 : decode cL_law 2095 = .ok (.aload_n 2, 1) := by decide +kernel
theorem dL_law_2096 : decode cL_law 2096 = .ok (.invokevirtual 182, 3) := by decide +kernel
theorem dL_law_2099 : decode cL_law 2099 = .ok (.iload 5, 2) := by decide +kernel
theorem dL_law_2101 : decode cL_law 2101 = .ok (.if_icmp .eq 5, 3) := by decide +kernel
theorem dL_law_2106 : decode cL_law 2106 = .ok (.iload 5, 2) := by decide +kernel
theorem dL_law_2108 : decode cL_law 2108 = .ok (.ifCond .ne 15, 3) := by decide +kernel
theorem dL_law_2123 : decode cL_law 2123 = .ok (.goto 1209, 3) := by decide +kernel
theorem dL_law_2111 : decode cL_law 2111 = .ok (.aload_n 3, 1) := by decide +kernel
theorem dL_law_2112 : decode cL_law 2112 = .ok (.iconst 0, 1) := by decide +kernel
theorem dL_law_2113 : decode cL_law 2113 = .ok (.laload, 1) := by decide +kernel
theorem dL_law_2114 : decode cL_law 2114 = .ok (.iload 6, 2) := by decide +kernel
theorem dL_law_2116 : decode cL_law 2116 = .ok (.i2l, 1) := by decide +kernel
theorem dL_law_2117 : decode cL_law 2117 = .ok (.lcmp, 1) := by decide +kernel
theorem dL_law_2118 : decode cL_law 2118 = .ok (.ifCond .eq 5, 3) := by decide +kernel
set_option maxRecDepth 100000 in
set_option maxHeartbeats 4000000 in
theorem law_c35 {p : Program} {l : Launch} {e : Env} {s : State} {m : MethodId} {below : List Frame} {meth : Method} {c : Code} {b : Nat} {xs : Nat → Int32} {D : va_G} {Y : Nat → ClassId} (B : VB p s m #[Value.ref b] meth c D Y (fun q => s.heap.size ≤ q) cL_law 8 RL ret) (EB : EX (fun q => s.heap.size ≤ q) s s.heap) (hl9 : l.stackTraces = false) (hX : va_X b 6 xs s s.heap) (hbl : b < s.heap.size) (hbA : ¬ (fun q => s.heap.size ≤ q) b) (x0 x1 x30 x59 x88 x117 x126 x127 x129 x132 x2 x4 x6 x8 x10 x12 x14 x16 x18 x20 x27 x3 x11 x13 x118 x120 x122 x124 x123 m0 m1 m2 m3 m4 m5 m6 o0 : Nat) (p1 : Int32) (e1 : xs 1 = p1) : V p l e room_1 s m #[Value.ref b] below meth c D (fun q => s.heap.size ≤ q) 8 149 10574 (lw_Z below #[Value.ref b] s) 2070 [(4, .int 0), (3, .ref o0), (2, .ref m0), (1, .ref x0), (0, .ref b)] [] [(x0, oC 12 [.ref x1, .ref x30, .ref x59, .ref x88, .ref x117, .ref x126, .ref x127, .ref x129, .ref x132, .long 0]), (x1, oC 2 [.ref x2, .ref x4, .ref x6, .ref x8, .ref x10, .ref x12, .ref x14, .ref x16, .ref x18, .ref x20, .ref x27, .int 0]), (x2, oC 3 [.ref x3, .int 1]), (x3, aI Y 6 (upd (fun _ => 0) 0 (-1))), (x10, oC 7 [.ref x11, .int 0]), (x11, aJ Y 6 (fun _ => 0)), (x12, oC 3 [.ref x13, .int 0]), (x117, oC 11 [.ref x1, .ref x118, .ref x120, .ref x122, .ref x124]), (x122, oC 7 [.ref x123, .int 0]), (x123, aJ Y 86 (fun _ => 0)), (m0, oC 13 [.ref m1, .ref m2, .int 0, .ref m3, .ref m4, .int 0, .int 0, .int 0, .int (-1), .int 0, .int 0, .int 0, .long 0, .ref m5, .ref m6, .int 0, .int 0]), (m1, aI Y 3640 (clB 0 (fun _ => 0))), (o0, aJ Y 1 (fun _ => 0))] := by
  refine V_aload_n 2070 B dL_law_2070 3 rfl ?_
  refine V_aload_n 2071 B dL_law_2071 4 rfl ?_
  refine V_iload 2072 B dL_law_2072 0 rfl ?_
  refine V_iconst 2074 B (v := 1) dL_law_2074 (by decide +kernel) ?_
  refine V_iadd 2075 B (v := 1) dL_law_2075 (by decide +kernel) ?_
  refine V_sld 2076 B hX hbl hbA (v := p1) (vpin _ _ (by decide +kernel)) dL_law_2076 e1 ?_
  refine V_aload_n 2077 B dL_law_2077 1 rfl ?_
  refine V_hsi 2078 B EB (st := []) (As := [.ref x0, .int p1, .ref o0]) (fun sz => mL_freeStrokes_1 l hl9 D Y (x0) (o0) (x1) (x30) (x59) (x88) (x117) (x126) (x127) (x129) (x132) (x2) (x4) (x6) (x8) (x10) (x12) (x14) (x16) (x18) (x20) (x27) (x3) (x11) (x13) (x118) (x120) (x122) (x124) (x123) (p1) sz) glH_RL_274 ⟨rfl, rfl⟩ ⟨(Nat.le_of_ble_eq_true rfl), (Nat.le_of_ble_eq_true rfl)⟩ ⟨(Nat.le_of_ble_eq_true rfl), (Nat.le_of_ble_eq_true rfl)⟩ [0, 0, 0, 0, 0, 0, 0, 0, 0, 0, 2] rfl rfl (Nat.le_of_ble_eq_true rfl) rfl (fun _ u _ => by
        first | rfl | (split <;> rfl) | (dsimp only; split <;> rfl)) dL_law_2078 (fun r0 u0 w0 => ?_)
  rcases w0 with ⟨rfl, k1, rfl⟩ | ⟨rfl, k2, k3, rfl⟩ | ⟨rfl, k4, rfl⟩
  ·
    refine V_ws [(x0, oC 12 [.ref x1, .ref x30, .ref x59, .ref x88, .ref x117, .ref x126, .ref x127, .ref x129, .ref x132, .long 0]), (x1, oC 2 [.ref x2, .ref x4, .ref x6, .ref x8, .ref x10, .ref x12, .ref x14, .ref x16, .ref x18, .ref x20, .ref x27, .int 0]), (x2, oC 3 [.ref x3, .int 1]), (x3, aI Y 6 (upd (fun _ => 0) 0 (-1))), (x10, oC 7 [.ref x11, .int 0]), (x11, aJ Y 6 (fun _ => 0)), (x12, oC 3 [.ref x13, .int 0]), (x117, oC 11 [.ref x1, .ref x118, .ref x120, .ref x122, .ref x124]), (x122, oC 7 [.ref x123, .int 0]), (x123, aJ Y 86 (fun _ => 0)), (m0, oC 13 [.ref m1, .ref m2, .int 0, .ref m3, .ref m4, .int 0, .int 0, .int 0, .int (-1), .int 0, .int 0, .int 0, .long 0, .ref m5, .ref m6, .int 0, .int 0]), (m1, aI Y 3640 (clB 0 (fun _ => 0))), (o0, aJ Y 1 (fun _ => 0))] rfl ?_
    refine V_istore 2081 B (lv2 := [(5, .int 1), (4, .int 0), (3, .ref o0), (2, .ref m0), (1, .ref x0), (0, .ref b)]) dL_law_2081 (by decide) rfl ?_
    refine V_aload_n 2083 B dL_law_2083 3 rfl ?_
    refine V_aload_n 2084 B dL_law_2084 5 rfl ?_
    refine V_iload 2085 B dL_law_2085 1 rfl ?_
    refine V_iconst 2087 B (v := 1) dL_law_2087 (by decide +kernel) ?_
    refine V_iadd 2088 B (v := 1) dL_law_2088 (by decide +kernel) ?_
    refine V_sld 2089 B hX hbl hbA (v := p1) (vpin _ _ (by decide +kernel)) dL_law_2089 e1 ?_
    refine V_cvi 2090 B (st := []) (As := [.int p1]) (fun sz => mX12_freeStrokes_1 l D Y (m0) (m1) (m2) (m3) (m4) (m5) (m6) (p1) sz) glV_RL_276 ⟨rfl, rfl⟩ ⟨(Nat.le_of_ble_eq_true rfl), (Nat.le_of_ble_eq_true rfl)⟩ ⟨(Nat.le_of_ble_eq_true rfl), (Nat.le_of_ble_eq_true rfl)⟩ [10, 0] rfl 13 0 rfl rfl rfl rfl (Nat.le_of_ble_eq_true rfl) rfl (fun _ u _ => by
        first | rfl | (split <;> rfl) | (dsimp only; split <;> rfl)) dL_law_2090 (fun r5 u5 w5 => ?_)
    rcases w5 with ⟨rfl, k6, rfl⟩ | ⟨rfl, k7, rfl⟩ | ⟨rfl, k8, rfl⟩
    ·
      refine V_ws [(x0, oC 12 [.ref x1, .ref x30, .ref x59, .ref x88, .ref x117, .ref x126, .ref x127, .ref x129, .ref x132, .long 0]), (x1, oC 2 [.ref x2, .ref x4, .ref x6, .ref x8, .ref x10, .ref x12, .ref x14, .ref x16, .ref x18, .ref x20, .ref x27, .int 0]), (x2, oC 3 [.ref x3, .int 1]), (x3, aI Y 6 (upd (fun _ => 0) 0 (-1))), (x10, oC 7 [.ref x11, .int 0]), (x11, aJ Y 6 (fun _ => 0)), (x12, oC 3 [.ref x13, .int 0]), (x117, oC 11 [.ref x1, .ref x118, .ref x120, .ref x122, .ref x124]), (x122, oC 7 [.ref x123, .int 0]), (x123, aJ Y 86 (fun _ => 0)), (m0, oC 13 [.ref m1, .ref m2, .int 0, .ref m3, .ref m4, .int 0, .int 0, .int 0, .int (-1), .int 0, .int 0, .int 0, .long 0, .ref m5, .ref m6, .int 0, .int 0]), (m1, aI Y 3640 (upd (upd (clB 0 (fun _ => 0)) 3629 1) 3630 281)), (o0, aJ Y 1 (fun _ => 0))] rfl ?_
      exact absurd k6 (q_neh (b_lt k1 (n := (-1)) (by decide +kernel)) (by decide +kernel))
    ·
      refine V_ws [(x0, oC 12 [.ref x1, .ref x30, .ref x59, .ref x88, .ref x117, .ref x126, .ref x127, .ref x129, .ref x132, .long 0]), (x1, oC 2 [.ref x2, .ref x4, .ref x6, .ref x8, .ref x10, .ref x12, .ref x14, .ref x16, .ref x18, .ref x20, .ref x27, .int 0]), (x2, oC 3 [.ref x3, .int 1]), (x3, aI Y 6 (upd (fun _ => 0) 0 (-1))), (x10, oC 7 [.ref x11, .int 0]), (x11, aJ Y 6 (fun _ => 0)), (x12, oC 3 [.ref x13, .int 0]), (x117, oC 11 [.ref x1, .ref x118, .ref x120, .ref x122, .ref x124]), (x122, oC 7 [.ref x123, .int 0]), (x123, aJ Y 86 (fun _ => 0)), (m0, oC 13 [.ref m1, .ref m2, .int 1, .ref m3, .ref m4, .int 0, .int 0, .int 0, .int (-1), .int 0, .int 0, .int 0, .long 0, .ref m5, .ref m6, .int 0, .int 0]), (m1, aI Y 3640 (clB 0 (fun _ => 0))), (o0, aJ Y 1 (fun _ => 0))] rfl ?_
      refine V_istore 2093 B (lv2 := [(6, .int 0), (5, .int 1), (4, .int 0), (3, .ref o0), (2, .ref m0), (1, .ref x0), (0, .ref b)]) dL_law_2093 (by decide) rfl ?_
      refine V_aload_n 2095 B dL_law_2095 4 rfl ?_
      refine V_cvi 2096 B (st := []) (As := []) (fun sz => mX12_thrown_2 l D Y (m0) (m1) (m2) (m3) (m4) (m5) (m6) sz) glV_RL_182 ⟨rfl, rfl⟩ ⟨(Nat.le_of_ble_eq_true rfl), (Nat.le_of_ble_eq_true rfl)⟩ ⟨(Nat.le_of_ble_eq_true rfl), (Nat.le_of_ble_eq_true rfl)⟩ [10] rfl 13 0 rfl rfl rfl rfl (Nat.le_of_ble_eq_true rfl) rfl (fun _ _ _ => rfl) dL_law_2096 (fun r9 u9 w9 => ?_)
      obtain rfl := w9
      refine V_ws [(x0, oC 12 [.ref x1, .ref x30, .ref x59, .ref x88, .ref x117, .ref x126, .ref x127, .ref x129, .ref x132, .long 0]), (x1, oC 2 [.ref x2, .ref x4, .ref x6, .ref x8, .ref x10, .ref x12, .ref x14, .ref x16, .ref x18, .ref x20, .ref x27, .int 0]), (x2, oC 3 [.ref x3, .int 1]), (x3, aI Y 6 (upd (fun _ => 0) 0 (-1))), (x10, oC 7 [.ref x11, .int 0]), (x11, aJ Y 6 (fun _ => 0)), (x12, oC 3 [.ref x13, .int 0]), (x117, oC 11 [.ref x1, .ref x118, .ref x120, .ref x122, .ref x124]), (x122, oC 7 [.ref x123, .int 0]), (x123, aJ Y 86 (fun _ => 0)), (m0, oC 13 [.ref m1, .ref m2, .int 1, .ref m3, .ref m4, .int 0, .int 0, .int 0, .int (-1), .int 0, .int 0, .int 0, .long 0, .ref m5, .ref m6, .int 0, .int 0]), (m1, aI Y 3640 (clB 0 (fun _ => 0))), (o0, aJ Y 1 (fun _ => 0))] rfl ?_
      refine V_iload 2099 B dL_law_2099 1 rfl ?_
      refine V_icmp_eq_t 2101 B 2106 dL_law_2101 (by decide) (by decide +kernel) ?_
      refine V_iload 2106 B dL_law_2106 1 rfl ?_
      refine V_if_ne_t 2108 B 2123 dL_law_2108 (by decide) (by decide +kernel) ?_
      refine V_goto 2123 B 3332 dL_law_2123 (by decide) ?_
      refine V_iinc 3332 B (v := 6) (lv2 := [(4, .int 6), (6, .int 0), (5, .int 1), (3, .ref o0), (2, .ref m0), (1, .ref x0), (0, .ref b)]) dL_law_3332 2 rfl (by decide +kernel) (by decide) rfl ?_
      refine V_goto 3335 B 23 dL_law_3335 (by decide) ?_
      refine V_iload 23 B dL_law_23 0 rfl ?_
      refine V_aload_n 25 B dL_law_25 6 rfl ?_
      refine V_slen 26 B hX hbl hbA (v := 6) (by decide +kernel) dL_law_26 ?_
      refine V_bipush 27 B (v := 6) dL_law_27 (by decide +kernel) ?_
      refine V_isub 29 B (v := 0) dL_law_29 (by decide +kernel) ?_
      refine V_icmp_gt_t 30 B 3338 dL_law_30 (by decide) (by decide +kernel) ?_
      exact law_end B (Nat.le_of_ble_eq_true rfl) (Nat.le_of_ble_eq_true rfl) dL_law_3338 dL_law_3339
    ·
      refine V_ws [(x0, oC 12 [.ref x1, .ref x30, .ref x59, .ref x88, .ref x117, .ref x126, .ref x127, .ref x129, .ref x132, .long 0]), (x1, oC 2 [.ref x2, .ref x4, .ref x6, .ref x8, .ref x10, .ref x12, .ref x14, .ref x16, .ref x18, .ref x20, .ref x27, .int 0]), (x2, oC 3 [.ref x3, .int 1]), (x3, aI Y 6 (upd (fun _ => 0) 0 (-1))), (x10, oC 7 [.ref x11, .int 0]), (x11, aJ Y 6 (fun _ => 0)), (x12, oC 3 [.ref x13, .int 0]), (x117, oC 11 [.ref x1, .ref x118, .ref x120, .ref x122, .ref x124]), (x122, oC 7 [.ref x123, .int 0]), (x123, aJ Y 86 (fun _ => 0)), (m0, oC 13 [.ref m1, .ref m2, .int 1, .ref m3, .ref m4, .int 0, .int 0, .int 0, .int (-1), .int 0, .int 0, .int 0, .long 0, .ref m5, .ref m6, .int 0, .int 0]), (m1, aI Y 3640 (clB 0 (fun _ => 0))), (o0, aJ Y 1 (fun _ => 0))] rfl ?_
      exact (q_abs (b_gt k8 (n := 1) (by decide +kernel)) (b_lt k1 (n := (-1)) (by decide +kernel)) (by decide +kernel)).elim
  ·
    refine V_ws [(x0, oC 12 [.ref x1, .ref x30, .ref x59, .ref x88, .ref x117, .ref x126, .ref x127, .ref x129, .ref x132, .long 0]), (x1, oC 2 [.ref x2, .ref x4, .ref x6, .ref x8, .ref x10, .ref x12, .ref x14, .ref x16, .ref x18, .ref x20, .ref x27, .int 0]), (x2, oC 3 [.ref x3, .int 1]), (x3, aI Y 6 (upd (fun _ => 0) 0 (-1))), (x10, oC 7 [.ref x11, .int 0]), (x11, aJ Y 6 (fun _ => 0)), (x12, oC 3 [.ref x13, .int 0]), (x117, oC 11 [.ref x1, .ref x118, .ref x120, .ref x122, .ref x124]), (x122, oC 7 [.ref x123, .int 0]), (x123, aJ Y 86 (fun _ => 0)), (m0, oC 13 [.ref m1, .ref m2, .int 0, .ref m3, .ref m4, .int 0, .int 0, .int 0, .int (-1), .int 0, .int 0, .int 0, .long 0, .ref m5, .ref m6, .int 0, .int 0]), (m1, aI Y 3640 (clB 0 (fun _ => 0))), (o0, aJ Y 1 (fun _ => 0))] rfl ?_
    refine V_istore 2081 B (lv2 := [(5, .int 1), (4, .int 0), (3, .ref o0), (2, .ref m0), (1, .ref x0), (0, .ref b)]) dL_law_2081 (by decide) rfl ?_
    refine V_aload_n 2083 B dL_law_2083 3 rfl ?_
    refine V_aload_n 2084 B dL_law_2084 5 rfl ?_
    refine V_iload 2085 B dL_law_2085 1 rfl ?_
    refine V_iconst 2087 B (v := 1) dL_law_2087 (by decide +kernel) ?_
    refine V_iadd 2088 B (v := 1) dL_law_2088 (by decide +kernel) ?_
    refine V_sld 2089 B hX hbl hbA (v := p1) (vpin _ _ (by decide +kernel)) dL_law_2089 e1 ?_
    refine V_cvi 2090 B (st := []) (As := [.int p1]) (fun sz => mX12_freeStrokes_1 l D Y (m0) (m1) (m2) (m3) (m4) (m5) (m6) (p1) sz) glV_RL_276 ⟨rfl, rfl⟩ ⟨(Nat.le_of_ble_eq_true rfl), (Nat.le_of_ble_eq_true rfl)⟩ ⟨(Nat.le_of_ble_eq_true rfl), (Nat.le_of_ble_eq_true rfl)⟩ [10, 0] rfl 13 0 rfl rfl rfl rfl (Nat.le_of_ble_eq_true rfl) rfl (fun _ u _ => by
        first | rfl | (split <;> rfl) | (dsimp only; split <;> rfl)) dL_law_2090 (fun r10 u10 w10 => ?_)
    rcases w10 with ⟨rfl, k11, rfl⟩ | ⟨rfl, k12, rfl⟩ | ⟨rfl, k13, rfl⟩
    ·
      refine V_ws [(x0, oC 12 [.ref x1, .ref x30, .ref x59, .ref x88, .ref x117, .ref x126, .ref x127, .ref x129, .ref x132, .long 0]), (x1, oC 2 [.ref x2, .ref x4, .ref x6, .ref x8, .ref x10, .ref x12, .ref x14, .ref x16, .ref x18, .ref x20, .ref x27, .int 0]), (x2, oC 3 [.ref x3, .int 1]), (x3, aI Y 6 (upd (fun _ => 0) 0 (-1))), (x10, oC 7 [.ref x11, .int 0]), (x11, aJ Y 6 (fun _ => 0)), (x12, oC 3 [.ref x13, .int 0]), (x117, oC 11 [.ref x1, .ref x118, .ref x120, .ref x122, .ref x124]), (x122, oC 7 [.ref x123, .int 0]), (x123, aJ Y 86 (fun _ => 0)), (m0, oC 13 [.ref m1, .ref m2, .int 0, .ref m3, .ref m4, .int 0, .int 0, .int 0, .int (-1), .int 0, .int 0, .int 0, .long 0, .ref m5, .ref m6, .int 0, .int 0]), (m1, aI Y 3640 (upd (upd (clB 0 (fun _ => 0)) 3629 1) 3630 281)), (o0, aJ Y 1 (fun _ => 0))] rfl ?_
      exact absurd k11 (q_nel (b_ge k3 (n := 1) (by decide +kernel)) (by decide +kernel))
    ·
      refine V_ws [(x0, oC 12 [.ref x1, .ref x30, .ref x59, .ref x88, .ref x117, .ref x126, .ref x127, .ref x129, .ref x132, .long 0]), (x1, oC 2 [.ref x2, .ref x4, .ref x6, .ref x8, .ref x10, .ref x12, .ref x14, .ref x16, .ref x18, .ref x20, .ref x27, .int 0]), (x2, oC 3 [.ref x3, .int 1]), (x3, aI Y 6 (upd (fun _ => 0) 0 (-1))), (x10, oC 7 [.ref x11, .int 0]), (x11, aJ Y 6 (fun _ => 0)), (x12, oC 3 [.ref x13, .int 0]), (x117, oC 11 [.ref x1, .ref x118, .ref x120, .ref x122, .ref x124]), (x122, oC 7 [.ref x123, .int 0]), (x123, aJ Y 86 (fun _ => 0)), (m0, oC 13 [.ref m1, .ref m2, .int 1, .ref m3, .ref m4, .int 0, .int 0, .int 0, .int (-1), .int 0, .int 0, .int 0, .long 0, .ref m5, .ref m6, .int 0, .int 0]), (m1, aI Y 3640 (clB 0 (fun _ => 0))), (o0, aJ Y 1 (fun _ => 0))] rfl ?_
      exact (q_abs (b_ge k3 (n := 1) (by decide +kernel)) (b_lt k12 (n := (-1)) (by decide +kernel)) (by decide +kernel)).elim
    ·
      refine V_ws [(x0, oC 12 [.ref x1, .ref x30, .ref x59, .ref x88, .ref x117, .ref x126, .ref x127, .ref x129, .ref x132, .long 0]), (x1, oC 2 [.ref x2, .ref x4, .ref x6, .ref x8, .ref x10, .ref x12, .ref x14, .ref x16, .ref x18, .ref x20, .ref x27, .int 0]), (x2, oC 3 [.ref x3, .int 1]), (x3, aI Y 6 (upd (fun _ => 0) 0 (-1))), (x10, oC 7 [.ref x11, .int 0]), (x11, aJ Y 6 (fun _ => 0)), (x12, oC 3 [.ref x13, .int 0]), (x117, oC 11 [.ref x1, .ref x118, .ref x120, .ref x122, .ref x124]), (x122, oC 7 [.ref x123, .int 0]), (x123, aJ Y 86 (fun _ => 0)), (m0, oC 13 [.ref m1, .ref m2, .int 1, .ref m3, .ref m4, .int 0, .int 0, .int 0, .int (-1), .int 0, .int 0, .int 0, .long 0, .ref m5, .ref m6, .int 0, .int 0]), (m1, aI Y 3640 (clB 0 (fun _ => 0))), (o0, aJ Y 1 (fun _ => 0))] rfl ?_
      refine V_istore 2093 B (lv2 := [(6, .int 0), (5, .int 1), (4, .int 0), (3, .ref o0), (2, .ref m0), (1, .ref x0), (0, .ref b)]) dL_law_2093 (by decide) rfl ?_
      refine V_aload_n 2095 B dL_law_2095 4 rfl ?_
      refine V_cvi 2096 B (st := []) (As := []) (fun sz => mX12_thrown_2 l D Y (m0) (m1) (m2) (m3) (m4) (m5) (m6) sz) glV_RL_182 ⟨rfl, rfl⟩ ⟨(Nat.le_of_ble_eq_true rfl), (Nat.le_of_ble_eq_true rfl)⟩ ⟨(Nat.le_of_ble_eq_true rfl), (Nat.le_of_ble_eq_true rfl)⟩ [10] rfl 13 0 rfl rfl rfl rfl (Nat.le_of_ble_eq_true rfl) rfl (fun _ _ _ => rfl) dL_law_2096 (fun r14 u14 w14 => ?_)
      obtain rfl := w14
      refine V_ws [(x0, oC 12 [.ref x1, .ref x30, .ref x59, .ref x88, .ref x117, .ref x126, .ref x127, .ref x129, .ref x132, .long 0]), (x1, oC 2 [.ref x2, .ref x4, .ref x6, .ref x8, .ref x10, .ref x12, .ref x14, .ref x16, .ref x18, .ref x20, .ref x27, .int 0]), (x2, oC 3 [.ref x3, .int 1]), (x3, aI Y 6 (upd (fun _ => 0) 0 (-1))), (x10, oC 7 [.ref x11, .int 0]), (x11, aJ Y 6 (fun _ => 0)), (x12, oC 3 [.ref x13, .int 0]), (x117, oC 11 [.ref x1, .ref x118, .ref x120, .ref x122, .ref x124]), (x122, oC 7 [.ref x123, .int 0]), (x123, aJ Y 86 (fun _ => 0)), (m0, oC 13 [.ref m1, .ref m2, .int 1, .ref m3, .ref m4, .int 0, .int 0, .int 0, .int (-1), .int 0, .int 0, .int 0, .long 0, .ref m5, .ref m6, .int 0, .int 0]), (m1, aI Y 3640 (clB 0 (fun _ => 0))), (o0, aJ Y 1 (fun _ => 0))] rfl ?_
      refine V_iload 2099 B dL_law_2099 1 rfl ?_
      refine V_icmp_eq_t 2101 B 2106 dL_law_2101 (by decide) (by decide +kernel) ?_
      refine V_iload 2106 B dL_law_2106 1 rfl ?_
      refine V_if_ne_t 2108 B 2123 dL_law_2108 (by decide) (by decide +kernel) ?_
      refine V_goto 2123 B 3332 dL_law_2123 (by decide) ?_
      refine V_iinc 3332 B (v := 6) (lv2 := [(4, .int 6), (6, .int 0), (5, .int 1), (3, .ref o0), (2, .ref m0), (1, .ref x0), (0, .ref b)]) dL_law_3332 2 rfl (by decide +kernel) (by decide) rfl ?_
      refine V_goto 3335 B 23 dL_law_3335 (by decide) ?_
      refine V_iload 23 B dL_law_23 0 rfl ?_
      refine V_aload_n 25 B dL_law_25 6 rfl ?_
      refine V_slen 26 B hX hbl hbA (v := 6) (by decide +kernel) dL_law_26 ?_
      refine V_bipush 27 B (v := 6) dL_law_27 (by decide +kernel) ?_
      refine V_isub 29 B (v := 0) dL_law_29 (by decide +kernel) ?_
      refine V_icmp_gt_t 30 B 3338 dL_law_30 (by decide) (by decide +kernel) ?_
      exact law_end B (Nat.le_of_ble_eq_true rfl) (Nat.le_of_ble_eq_true rfl) dL_law_3338 dL_law_3339
  ·
    refine V_ws [(x0, oC 12 [.ref x1, .ref x30, .ref x59, .ref x88, .ref x117, .ref x126, .ref x127, .ref x129, .ref x132, .long 0]), (x1, oC 2 [.ref x2, .ref x4, .ref x6, .ref x8, .ref x10, .ref x12, .ref x14, .ref x16, .ref x18, .ref x20, .ref x27, .int 0]), (x2, oC 3 [.ref x3, .int 1]), (x3, aI Y 6 (upd (fun _ => 0) 0 (-1))), (x10, oC 7 [.ref x11, .int 0]), (x11, aJ Y 6 (fun _ => 0)), (x12, oC 3 [.ref x13, .int 0]), (x117, oC 11 [.ref x1, .ref x118, .ref x120, .ref x122, .ref x124]), (x122, oC 7 [.ref x123, .int 0]), (x123, aJ Y 86 (fun _ => 0)), (m0, oC 13 [.ref m1, .ref m2, .int 0, .ref m3, .ref m4, .int 0, .int 0, .int 0, .int (-1), .int 0, .int 0, .int 0, .long 0, .ref m5, .ref m6, .int 0, .int 0]), (m1, aI Y 3640 (clB 0 (fun _ => 0))), (o0, aJ Y 1 (vp_updL (fun _ => 0) 0 130))] rfl ?_
    obtain rfl : p1 = 0 := k4
    refine V_istore 2081 B (lv2 := [(5, .int 0), (4, .int 0), (3, .ref o0), (2, .ref m0), (1, .ref x0), (0, .ref b)]) dL_law_2081 (by decide) rfl ?_
    refine V_aload_n 2083 B dL_law_2083 3 rfl ?_
    refine V_aload_n 2084 B dL_law_2084 5 rfl ?_
    refine V_iload 2085 B dL_law_2085 1 rfl ?_
    refine V_iconst 2087 B (v := 1) dL_law_2087 (by decide +kernel) ?_
    refine V_iadd 2088 B (v := 1) dL_law_2088 (by decide +kernel) ?_
    refine V_sld 2089 B hX hbl hbA (v := 0) (vpin _ _ (by decide +kernel)) dL_law_2089 e1 ?_
    refine V_cvi 2090 B (st := []) (As := [.int 0]) (fun sz => mX12_freeStrokes_2 l D Y (m0) (m1) (m2) (m3) (m4) (m5) (m6) sz) glV_RL_276 ⟨rfl, rfl⟩ ⟨(Nat.le_of_ble_eq_true rfl), (Nat.le_of_ble_eq_true rfl)⟩ ⟨(Nat.le_of_ble_eq_true rfl), (Nat.le_of_ble_eq_true rfl)⟩ [10, 0] rfl 13 0 rfl rfl rfl rfl (Nat.le_of_ble_eq_true rfl) rfl (fun _ _ _ => rfl) dL_law_2090 (fun r15 u15 w15 => ?_)
    obtain rfl := w15
    refine V_ws [(x0, oC 12 [.ref x1, .ref x30, .ref x59, .ref x88, .ref x117, .ref x126, .ref x127, .ref x129, .ref x132, .long 0]), (x1, oC 2 [.ref x2, .ref x4, .ref x6, .ref x8, .ref x10, .ref x12, .ref x14, .ref x16, .ref x18, .ref x20, .ref x27, .int 0]), (x2, oC 3 [.ref x3, .int 1]), (x3, aI Y 6 (upd (fun _ => 0) 0 (-1))), (x10, oC 7 [.ref x11, .int 0]), (x11, aJ Y 6 (fun _ => 0)), (x12, oC 3 [.ref x13, .int 0]), (x117, oC 11 [.ref x1, .ref x118, .ref x120, .ref x122, .ref x124]), (x122, oC 7 [.ref x123, .int 0]), (x123, aJ Y 86 (fun _ => 0)), (m0, oC 13 [.ref m1, .ref m2, .int 0, .ref m3, .ref m4, .int 0, .int 0, .int 0, .int (-1), .int 0, .int 0, .int 0, .long 0, .ref m5, .ref m6, .int 0, .int 0]), (m1, aI Y 3640 (upd (upd (clB 0 (fun _ => 0)) 3629 1) 3630 281)), (o0, aJ Y 1 (vp_updL (fun _ => 0) 0 130))] rfl ?_
    refine V_istore 2093 B (lv2 := [(6, .int 130), (5, .int 0), (4, .int 0), (3, .ref o0), (2, .ref m0), (1, .ref x0), (0, .ref b)]) dL_law_2093 (by decide) rfl ?_
    refine V_aload_n 2095 B dL_law_2095 4 rfl ?_
    refine V_cvi 2096 B (st := []) (As := []) (fun sz => mX12_thrown_1 l D Y (m0) (m1) (m2) (m3) (m4) (m5) (m6) sz) glV_RL_182 ⟨rfl, rfl⟩ ⟨(Nat.le_of_ble_eq_true rfl), (Nat.le_of_ble_eq_true rfl)⟩ ⟨(Nat.le_of_ble_eq_true rfl), (Nat.le_of_ble_eq_true rfl)⟩ [10] rfl 13 0 rfl rfl rfl rfl (Nat.le_of_ble_eq_true rfl) rfl (fun _ _ _ => rfl) dL_law_2096 (fun r16 u16 w16 => ?_)
    obtain rfl := w16
    refine V_ws [(x0, oC 12 [.ref x1, .ref x30, .ref x59, .ref x88, .ref x117, .ref x126, .ref x127, .ref x129, .ref x132, .long 0]), (x1, oC 2 [.ref x2, .ref x4, .ref x6, .ref x8, .ref x10, .ref x12, .ref x14, .ref x16, .ref x18, .ref x20, .ref x27, .int 0]), (x2, oC 3 [.ref x3, .int 1]), (x3, aI Y 6 (upd (fun _ => 0) 0 (-1))), (x10, oC 7 [.ref x11, .int 0]), (x11, aJ Y 6 (fun _ => 0)), (x12, oC 3 [.ref x13, .int 0]), (x117, oC 11 [.ref x1, .ref x118, .ref x120, .ref x122, .ref x124]), (x122, oC 7 [.ref x123, .int 0]), (x123, aJ Y 86 (fun _ => 0)), (m0, oC 13 [.ref m1, .ref m2, .int 0, .ref m3, .ref m4, .int 0, .int 0, .int 0, .int (-1), .int 0, .int 0, .int 0, .long 0, .ref m5, .ref m6, .int 0, .int 0]), (m1, aI Y 3640 (upd (upd (clB 0 (fun _ => 0)) 3629 1) 3630 281)), (o0, aJ Y 1 (vp_updL (fun _ => 0) 0 130))] rfl ?_
    refine V_iload 2099 B dL_law_2099 1 rfl ?_
    refine V_icmp_eq_t 2101 B 2106 dL_law_2101 (by decide) (by decide +kernel) ?_
    refine V_iload 2106 B dL_law_2106 1 rfl ?_
    refine V_if_ne_f 2108 B 2123 dL_law_2108 (by decide) (by decide +kernel) ?_
    refine V_aload_n 2111 B dL_law_2111 3 rfl ?_
    refine V_iconst 2112 B (v := 0) dL_law_2112 (by decide +kernel) ?_
    refine V_lald 2113 B (v := 130) 12 rfl (vpin _ _ (by decide +kernel)) dL_law_2113 rfl ?_
    refine V_iload 2114 B dL_law_2114 0 rfl ?_
    refine V_i2l 2116 B (v := 130) dL_law_2116 (by decide +kernel) ?_
    refine V_lcmp 2117 B (v := 0) dL_law_2117 (by decide +kernel) ?_
    refine V_if_eq_t 2118 B 2123 dL_law_2118 (by decide) (by decide +kernel) ?_
    refine V_goto 2123 B 3332 dL_law_2123 (by decide) ?_
    refine V_iinc 3332 B (v := 6) (lv2 := [(4, .int 6), (6, .int 130), (5, .int 0), (3, .ref o0), (2, .ref m0), (1, .ref x0), (0, .ref b)]) dL_law_3332 2 rfl (by decide +kernel) (by decide) rfl ?_
    refine V_goto 3335 B 23 dL_law_3335 (by decide) ?_
    refine V_iload 23 B dL_law_23 0 rfl ?_
    refine V_aload_n 25 B dL_law_25 6 rfl ?_
    refine V_slen 26 B hX hbl hbA (v := 6) (by decide +kernel) dL_law_26 ?_
    refine V_bipush 27 B (v := 6) dL_law_27 (by decide +kernel) ?_
    refine V_isub 29 B (v := 0) dL_law_29 (by decide +kernel) ?_
    refine V_icmp_gt_t 30 B 3338 dL_law_30 (by decide) (by decide +kernel) ?_
    exact law_end B (Nat.le_of_ble_eq_true rfl) (Nat.le_of_ble_eq_true rfl) dL_law_3338 dL_law_3339
