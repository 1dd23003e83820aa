theorem nat64 {P : Nat → Prop} (h0 : P 0) (h1 : P 1) (h2 : P 2) (h3 : P 3) (h4 : P 4) (h5 : P 5) (h6 : P 6) (h7 : P 7) (h8 : P 8) (h9 : P 9) (h10 : P 10) (h11 : P 11) (h12 : P 12) (h13 : P 13) (h14 : P 14) (h15 : P 15) (h16 : P 16) (h17 : P 17) (h18 : P 18) (h19 : P 19) (h20 : P 20) (h21 : P 21) (h22 : P 22) (h23 : P 23) (h24 : P 24) (h25 : P 25) (h26 : P 26) (h27 : P 27) (h28 : P 28) (h29 : P 29) (h30 : P 30) (h31 : P 31) (h32 : P 32) (h33 : P 33) (h34 : P 34) (h35 : P 35) (h36 : P 36) (h37 : P 37) (h38 : P 38) (h39 : P 39) (h40 : P 40) (h41 : P 41) (h42 : P 42) (h43 : P 43) (h44 : P 44) (h45 : P 45) (h46 : P 46) (h47 : P 47) (h48 : P 48) (h49 : P 49) (h50 : P 50) (h51 : P 51) (h52 : P 52) (h53 : P 53) (h54 : P 54) (h55 : P 55) (h56 : P 56) (h57 : P 57) (h58 : P 58) (h59 : P 59) (h60 : P 60) (h61 : P 61) (h62 : P 62) (h63 : P 63) : ∀ j, j < 64 → P j := by
  intro j hj
  rcases j with _ | j
  · exact h0
  rcases j with _ | j
  · exact h1
  rcases j with _ | j
  · exact h2
  rcases j with _ | j
  · exact h3
  rcases j with _ | j
  · exact h4
  rcases j with _ | j
  · exact h5
  rcases j with _ | j
  · exact h6
  rcases j with _ | j
  · exact h7
  rcases j with _ | j
  · exact h8
  rcases j with _ | j
  · exact h9
  rcases j with _ | j
  · exact h10
  rcases j with _ | j
  · exact h11
  rcases j with _ | j
  · exact h12
  rcases j with _ | j
  · exact h13
  rcases j with _ | j
  · exact h14
  rcases j with _ | j
  · exact h15
  rcases j with _ | j
  · exact h16
  rcases j with _ | j
  · exact h17
  rcases j with _ | j
  · exact h18
  rcases j with _ | j
  · exact h19
  rcases j with _ | j
  · exact h20
  rcases j with _ | j
  · exact h21
  rcases j with _ | j
  · exact h22
  rcases j with _ | j
  · exact h23
  rcases j with _ | j
  · exact h24
  rcases j with _ | j
  · exact h25
  rcases j with _ | j
  · exact h26
  rcases j with _ | j
  · exact h27
  rcases j with _ | j
  · exact h28
  rcases j with _ | j
  · exact h29
  rcases j with _ | j
  · exact h30
  rcases j with _ | j
  · exact h31
  rcases j with _ | j
  · exact h32
  rcases j with _ | j
  · exact h33
  rcases j with _ | j
  · exact h34
  rcases j with _ | j
  · exact h35
  rcases j with _ | j
  · exact h36
  rcases j with _ | j
  · exact h37
  rcases j with _ | j
  · exact h38
  rcases j with _ | j
  · exact h39
  rcases j with _ | j
  · exact h40
  rcases j with _ | j
  · exact h41
  rcases j with _ | j
  · exact h42
  rcases j with _ | j
  · exact h43
  rcases j with _ | j
  · exact h44
  rcases j with _ | j
  · exact h45
  rcases j with _ | j
  · exact h46
  rcases j with _ | j
  · exact h47
  rcases j with _ | j
  · exact h48
  rcases j with _ | j
  · exact h49
  rcases j with _ | j
  · exact h50
  rcases j with _ | j
  · exact h51
  rcases j with _ | j
  · exact h52
  rcases j with _ | j
  · exact h53
  rcases j with _ | j
  · exact h54
  rcases j with _ | j
  · exact h55
  rcases j with _ | j
  · exact h56
  rcases j with _ | j
  · exact h57
  rcases j with _ | j
  · exact h58
  rcases j with _ | j
  · exact h59
  rcases j with _ | j
  · exact h60
  rcases j with _ | j
  · exact h61
  rcases j with _ | j
  · exact h62
  rcases j with _ | j
  · exact h63
  omega
section VC
variable {p : Program} {l : Launch} {e : Env} {R : Room} {s : State} {m : MethodId} {args : Array Value} {below : List Frame} {meth : Method} {c : Code} {cells slots : Nat} {Q : State → Prop} {D : va_G} {Y : Nat → ClassId} {A : Nat → Prop} {cc : ByteArray} {nL : Nat} {own : String} {ret : Option FieldType} {lv : List (Nat × Value)} {st : List Value} {ws : va_W}
theorem V_wloopC {α : Type} (μ : α → Nat) (I : α → Prop) (lvf : α → List (Nat × Value)) (wsf : α → va_W) (cf sf : α → Nat) (a0 : α) (h0 : I a0) (e1 : lvf a0 = lv) (e2 : wsf a0 = ws) (e3 : cf a0 = cells) (e4 : sf a0 = slots) {pc : Nat} (step : ∀ a : α, I a → (∀ b : α, I b → μ b < μ a → V p l e R s m args below meth c D A nL (cf b) (sf b) Q pc (lvf b) st (wsf b)) → V p l e R s m args below meth c D A nL (cf a) (sf a) Q pc (lvf a) st (wsf a)) : V p l e R s m args below meth c D A nL cells slots Q pc lv st ws := by
  subst e1
  subst e2
  subst e3
  subst e4
  have K : ∀ (n : Nat) (a : α), μ a < n → I a → V p l e R s m args below meth c D A nL (cf a) (sf a) Q pc (lvf a) st (wsf a) := by
    intro n
    induction n with
    | zero =>
      intro a h
      exact absurd h (Nat.not_lt_zero _)
    | succ n ih =>
      intro a h hI
      exact step a hI (fun b hb hm => ih b (by omega) hb)
  exact K _ a0 (Nat.lt_succ_self _) h0
end VC
theorem INV_z0 : INV (fun _ => 0) (clB 0 (fun _ => 0)) := by
  intro k hk
  have z : ∀ j, j < 906 → j ≠ 16 → (bdF j).1 ≤ (0 : Int32).toInt ∧ (0 : Int32).toInt ≤ (bdF j).2 := by decide +kernel
  have w : ∀ k, k < 3640 → 906 ≤ k → ¬ bd k = (1, 0) → (bd k).1 ≤ (0 : Int32).toInt ∧ (0 : Int32).toInt ≤ (bd k).2 := by
    intro k h1 h2 h3
    by_cases q : k < 3624
    · have e := bd_blk (j := k % 906) (by omega) (k / 906) (by omega)
      by_cases r : k % 906 = 16
      · exact absurd (by unfold bd; rw [if_pos (by omega)]) h3
      · have e := e (fun y => absurd y r)
        rw [show 906 * (k / 906) + k % 906 = k by omega] at e
        rw [e]
        exact z _ (by omega) r
    · unfold bd
      rw [if_neg (by omega), if_neg q]
      by_cases r : k = 3624 ∨ k = 3629
      · rw [if_pos r]
        decide
      · rw [if_neg r]
        decide
  unfold clB
  by_cases q3 : k = 906 * 0 + 16
  · subst q3
    rw [upd_at]
    exact ⟨fun _ => by decide +kernel, fun n => absurd n (by decide +kernel)⟩
  · rw [upd_ne q3]
    by_cases q2 : k = 906 * 0 + 11
    · subst q2
      rw [upd_at]
      exact ⟨fun _ => by decide +kernel, fun n => absurd n (by decide +kernel)⟩
    · rw [upd_ne q2]
      by_cases q1 : k = 906 * 0 + 0
      · subst q1
        rw [upd_at]
        exact ⟨fun _ => by decide +kernel, fun n => absurd n (by decide +kernel)⟩
      · rw [upd_ne q1]
        have e0 : zrB 0 906 (fun _ => (0 : Int32)) k = 0 := by
          unfold zrB
          by_cases q : 906 * 0 ≤ k ∧ k < 906 * 0 + 906
          · rw [if_pos q]
          · rw [if_neg q]
        rw [e0]
        refine ⟨fun n => ?_, fun _ => rfl⟩
        by_cases q : k < 906
        · have e := bd_blk (j := k) q 0 (by omega) (fun _ => rfl)
          rw [show 906 * 0 + k = k by omega] at e
          rw [e]
          exact z _ q (by omega)
        · exact w k hk (by omega) n
