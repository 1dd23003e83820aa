theorem mU1 (k : Nat) {w : Cond} (h : tables_1_1[k]? = some w) : w ∈ lw_tbl := List.mem_append_right _ (by unfold tables_1; exact List.mem_append_left _ (List.mem_of_getElem? h))
theorem mU2 (k : Nat) {w : Cond} (h : tables_1_2[k]? = some w) : w ∈ lw_tbl := List.mem_append_right _ (by unfold tables_1; exact List.mem_append_right _ (List.mem_append_left _ (List.mem_of_getElem? h)))
theorem mU3 (k : Nat) {w : Cond} (h : tables_1_3[k]? = some w) : w ∈ lw_tbl := List.mem_append_right _ (by unfold tables_1; exact List.mem_append_right _ (List.mem_append_right _ (List.mem_append_left _ (List.mem_of_getElem? h))))
theorem mU4 (k : Nat) {w : Cond} (h : tables_1_4[k]? = some w) : w ∈ lw_tbl := List.mem_append_right _ (by unfold tables_1; exact List.mem_append_right _ (List.mem_append_right _ (List.mem_append_right _ (List.mem_append_left _ (List.mem_of_getElem? h)))))
theorem mU5 (k : Nat) {w : Cond} (h : tables_1_5[k]? = some w) : w ∈ lw_tbl := List.mem_append_right _ (by unfold tables_1; exact List.mem_append_right _ (List.mem_append_right _ (List.mem_append_right _ (List.mem_append_right _ (List.mem_append_left _ (List.mem_of_getElem? h))))))
theorem mU6 (k : Nat) {w : Cond} (h : tables_1_6[k]? = some w) : w ∈ lw_tbl := List.mem_append_right _ (by unfold tables_1; exact List.mem_append_right _ (List.mem_append_right _ (List.mem_append_right _ (List.mem_append_right _ (List.mem_append_right _ (List.mem_append_left _ (List.mem_of_getElem? h)))))))
theorem mU7 (k : Nat) {w : Cond} (h : tables_1_7[k]? = some w) : w ∈ lw_tbl := List.mem_append_right _ (by unfold tables_1; exact List.mem_append_right _ (List.mem_append_right _ (List.mem_append_right _ (List.mem_append_right _ (List.mem_append_right _ (List.mem_append_right _ (List.mem_append_left _ (List.mem_of_getElem? h))))))))
theorem mU8 (k : Nat) {w : Cond} (h : tables_1_8[k]? = some w) : w ∈ lw_tbl := List.mem_append_right _ (by unfold tables_1; exact List.mem_append_right _ (List.mem_append_right _ (List.mem_append_right _ (List.mem_append_right _ (List.mem_append_right _ (List.mem_append_right _ (List.mem_append_right _ (List.mem_append_left _ (List.mem_of_getElem? h)))))))))
theorem mU9 (k : Nat) {w : Cond} (h : tables_1_9[k]? = some w) : w ∈ lw_tbl := List.mem_append_right _ (by unfold tables_1; exact List.mem_append_right _ (List.mem_append_right _ (List.mem_append_right _ (List.mem_append_right _ (List.mem_append_right _ (List.mem_append_right _ (List.mem_append_right _ (List.mem_append_right _ (List.mem_append_left _ (List.mem_of_getElem? h))))))))))
theorem mU10 (k : Nat) {w : Cond} (h : tables_1_10[k]? = some w) : w ∈ lw_tbl := List.mem_append_right _ (by unfold tables_1; exact List.mem_append_right _ (List.mem_append_right _ (List.mem_append_right _ (List.mem_append_right _ (List.mem_append_right _ (List.mem_append_right _ (List.mem_append_right _ (List.mem_append_right _ (List.mem_append_right _ ((List.mem_of_getElem? h)))))))))))
theorem inw_J0 : ∀ w ∈ u_ws RJ0 TJ0 2, w ∈ lw_good := by decide +kernel
theorem inw_Jx00060 : ∀ w ∈ u_ws RJx00060 TJx00060 6, w ∈ lw_good := by decide +kernel
theorem law_K {s : State} {A : Array Value} (hg : ∀ w ∈ lw_good, w.before A s = true) (hts : ∀ w ∈ lw_tbl, w.before A s = true) : ∃ (D : va_G) (Y : Nat → ClassId), va_K D vwCl (tysA Y) s := by
  obtain ⟨c0, i0, k0⟩ := u_known (ws := lw_good) (C := RJ0) (T := TJ0) (N := 2) (n := 4) hg inw_J0 (hts _ (mU5 122 rfl))
  obtain ⟨c1, i1, k1⟩ := u_known (ws := lw_good) (C := RJx00060) (T := TJx00060) (N := 6) (n := 6) hg inw_Jx00060 (hts _ (mU5 104 rfl))
  obtain ⟨c2, i2, k2⟩ := u_known (ws := lw_good) (C := RX0) (T := TX0) (N := 12) (n := 12) hg inw_X0 (hts _ (mU1 37 rfl))
  obtain ⟨c3, i3, k3⟩ := u_known (ws := lw_good) (C := RX1) (T := TX1) (N := 2) (n := 2) hg inw_X1 (hts _ (mU1 43 rfl))
  obtain ⟨c4, i4, k4⟩ := u_known (ws := lw_good) (C := RX2) (T := TX2) (N := 4) (n := 4) hg inw_X2 (hts _ (mU1 75 rfl))
  obtain ⟨c5, i5, k5⟩ := u_known (ws := lw_good) (C := RX3) (T := TX3) (N := 3) (n := 3) hg inw_X3 (hts _ (mU2 78 rfl))
  obtain ⟨c6, i6, k6⟩ := u_known (ws := lw_good) (C := RX4) (T := TX4) (N := 7) (n := 7) hg inw_X4 (hts _ (mU2 96 rfl))
  obtain ⟨c7, i7, k7⟩ := u_known (ws := lw_good) (C := RX5) (T := TX5) (N := 2) (n := 2) hg inw_X5 (hts _ (mU1 60 rfl))
  obtain ⟨c8, i8, k8⟩ := u_known (ws := lw_good) (C := RX7) (T := TX7) (N := 9) (n := 9) hg inw_X7 (hts _ (mU2 31 rfl))
  obtain ⟨c9, i9, k9⟩ := u_known (ws := lw_good) (C := RX8) (T := TX8) (N := 9) (n := 9) hg inw_X8 (hts _ (mU1 103 rfl))
  obtain ⟨c10, i10, k10⟩ := u_known (ws := lw_good) (C := RX9) (T := TX9) (N := 2) (n := 2) hg inw_X9 (hts _ (mU2 18 rfl))
  obtain ⟨c11, i11, k11⟩ := u_known (ws := lw_good) (C := RX10) (T := TX10) (N := 5) (n := 5) hg inw_X10 (hts _ (mU1 231 rfl))
  obtain ⟨c12, i12, k12⟩ := u_known (ws := lw_good) (C := RX11) (T := TX11) (N := 10) (n := 10) hg inw_X11 (hts _ (mU1 29 rfl))
  obtain ⟨c13, i13, k13⟩ := u_known (ws := lw_good) (C := RX12) (T := TX12) (N := 17) (n := 17) hg inw_X12 (hts _ (mU7 128 rfl))
  obtain ⟨y0, ka0, co0, e01, e02, e03⟩ := Cond.arrayClass_spec (type := .int) (hts _ (mU1 58 rfl))
  obtain ⟨y1, ka1, co1, e11, e12, e13⟩ := Cond.arrayClass_spec (type := .long) (hts _ (mU1 73 rfl))
  obtain ⟨y2, ka2, co2, e21, e22, e23⟩ := Cond.arrayClass_spec (type := .byte) (hts _ (mU2 76 rfl))
  obtain ⟨y3, ka3, co3, e31, e32, e33⟩ := Cond.arrayClass_spec (type := .boolean) (hts _ (mU7 189 rfl))
  refine ⟨(fun c => [c0, c1, c2, c3, c4, c5, c6, c7, c8, c9, c10, c11, c12, c13].getD c c0, fun c => [i0, i1, i2, i3, i4, i5, i6, i7, i8, i9, i10, i11, i12, i13].getD c i0), fun k => [y0, y1, y2, y3].getD k y0, ?_, ?_⟩
  · intro c q hq
    rcases c with _ | c
    · cases hq
      exact k0
    rcases c with _ | c
    · cases hq
      exact k1
    rcases c with _ | c
    · cases hq
      exact k2
    rcases c with _ | c
    · cases hq
      exact k3
    rcases c with _ | c
    · cases hq
      exact k4
    rcases c with _ | c
    · cases hq
      exact k5
    rcases c with _ | c
    · cases hq
      exact k6
    rcases c with _ | c
    · cases hq
      exact k7
    rcases c with _ | c
    · cases hq
      exact k8
    rcases c with _ | c
    · cases hq
      exact k9
    rcases c with _ | c
    · cases hq
      exact k10
    rcases c with _ | c
    · cases hq
      exact k11
    rcases c with _ | c
    · cases hq
      exact k12
    rcases c with _ | c
    · cases hq
      exact k13
    simp at hq
  · intro k q hq
    rcases k with _ | k
    · cases hq
      exact ⟨fun n z => ⟨fun k h => (by cases h), ka0, e02, co0, e03⟩, e01⟩
    rcases k with _ | k
    · cases hq
      exact ⟨fun n z => ⟨fun k h => (by cases h), ka1, e12, co1, e13⟩, e11⟩
    rcases k with _ | k
    · cases hq
      exact ⟨fun n z => ⟨fun k h => (by cases h), ka2, e22, co2, e23⟩, e21⟩
    rcases k with _ | k
    · cases hq
      exact ⟨fun n z => ⟨fun k h => (by cases h), ka3, e32, co3, e33⟩, e31⟩
    simp at hq
