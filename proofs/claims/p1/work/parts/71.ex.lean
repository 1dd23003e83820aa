theorem law_EX {s : State} {A : Array Value} (hts : ∀ w ∈ lw_tbl, w.before A s = true) (hgv : (Jvm.Cond.and given_1 narrow_1).before A s = true) : EX (fun q => s.heap.size ≤ q) s s.heap := by
  have hn := flat_of_before _ hgv
  have z_UNASSIGNED_STACK : vx_Zq Bundle.tN "UNASSIGNED_STACK" "[Ljava/lang/StackTraceElement;" (fun q => s.heap.size ≤ q) s s.heap := vx_Zqof (args := A) (hts _ (mU5 58 rfl)) (hts _ (mU1 19 rfl)) (hn (.isRef (.static "java/lang/Throwable" "UNASSIGNED_STACK" "[Ljava/lang/StackTraceElement;")) (by decide +kernel)) (fun a h z => absurd h (Nat.not_lt.mpr z))
  have z_SUPPRESSED_SENTINEL : vx_Zq Bundle.tN "SUPPRESSED_SENTINEL" "Ljava/util/List;" (fun q => s.heap.size ≤ q) s s.heap := vx_Zqof (args := A) (hts _ (mU5 60 rfl)) (hts _ (mU1 19 rfl)) (hn (.isRef (.static "java/lang/Throwable" "SUPPRESSED_SENTINEL" "Ljava/util/List;")) (by decide +kernel)) (fun a h z => absurd h (Nat.not_lt.mpr z))
  obtain ⟨tk, htk, hTk⟩ := va_Tof (A := fun q => s.heap.size ≤ q) (args := A) (s := s) (tm := (.static "ShortcutBook$Sequences" "KEY_COSTS" "[I")) (ty := .int) (N := 26) (f := fun j => .int (kci j)) (by decide) (hn (.arrayOf (.static "ShortcutBook$Sequences" "KEY_COSTS" "[I") .int) (by decide +kernel)) (va_eqt (hn (.eq (.length (.static "ShortcutBook$Sequences" "KEY_COSTS" "[I")) (.int 26)) (by decide +kernel))) (fun j hj => va_eqt (hn (.eq (.elem (.static "ShortcutBook$Sequences" "KEY_COSTS" "[I") (.int (Int32.ofNat j))) (.int (kci j))) (by revert j; decide +kernel))) (fun a h z => absurd h (Nat.not_lt.mpr z))
  have hZk := va_Zref (A := fun q => s.heap.size ≤ q) (hts _ (mU4 4 rfl)) (hts _ (mU1 18 rfl)) htk (fun a h z => absurd h (Nat.not_lt.mpr z))
  refine ⟨z_UNASSIGNED_STACK, z_SUPPRESSED_SENTINEL, ?_, ?_, ?_, ?_, tk, hZk, hTk⟩
  · intro q hq
    simp only [strs11, List.mem_cons, List.not_mem_nil, or_false] at hq
    rcases hq with rfl | rfl | rfl | rfl | rfl | rfl | rfl | rfl | rfl | rfl | rfl | rfl | rfl | rfl | rfl
    · obtain ⟨a, -, -, -, ha, -⟩ := Cond.exactly_spec (hn (.exactly (.string "ShortcutBook" 192) "java/lang/String") (by decide +kernel))
      exact ⟨a, vk_R.of (A := A) (hts _ (mU5 177 rfl)) ha⟩
    · obtain ⟨a, -, -, -, ha, -⟩ := Cond.exactly_spec (hn (.exactly (.string "ShortcutBook" 227) "java/lang/String") (by decide +kernel))
      exact ⟨a, vk_R.of (A := A) (hts _ (mU5 200 rfl)) ha⟩
    · obtain ⟨a, -, -, -, ha, -⟩ := Cond.exactly_spec (hn (.exactly (.string "ShortcutBook" 262) "java/lang/String") (by decide +kernel))
      exact ⟨a, vk_R.of (A := A) (hts _ (mU6 145 rfl)) ha⟩
    · obtain ⟨a, -, -, -, ha, -⟩ := Cond.exactly_spec (hn (.exactly (.string "ShortcutBook" 294) "java/lang/String") (by decide +kernel))
      exact ⟨a, vk_R.of (A := A) (hts _ (mU6 226 rfl)) ha⟩
    · obtain ⟨a, -, -, -, ha, -⟩ := Cond.exactly_spec (hn (.exactly (.string "ShortcutBook" 308) "java/lang/String") (by decide +kernel))
      exact ⟨a, vk_R.of (A := A) (hts _ (mU6 176 rfl)) ha⟩
    · obtain ⟨a, -, -, -, ha, -⟩ := Cond.exactly_spec (hn (.exactly (.string "ShortcutBook" 332) "java/lang/String") (by decide +kernel))
      exact ⟨a, vk_R.of (A := A) (hts _ (mU7 45 rfl)) ha⟩
    · obtain ⟨a, -, -, -, ha, -⟩ := Cond.exactly_spec (hn (.exactly (.string "ShortcutBook" 362) "java/lang/String") (by decide +kernel))
      exact ⟨a, vk_R.of (A := A) (hts _ (mU7 86 rfl)) ha⟩
    · obtain ⟨a, -, -, -, ha, -⟩ := Cond.exactly_spec (hn (.exactly (.string "ShortcutBook" 382) "java/lang/String") (by decide +kernel))
      exact ⟨a, vk_R.of (A := A) (hts _ (mU7 95 rfl)) ha⟩
    · obtain ⟨a, -, -, -, ha, -⟩ := Cond.exactly_spec (hn (.exactly (.string "ShortcutBook" 393) "java/lang/String") (by decide +kernel))
      exact ⟨a, vk_R.of (A := A) (hts _ (mU7 126 rfl)) ha⟩
    · obtain ⟨a, -, -, -, ha, -⟩ := Cond.exactly_spec (hn (.exactly (.string "ShortcutBook" 398) "java/lang/String") (by decide +kernel))
      exact ⟨a, vk_R.of (A := A) (hts _ (mU5 161 rfl)) ha⟩
    · obtain ⟨a, -, -, -, ha, -⟩ := Cond.exactly_spec (hn (.exactly (.string "ShortcutBook" 403) "java/lang/String") (by decide +kernel))
      exact ⟨a, vk_R.of (A := A) (hts _ (mU5 192 rfl)) ha⟩
    · obtain ⟨a, -, -, -, ha, -⟩ := Cond.exactly_spec (hn (.exactly (.string "ShortcutBook" 408) "java/lang/String") (by decide +kernel))
      exact ⟨a, vk_R.of (A := A) (hts _ (mU5 145 rfl)) ha⟩
    · obtain ⟨a, -, -, -, ha, -⟩ := Cond.exactly_spec (hn (.exactly (.string "ShortcutBook" 410) "java/lang/String") (by decide +kernel))
      exact ⟨a, vk_R.of (A := A) (hts _ (mU7 21 rfl)) ha⟩
    · obtain ⟨a, -, -, -, ha, -⟩ := Cond.exactly_spec (hn (.exactly (.string "ShortcutBook" 412) "java/lang/String") (by decide +kernel))
      exact ⟨a, vk_R.of (A := A) (hts _ (mU7 36 rfl)) ha⟩
    · obtain ⟨a, -, -, -, ha, -⟩ := Cond.exactly_spec (hn (.exactly (.string "ShortcutBook" 417) "java/lang/String") (by decide +kernel))
      exact ⟨a, vk_R.of (A := A) (hts _ (mU5 73 rfl)) ha⟩
  · intro E hE
    simp only [excs, List.mem_cons, List.not_mem_nil, or_false] at hE
    rcases hE with rfl | rfl | rfl
    · exact va_Nw.of rfl (hts _ (mU5 33 rfl))
    · exact va_Nw.of rfl (hts _ (mU5 138 rfl))
    · exact va_Nw.of rfl (hts _ (mU6 219 rfl))
  · intro q hq
    simp only [ncps, List.mem_cons, List.not_mem_nil, or_false] at hq
    rcases hq with rfl | rfl | rfl
    · exact va_Nc.of (hn (.not (.castable "java/lang/IndexOutOfBoundsException" "java/lang/IllegalArgumentException")) (by decide +kernel))
    · exact va_Nc.of (hn (.not (.castable "java/lang/IllegalArgumentException" "java/lang/IndexOutOfBoundsException")) (by decide +kernel))
    · exact va_Nc.of (hn (.not (.castable "java/lang/ArithmeticException" "java/lang/IndexOutOfBoundsException")) (by decide +kernel))
  · intro y hy
    simp only [decs, List.mem_cons, List.not_mem_nil, or_false] at hy
    rcases hy with rfl | rfl | rfl
    · exact va_Nw.of rfl (hts _ (mU5 35 rfl))
    · exact va_Nw.of rfl (hts _ (mU5 37 rfl))
    · exact va_Nw.of rfl (hts _ (mU5 39 rfl))
