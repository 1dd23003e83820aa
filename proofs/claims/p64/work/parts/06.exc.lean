/-! EXCEPTIONS IN THE V-LAYER -/
def strs11 : List (Nat × String) := [(192, "no such kind"), (227, "no such reserved sequence"), (262, "both modes are one"), (294, "no visible binding"), (308, "no such length"), (332, "no such set of modifiers"), (362, "no such number of ticks"), (382, "no such timeout"), (393, "no such wish"), (398, "no such mode"), (403, "no such command"), (408, "no such binding"), (410, "no such layer"), (412, "no such key"), (417, "no such stroke")]
def StrOK (U : State) : Prop := ∀ q ∈ strs11, ∃ a : Nat, vk_R RX11 q.1 q.2 a U
def excs : List String := ["java/lang/IllegalArgumentException", "java/lang/IndexOutOfBoundsException", "java/lang/ArithmeticException"]
def ncps : List (String × String) := [("java/lang/IndexOutOfBoundsException", "java/lang/IllegalArgumentException"), ("java/lang/IllegalArgumentException", "java/lang/IndexOutOfBoundsException"), ("java/lang/ArithmeticException", "java/lang/IndexOutOfBoundsException")]
def decs : List MethodName := [Bundle.initS "java/lang/RuntimeException", Bundle.initS "java/lang/Exception", Bundle.initS Bundle.tN]
def ngw (cls : String) : List Cond := Cond.castable cls cls :: decs.map Cond.declares
def kcl : List Int32 := [1, 3, 3, 1, 2, 1, 1, 1, 2, 1, 1, 1, 3, 3, 2, 2, 2, 2, 1, 2, 2, 3, 2, 3, 2, 3]
def kci (j : Nat) : Int32 := kcl.getD j 0
def KC (A : Nat → Prop) (U : State) (H : Heap) : Prop := ∃ t : Nat, va_Z "ShortcutBook$Sequences" "KEY_COSTS" "[I" (.ref t) A U H ∧ va_T .int t 26 (fun j => .int (kci j)) A U H
def rstrs : List (String × Nat × String) := [("ShortcutBook$Reader", 67, "mode"), ("ShortcutBook$Reader", 76, "plain"), ("ShortcutBook$Reader", 82, "switch"), ("ShortcutBook$Reader", 84, "back"), ("ShortcutBook$Reader", 86, "reserve"), ("ShortcutBook$Reader", 91, "bind"), ("ShortcutBook$Reader", 96, "layer"), ("ShortcutBook$Reader", 101, "timeout"), ("ShortcutBook$Script", 62, "press"), ("ShortcutBook$Script", 68, "release"), ("ShortcutBook$Script", 70, "hold"), ("ShortcutBook$Script", 72, "tick"), ("ShortcutBook$Script", 74, "unbind"), ("ShortcutBook$Script", 76, "type"), ("ShortcutBook$Script", 78, "bind"), ("ShortcutBook$Script", 80, "force")]
abbrev tSt : String := "java/lang/String"
/-- a String that lies outside what is ours: its array b of n bytes -/
def SFb (t b n : Nat) (f : Nat → Int32) (A : Nat → Prop) (U : State) (H : Heap) : Prop := n < 2 ^ 31 ∧ va_O tSt t A U H ∧ va_OF tSt "coder" "B" (.int 0) t A U H ∧ va_OF tSt "value" "[B" (.ref b) t A U H ∧ va_T .byte b n (fun j => .int (f j)) A U H
theorem SFb.moved {t b n : Nat} {f : Nat → Int32} {A : Nat → Prop} {u U : State} {H : Heap} (hvm : u.vm.Alike U.vm) (h : SFb t b n f A u H) : SFb t b n f A U H := ⟨h.1, va_O.moved hvm h.2.1, va_OF.moved hvm h.2.2.1, va_OF.moved hvm h.2.2.2.1, va_T.moved hvm h.2.2.2.2⟩
theorem SFb.kept {t b n : Nat} {f : Nat → Int32} {A : Nat → Prop} {U : State} {H H1 : Heap} (h : SFb t b n f A U H) (hq : ∀ a : Nat, a < H.size → ¬ A a → H1[a]? = H[a]?) : SFb t b n f A U H1 := ⟨h.1, h.2.1.kept hq, h.2.2.1.kept hq, h.2.2.2.1.kept hq, h.2.2.2.2.kept hq⟩
theorem SFb.narrow {t b n : Nat} {f : Nat → Int32} {A B : Nat → Prop} {U : State} {H : Heap} (h : SFb t b n f A U H) (hAB : ∀ q, B q → A q) : SFb t b n f B U H := ⟨h.1, h.2.1.narrow hAB, h.2.2.1.narrow hAB, h.2.2.2.1.narrow hAB, h.2.2.2.2.narrow hAB⟩
theorem SFb.call {t b n : Nat} {f : Nat → Int32} {A A1 : Nat → Prop} {s U : State} {H : Heap} {locs : List Loc} (h : SFb t b n f A s s.heap) (hS : va_S A s.heap H locs) (hA : ∀ q, A1 q → A q) (hU : U.heap = H) (hW : s.WarmedH U.vm) : SFb t b n f A1 U U.heap := by
  rw [hU]
  exact SFb.moved hW.alike ((h.kept hS.2.1).narrow hA)
def ST (A : Nat → Prop) (U : State) (H : Heap) : Prop := (∀ q ∈ rstrs, ∃ (t b n : Nat) (f : Nat → Int32), vk_R q.1 q.2.1 q.2.2 t U ∧ SFb t b n f A U H) ∧ va_Z tSt "COMPACT_STRINGS" "Z" (.int 1) A U H ∧ va_Zq "jdk/internal/util/Preconditions" "SIOOBE_FORMATTER" "Ljava/util/function/BiFunction;" A U H
theorem ST.call {A A1 : Nat → Prop} {s U : State} {H : Heap} {locs : List Loc} (h : ST A s s.heap) (hS : va_S A s.heap H locs) (hA : ∀ q, A1 q → A q) (hU : U.heap = H) (hW : s.WarmedH U.vm) : ST A1 U U.heap := by
  obtain ⟨h1, h2, h3⟩ := h
  refine ⟨fun q hq => ?_, ?_, ?_⟩
  · obtain ⟨t, b, n, f, k1, k2⟩ := h1 q hq
    exact ⟨t, b, n, f, vk_R.warm hW k1, k2.call hS hA hU hW⟩
  · rw [hU]
    exact va_Z.moved hW.alike ((h2.kept hS.2.1).narrow hA)
  · rw [hU]
    exact va_Zq.moved hW.alike ((h3.kept hS.2.1).narrow hA)
theorem ST.same {A : Nat → Prop} {u U : State} {H : Heap} (hv : U.vm = u.vm) (h : ST A u H) : ST A U H := by
  have ha : u.vm.Alike U.vm := by
    rw [hv]
    exact Vm.Alike.refl u.vm
  obtain ⟨h1, h2, h3⟩ := h
  refine ⟨fun q hq => ?_, va_Z.moved ha h2, va_Zq.moved ha h3⟩
  obtain ⟨t, b, n, f, k1, k2⟩ := h1 q hq
  exact ⟨t, b, n, f, vk_R.same hv k1, k2.moved ha⟩
def EX (A : Nat → Prop) (U : State) (H : Heap) : Prop := vx_Zq Bundle.tN "UNASSIGNED_STACK" Bundle.steD A U H ∧ vx_Zq Bundle.tN "SUPPRESSED_SENTINEL" Bundle.listD A U H ∧ StrOK U ∧ (∀ E ∈ excs, va_Nw (.castable E E) U) ∧ (∀ q ∈ ncps, va_Nc q.1 q.2 U) ∧ (∀ y ∈ decs, va_Nw (.declares y) U) ∧ KC A U H ∧ ST A U H
theorem EX.call {A A1 : Nat → Prop} {s U : State} {H : Heap} {locs : List Loc} (h : EX A s s.heap) (hS : va_S A s.heap H locs) (hA : ∀ q, A1 q → A q) (hU : U.heap = H) (hW : s.WarmedH U.vm) : EX A1 U U.heap := by
  obtain ⟨h1, h2, h3, h4, h5, h6, ⟨t, h7, h8⟩, h9⟩ := h
  have k9 := h9.call hS hA hU hW
  rw [hU] at k9 ⊢
  exact ⟨vx_Zq.moved hW.alike ((h1.kept hS.2.1).narrow hA), vx_Zq.moved hW.alike ((h2.kept hS.2.1).narrow hA), fun q hq => by
    obtain ⟨a, ha⟩ := h3 q hq
    exact ⟨a, vk_R.warm hW ha⟩, fun E hE => va_Nw.warmC hW (h4 E hE), fun q hq => va_Nc.moved hW.alike (h5 q hq), fun y hy => va_Nw.warmD hW (h6 y hy), ⟨t, va_Z.moved hW.alike ((h7.kept hS.2.1).narrow hA), va_T.moved hW.alike ((h8.kept hS.2.1).narrow hA)⟩, k9⟩
abbrev PreX (D : va_G) (Y : Nat → ClassId) (As : List Value) (wc : va_W) (sz : Nat) : Array Value → State → Prop := va_Pc As (fun U => U.heap.size = sz ∧ va_P D vwCl wc U.heap ∧ va_K D vwCl (tysA Y) U ∧ va_D (fun _ => True) wc ∧ EX (va_A wc sz) U U.heap)
theorem PreX_blind {D : va_G} {Y : Nat → ClassId} {As : List Value} {wc : va_W} {sz : Nat} : FrameBlind (PreX D Y As wc sz) := fun a U g mk q => by
  obtain ⟨q0, q1, qP, qK, qD, e1, e2, e3, e4, e5, e6, ⟨t, e7, e8⟩, e9⟩ := q
  exact ⟨q0, q1, qP, va_K.moved (u := U) (U := U.calling g mk a) (Vm.Alike.refl U.vm) qK, qD, vx_Zq.moved (u := U) (U := U.calling g mk a) (Vm.Alike.refl U.vm) e1, vx_Zq.moved (u := U) (U := U.calling g mk a) (Vm.Alike.refl U.vm) e2, fun q hq => by
    obtain ⟨a9, ha⟩ := e3 q hq
    exact ⟨a9, vk_R.same (u := U) (U := U.calling g mk a) rfl ha⟩, fun E hE => va_Nw.same rfl (u := U) (U := U.calling g mk a) rfl (e4 E hE), fun q hq => va_Nc.moved (u := U) (U := U.calling g mk a) (Vm.Alike.refl U.vm) (e5 q hq), fun y hy => va_Nw.same rfl (u := U) (U := U.calling g mk a) rfl (e6 y hy), ⟨t, va_Z.moved (u := U) (U := U.calling g mk a) (Vm.Alike.refl U.vm) e7, va_T.moved (u := U) (U := U.calling g mk a) (Vm.Alike.refl U.vm) e8⟩, ST.same (u := U) (U := U.calling g mk a) rfl e9⟩
abbrev XW {S : Type} (D : va_G) (pe : String → S → Prop) (wf : S → va_W) (A : Nat → Prop) : String → State → State → Prop := vx_X (fun _ : S => True) (fun E u t => pe E u ∧ AtC D A wf u t) A
def VX (p : Program) (l : Launch) (e : Env) (R : Room) (s : State) (m : MethodId) (args : Array Value) (below : List Frame) (meth : Method) (c : Code) (D : va_G) (A : Nat → Prop) (nL cells slots : Nat) (Q : State → Prop) (pc : Nat) (lv : List (Nat × Value)) (st : List Value) (ws : va_W) (E : String) : Prop :=
  ∀ (H : Heap) (locs : List Loc) (ls : Array Slot) (ce : Cell) (q : Addr), lv_has ls nL lv → va_P D vwCl ws H → va_D A ws → va_S A s.heap H locs → H[q]? = some ce → ce.vm = .none → s.vm.findClass E = some ce.cls → vx_W p l e R s m args below meth c H locs cells slots Q (F0 m pc ls st) q
theorem xmet_of {l : Launch} {y : MethodName} {cc : ByteArray} {maxL : Nat} {ret : Option FieldType} {rm : Room} {D : va_G} {Y : Nat → ClassId} {As : List Value} {wc : va_W} {sz mc ms : Nat} {Qc : Array Value → State → Outcome → State → Prop} {XC : String → State → State → Prop}
    (hy : plainName y.cls = true) (hlen : (lg_sl As).length ≤ maxL)
    (body : ∀ (p : Program) (e : Env) (s : State) (m : MethodId) (args : Array Value) (below : List Frame) (meth : Method) (c : Code), VB p s m args meth c D Y (va_A wc sz) cc maxL y.cls ret → EX (va_A wc sz) s s.heap → (∀ x ∈ c.exceptionTable.toList, False) → s.heap.size = sz →
      V p l e rm s m args below meth c D (va_A wc sz) maxL 0 0 (vx_MQ below Qc XC args s mc ms (va_A wc sz)) 0 (lv_args 0 As) [] wc) :
    vx_Met l y (WSm y cc maxL ret) rm (PreX D Y As wc sz) Qc XC mc ms (va_A wc sz) := by
  refine vx_ofW (cc := cc) (maxL := maxL) (ret := ret) hy rfl ?_
  intro p e s m args below meth c s₁ B hml ht hv
  obtain ⟨rfl, hsz, hP, hK, hD0, hE⟩ := hv
  have hl := lv_entry As hlen
  rw [lg_entry_eq]
  exact body p e s m _ below meth c (VB_of B hml hK (fun q h => Or.inr (by omega))) hE ht hsz s.heap [] _ hl hP hD0.self va_S.rf
/-- a contract of a body with handlers that throws nothing -/
theorem metH_of {l : Launch} {y : MethodName} {cc : ByteArray} {maxL : Nat} {ret : Option FieldType} {hh : List (Nat × Nat × Nat × Nat)} {rm : Room} {D : va_G} {Y : Nat → ClassId} {As : List Value} {wc : va_W} {sz mc ms : Nat} {Qc : Array Value → State → Outcome → State → Prop}
    (hy : plainName y.cls = true) (hlen : (lg_sl As).length ≤ maxL)
    (body : ∀ (p : Program) (e : Env) (s : State) (m : MethodId) (args : Array Value) (below : List Frame) (meth : Method) (c : Code), VB p s m args meth c D Y (va_A wc sz) cc maxL y.cls ret → EX (va_A wc sz) s s.heap → c.exceptionTable.toList = tableOf hh → s.heap.size = sz →
      V p l e rm s m args below meth c D (va_A wc sz) maxL 0 0 (MQ below Qc args s mc ms (va_A wc sz)) 0 (lv_args 0 As) [] wc) :
    Met l y (Cond.codeWith y cc maxL ret hh :: lw_good) rm (PreX D Y As wc sz) Qc mc ms (va_A wc sz) := by
  refine MetFree.of_bodyS (code := cc) (maxLocals := maxL) (ret := ret) hy ?_ ?_
  · intro args s m h hn
    obtain ⟨m9, meth, c, hn9, h1, h2, h3, h4, -, h5, h6, -⟩ := Cond.codeWith_spec (atoms_spec (ws := Cond.codeWith y cc maxL ret hh :: lw_good) h _ List.mem_cons_self)
    cases hn.symm.trans hn9
    first | exact ⟨meth, c, h1, h2, h3, h4, h5, h6⟩ | (refine ⟨meth, c, h1, h2, h3, h4, ?_, ?_⟩ <;> first | assumption | (rw [← h6]; assumption) | simp_all)
  · intro p e s m args below meth c s₁ B hml hP _
    have hh0 : s₁.heap = s.heap := by rw [B.state]; rfl
    obtain ⟨rfl, hsz, hP, hK, hD0, hE⟩ := hP
    have hw := atoms_spec (ws := Cond.codeWith y cc maxL ret hh :: lw_good) B.pre _ List.mem_cons_self
    have hl := lv_entry As hlen
    have hVB : VB p s m As.toArray meth c D Y (va_A wc sz) cc maxL y.cls ret := ⟨⟨B.exec, B.bytes, hml, findClass_of_methodNamed B.named, fun w hw => atoms_spec (ws := Cond.codeWith y cc maxL ret hh :: lw_good) B.pre w (List.mem_cons_of_mem _ hw)⟩, hK, B.notSynchronized, fun q h => Or.inr (by omega), B.returns⟩
    have K := body p e s m _ below meth c hVB hE (vx_table (x := y) B hw) hsz s.heap [] _ hl hP hD0.self va_S.rf
    rw [← lg_entry_eq] at K
    obtain ⟨t, a1, o, b1, b2, b3⟩ := K s₁ hh0 (Stand.of_body B)
    exact ⟨t, o, a1, b1, b2, ⟨b3.1, b3.2⟩⟩
def GT (own : String) (ik is ic : Nat) (cls text : String) (names : List String) : Prop := own = RX11 ∧ Cond.classLink own ik cls ∈ lw_good ∧ Cond.initialized cls ∈ lw_good ∧ (is, text) ∈ strs11 ∧ Bundle.fit cls = true ∧ (∀ n ∈ names, Bundle.fit n = true) ∧ cls ∈ excs ∧ (∀ w ∈ (vx_atS own ic cls names).filter goodWord, w ∈ lw_good) ∧ ∀ w ∈ (vx_atS own ic cls names).filter (fun w => !goodWord w), w ∈ ngw cls
theorem ot_good {w : Cond} (h : w ∈ lw_good) : vx_ot w = true := by
  unfold vx_ot
  rw [mg_of h, Bool.or_true]
section VE
variable {p : Program} {l : Launch} {e : Env} {R : Room} {s : State} {m : MethodId} {args : Array Value} {below : List Frame} {meth : Method} {c : Code} {cells slots : Nat} {Q : State → Prop} {D : va_G} {Y : Nat → ClassId} {A : Nat → Prop} {cc : ByteArray} {nL : Nat} {own : String} {ret : Option FieldType} {lv : List (Nat × Value)} {st : List Value} {ws : va_W}
variable {E : String} {Qc : Array Value → State → Outcome → State → Prop} {XC : String → State → State → Prop} {mc ms : Nat}
theorem V_xret {pc : Nat} (k : V p l e R s m args below meth c D A nL cells slots (MQ below Qc args s mc ms A) pc lv st ws) : V p l e R s m args below meth c D A nL cells slots (vx_MQ below Qc XC args s mc ms A) pc lv st ws := fun H locs ls hl hP hD hS => vx_ret (k H locs ls hl hP hD hS)
theorem V_throwS (pc : Nat) (B : VB p s m args meth c D Y A cc nL own ret) (EB : EX A s s.heap) (hl9 : l.stackTraces = false) {Sg : Type} {pe : String → Sg → Prop} {wf : Sg → va_W} {ik is ic : Nat} {cls text : String} {names : List String} (g : GT own ik is ic cls text names) (hout : ∀ x ∈ c.exceptionTable.toList, False)
    (d0 : decode cc pc = .ok (.new ik, 3)) (d3 : decode cc (pc + 3) = .ok (.dup, 1)) (d4 : decode cc (pc + 4) = .ok (.ldc is, 2)) (d6 : decode cc (pc + 6) = .ok (.invokespecial ic, 3)) (d9 : decode cc (pc + 9) = .ok (.athrow, 1))
    (hf : names.length + 3 < R.frames) (hlo : (st.map fun v => v.category).sum + (13 * (names.length + 1) + 43) ≤ R.locals) (hRc : cells + 1 ≤ R.cells) (hRs : slots + 6 ≤ R.slots) (hc : cells + 1 ≤ mc) (hs : slots + 6 ≤ ms) (u : Sg) (hpe : pe cls u) (hws : wf u = ws) :
    V p l e R s m args below meth c D A nL cells slots (vx_MQ below Qc (XW D pe wf A) args s mc ms A) pc lv st ws := fun H locs ls hl hP hD hS => by
  obtain ⟨rfl, h1, h2, h3, h4, h5, h8, h6, h7⟩ := g
  have hall : ∀ w ∈ vx_atS RX11 ic cls names, w.before args s = true := vx_hat (fun w hw => B.1.2.2.2.2 _ (h6 w hw)) h7 (vx_c (va_Nw.use rfl (EB.2.2.2.1 cls h8)) (fun w hw => by
    obtain ⟨y, hy, rfl⟩ := List.mem_map.mp hw
    exact va_Nw.use rfl (EB.2.2.2.2.2.1 y hy)))
  obtain ⟨sa, hsa⟩ := EB.2.2.1 _ h3
  refine vx_throwS B.1.1 B.1.2.1 hl9 B.1.2.2.2.1 h4 h5 (B.1.2.2.2.2 _ h1) (B.1.2.2.2.2 _ h2) hsa hall (fun w hw => ?_) EB.1 EB.2.1 hS (by rw [B.1.2.2.1]; exact hl.1) d0 d3 d4 d6 d9 (fun x hx => (hout x hx).elim) hf hlo hRc hRs B.2.2.1 (fun t hW hz hk => ?_) hS.2.2 hc hs
  · rcases List.mem_cons.mp hw with rfl | hw
    · exact ot_good h1
    · rcases List.mem_cons.mp hw with rfl | hw
      · exact ot_good h2
      · by_cases hg : goodWord w = true
        · exact ot_good (h6 w (List.mem_filter.mpr ⟨hw, hg⟩))
        · have h9 := h7 w (List.mem_filter.mpr ⟨hw, by simp [hg]⟩)
          rcases List.mem_cons.mp h9 with rfl | h9
          · rfl
          · obtain ⟨y, -, rfl⟩ := List.mem_map.mp h9
            rfl
  · refine ⟨u, trivial, ⟨hpe, ?_, by rw [hws]; exact hD⟩, Nat.le_trans hS.1 hz, fun q h1 h2 => (hk q (Nat.lt_of_lt_of_le h1 hS.1)).trans (hS.2.1 q h1 h2)⟩
    rw [hws]
    exact hP.kept (fun k q hq => hk q.1 ((hP k q hq).lt))
theorem V_throwSW (pc : Nat) (B : VB p s m args meth c D Y A cc nL own ret) (EB : EX A s s.heap) (hl9 : l.stackTraces = false) {Sg : Type} {pe : String → Sg → Prop} {wf : Sg → va_W} {ik is ic : Nat} {cls text : String} {names : List String} (g : GT own ik is ic cls text names) (hout : ∀ x ∈ c.exceptionTable.toList, False)
    (d0 : decode cc pc = .ok (.new ik, 3)) (d3 : decode cc (pc + 3) = .ok (.dup, 1)) (d4 : decode cc (pc + 4) = .ok (.ldc_w is, 3)) (d6 : decode cc (pc + 7) = .ok (.invokespecial ic, 3)) (d9 : decode cc (pc + 10) = .ok (.athrow, 1))
    (hf : names.length + 3 < R.frames) (hlo : (st.map fun v => v.category).sum + (13 * (names.length + 1) + 43) ≤ R.locals) (hRc : cells + 1 ≤ R.cells) (hRs : slots + 6 ≤ R.slots) (hc : cells + 1 ≤ mc) (hs : slots + 6 ≤ ms) (u : Sg) (hpe : pe cls u) (hws : wf u = ws) :
    V p l e R s m args below meth c D A nL cells slots (vx_MQ below Qc (XW D pe wf A) args s mc ms A) pc lv st ws := fun H locs ls hl hP hD hS => by
  obtain ⟨rfl, h1, h2, h3, h4, h5, h8, h6, h7⟩ := g
  have hall : ∀ w ∈ vx_atS RX11 ic cls names, w.before args s = true := vx_hat (fun w hw => B.1.2.2.2.2 _ (h6 w hw)) h7 (vx_c (va_Nw.use rfl (EB.2.2.2.1 cls h8)) (fun w hw => by
    obtain ⟨y, hy, rfl⟩ := List.mem_map.mp hw
    exact va_Nw.use rfl (EB.2.2.2.2.2.1 y hy)))
  obtain ⟨sa, hsa⟩ := EB.2.2.1 _ h3
  refine vx_throwSW B.1.1 B.1.2.1 hl9 B.1.2.2.2.1 h4 h5 (B.1.2.2.2.2 _ h1) (B.1.2.2.2.2 _ h2) hsa hall (fun w hw => ?_) EB.1 EB.2.1 hS (by rw [B.1.2.2.1]; exact hl.1) d0 d3 d4 d6 d9 (fun x hx => (hout x hx).elim) hf hlo hRc hRs B.2.2.1 (fun t hW hz hk => ?_) hS.2.2 hc hs
  · rcases List.mem_cons.mp hw with rfl | hw
    · exact ot_good h1
    · rcases List.mem_cons.mp hw with rfl | hw
      · exact ot_good h2
      · by_cases hg : goodWord w = true
        · exact ot_good (h6 w (List.mem_filter.mpr ⟨hw, hg⟩))
        · have h9 := h7 w (List.mem_filter.mpr ⟨hw, by simp [hg]⟩)
          rcases List.mem_cons.mp h9 with rfl | h9
          · rfl
          · obtain ⟨y, -, rfl⟩ := List.mem_map.mp h9
            rfl
  · refine ⟨u, trivial, ⟨hpe, ?_, by rw [hws]; exact hD⟩, Nat.le_trans hS.1 hz, fun q h1 h2 => (hk q (Nat.lt_of_lt_of_le h1 hS.1)).trans (hS.2.1 q h1 h2)⟩
    rw [hws]
    exact hP.kept (fun k q hq => hk q.1 ((hP k q hq).lt))
theorem VX_out (pc : Nat) (B : VB p s m args meth c D Y A cc nL own ret) (hout : ∀ x ∈ c.exceptionTable.toList, False) {Sg : Type} {pe : String → Sg → Prop} {wf : Sg → va_W} (u : Sg) (hpe : pe E u) (hws : wf u = ws) (hc : cells ≤ mc) (hs : slots ≤ ms) : VX p l e R s m args below meth c D A nL cells slots (vx_MQ below Qc (XW D pe wf A) args s mc ms A) pc lv st ws E := fun H locs ls ce q hl hP hD hS hce hcv hcl =>
  vx_out (fun x hx => (hout x hx).elim) B.2.2.1 hce hcv hcl (fun t ht hW => ⟨u, trivial, ⟨hpe, by rw [ht, hws]; exact hP, by rw [hws]; exact hD⟩, hS.F ht⟩) hS.2.2 hc hs
/-- caught by the first row of the table that covers pc -/
theorem VX_catch (pc : Nat) (B : VB p s m args meth c D Y A cc nL own ret) {hh : List (Nat × Nat × Nat × Nat)} (htab : c.exceptionTable.toList = tableOf hh) (pre : List (Nat × Nat × Nat × Nat)) (x : Nat × Nat × Nat × Nat) (suf : List (Nat × Nat × Nat × Nat)) (hsp : hh = pre ++ x :: suf) (name : String)
    (hpass : ∀ z ∈ tableOf pre, covers z pc = false ∨ (z.catchType ≠ 0 ∧ ∃ nm : String, (Cond.classLink own z.catchType nm).before args s = true ∧ va_Nc E nm s)) (hx : covers ⟨x.1, x.2.1, x.2.2.1, x.2.2.2⟩ pc = true) (h0 : x.2.2.2 ≠ 0)
    (hlink : Cond.classLink own x.2.2.2 name ∈ lw_good) (hcast : va_Nw (.castable E name) s) (tgt : Nat) (htgt : x.2.2.1 = tgt) (kk : ∀ q : Nat, V p l e R s m args below meth c D A nL cells slots Q tgt lv [.ref q] ws) : VX p l e R s m args below meth c D A nL cells slots Q pc lv st ws E := fun H locs ls ce q hl hP hD hS hce hcv hcl => by
  subst htgt
  refine vx_catch B.1.2.2.2.1 (tableOf pre) ⟨x.1, x.2.1, x.2.2.1, x.2.2.2⟩ (tableOf suf) (by rw [htab, hsp]; simp [tableOf]) hpass hx h0 (B.1.2.2.2.2 _ hlink) (va_Nw.use rfl hcast) hce hcv hcl ?_
  exact kk q H locs ls hl hP hD hS
theorem V_xvi (pc : Nat) (B : VB p s m args meth c D Y A cc nL own ret) (EB : EX A s s.heap) {Sg SX : Type} {post : Int32 → Sg → Prop} {pe : String → SX → Prop} {wf : Sg → va_W} {wx : SX → va_W} {rm : Room} {mc1 ms1 n index : Nat} {y : MethodName} {C : String} {bytes : ByteArray} {maxL : Nat} {rt : Option FieldType} {b : Nat} {As : List Value} {wc : va_W} {st0 : List Value} {fs : List Value} (hM : ∀ sz : Nat, vx_Met l y (WSm y bytes maxL rt) rm (PreX D Y (.ref b :: As) wc sz) (QI D post wf (va_A wc sz)) (XW D pe wx (va_A wc sz)) mc1 ms1 (va_A wc sz)) (g : GLV own index y C bytes maxL rt n) (hrm : rm.cells = mc1 ∧ rm.slots = ms1) (hR : rm.frames + 1 ≤ R.frames ∧ 8 + (maxL + 11) + rm.locals ≤ R.locals) (hcs : cells + mc1 ≤ R.cells ∧ slots + ms1 ≤ R.slots) (gs : List Nat) (hC : (plc 0 gs).map (fun i => ws[i]?) = wc.map some) (ci rj : Nat) {q : vw_C} (hrec : wc[rj]? = some (b, .inr (ci, fs))) (hcl : vwCl[ci]? = some q) (hq : q.1 = C) (hst : st0 = As.reverse ++ .ref b :: st) (hcat : (st.map fun v => v.category).sum ≤ 8) (hn : As.length = n) (hadr : ∀ (r : Int32) (u : Sg), post r u → ((wf u).map Prod.fst).take wc.length = wc.map Prod.fst) (hadx : ∀ (E : String) (u : SX), pe E u → ((wx u).map Prod.fst).take wc.length = wc.map Prod.fst) (d : decode cc pc = .ok (.invokevirtual index, 3))
    (kx : ∀ (E : String) (u : SX), pe E u → VX p l e R s m args below meth c D A nL (cells + mc1) (slots + ms1) Q pc lv st (mrg gs ws (wx u)) E)
    (kk : ∀ (r : Int32) (u : Sg), post r u → V p l e R s m args below meth c D A nL (cells + mc1) (slots + ms1) Q (pc + 3) lv (.int r :: st) (mrg gs ws (wf u))) : V p l e R s m args below meth c D A nL cells slots Q pc lv st0 ws := fun H locs ls hl hP hD hS => by
  subst hst
  have hPc : va_P D vwCl wc H := fun k q hk => by
    obtain ⟨i, -, hi⟩ := map_at hC k q hk
    exact hP i q hi
  have hDc : va_D A wc := hD.sub (plc 0 gs) (plc_nd gs 0) hC
  have hFc := va_free hD hS B.2.2.2.1 (plc 0 gs) hC
  subst hq
  refine vx_calli (vx_runV (As := As) (rest := st) ⟨B.1.1, B.1.2.1, B.1.2.2.1, B.1.2.2.2.1, B.1.2.2.2.2⟩ (hM H.size) (cwV n B.1.2.2.2.2 (fun w hw => by
      rcases List.mem_append.mp hw with hw | hw
      · simp only [List.mem_cons, List.not_mem_nil, or_false] at hw
        rcases hw with rfl | rfl | rfl | rfl
        · exact ⟨g.1.1, good_of_word (mg_of g.1.1)⟩
        · exact ⟨g.1.2.1, good_of_word (mg_of g.1.2.1)⟩
        · exact ⟨g.1.2.2.1, good_of_word (mg_of g.1.2.2.1)⟩
        · exact ⟨g.1.2.2.2.1, good_of_word (mg_of g.1.2.2.2.1)⟩
      · exact WSm_good g.1.2.2.2.2 w hw) rfl hrm.1 hrm.2 g.2 hR) ⟨fun a U g mk q => PreX_blind a U g mk q, va_recv B.2.1 hPc (ci := ci) (q0 := rj) hcl hrec, fun U hU hW => ⟨rfl, by rw [hU], by rw [hU]; exact hPc, va_K.moved hW.alike B.2.1, hDc.weaken (fun _ _ _ _ => trivial), EB.call hS hFc hU hW⟩⟩ rfl hn hl.1 rfl (by show 2 * 0 + (st.map fun v => v.category).sum ≤ 8; omega) d hcs) hS (fun q _ h => hFc q h) hFc (fun q _ h => hFc q h) (fun E ce q9 u t H1 locs ht hvm _ hB hz1 hk1 hS hce hcv hcl => ?_) (fun r u t H1 locs ht hvm hw hB hz1 hk1 hS => ?_)
  · obtain ⟨hpe, hP1, hD1⟩ := hB
    rw [ht] at hP1
    obtain ⟨hP, hD⟩ := mrg_ok hP hD gs hC (hadx E u hpe) hk1 hFc hP1 hD1
    exact kx E u hpe H1 locs ls ce q9 hl hP hD hS hce hcv hcl
  · obtain ⟨hP1, hD1⟩ := hB
    rw [ht] at hP1
    obtain ⟨hP, hD⟩ := mrg_ok hP hD gs hC (hadr r u hw) hk1 hFc hP1 hD1
    exact kk r u hw H1 locs ls hl hP hD hS
theorem V_xvl (pc : Nat) (B : VB p s m args meth c D Y A cc nL own ret) (EB : EX A s s.heap) {Sg SX : Type} {post : Int64 → Sg → Prop} {pe : String → SX → Prop} {wf : Sg → va_W} {wx : SX → va_W} {rm : Room} {mc1 ms1 n index : Nat} {y : MethodName} {C : String} {bytes : ByteArray} {maxL : Nat} {rt : Option FieldType} {b : Nat} {As : List Value} {wc : va_W} {st0 : List Value} {fs : List Value} (hM : ∀ sz : Nat, vx_Met l y (WSm y bytes maxL rt) rm (PreX D Y (.ref b :: As) wc sz) (QJ D post wf (va_A wc sz)) (XW D pe wx (va_A wc sz)) mc1 ms1 (va_A wc sz)) (g : GLV own index y C bytes maxL rt n) (hrm : rm.cells = mc1 ∧ rm.slots = ms1) (hR : rm.frames + 1 ≤ R.frames ∧ 8 + (maxL + 11) + rm.locals ≤ R.locals) (hcs : cells + mc1 ≤ R.cells ∧ slots + ms1 ≤ R.slots) (gs : List Nat) (hC : (plc 0 gs).map (fun i => ws[i]?) = wc.map some) (ci rj : Nat) {q : vw_C} (hrec : wc[rj]? = some (b, .inr (ci, fs))) (hcl : vwCl[ci]? = some q) (hq : q.1 = C) (hst : st0 = As.reverse ++ .ref b :: st) (hcat : (st.map fun v => v.category).sum ≤ 8) (hn : As.length = n) (hadr : ∀ (r : Int64) (u : Sg), post r u → ((wf u).map Prod.fst).take wc.length = wc.map Prod.fst) (hadx : ∀ (E : String) (u : SX), pe E u → ((wx u).map Prod.fst).take wc.length = wc.map Prod.fst) (d : decode cc pc = .ok (.invokevirtual index, 3))
    (kx : ∀ (E : String) (u : SX), pe E u → VX p l e R s m args below meth c D A nL (cells + mc1) (slots + ms1) Q pc lv st (mrg gs ws (wx u)) E)
    (kk : ∀ (r : Int64) (u : Sg), post r u → V p l e R s m args below meth c D A nL (cells + mc1) (slots + ms1) Q (pc + 3) lv (.long r :: st) (mrg gs ws (wf u))) : V p l e R s m args below meth c D A nL cells slots Q pc lv st0 ws := fun H locs ls hl hP hD hS => by
  subst hst
  have hPc : va_P D vwCl wc H := fun k q hk => by
    obtain ⟨i, -, hi⟩ := map_at hC k q hk
    exact hP i q hi
  have hDc : va_D A wc := hD.sub (plc 0 gs) (plc_nd gs 0) hC
  have hFc := va_free hD hS B.2.2.2.1 (plc 0 gs) hC
  subst hq
  refine vx_calll (vx_runV (As := As) (rest := st) ⟨B.1.1, B.1.2.1, B.1.2.2.1, B.1.2.2.2.1, B.1.2.2.2.2⟩ (hM H.size) (cwV n B.1.2.2.2.2 (fun w hw => by
      rcases List.mem_append.mp hw with hw | hw
      · simp only [List.mem_cons, List.not_mem_nil, or_false] at hw
        rcases hw with rfl | rfl | rfl | rfl
        · exact ⟨g.1.1, good_of_word (mg_of g.1.1)⟩
        · exact ⟨g.1.2.1, good_of_word (mg_of g.1.2.1)⟩
        · exact ⟨g.1.2.2.1, good_of_word (mg_of g.1.2.2.1)⟩
        · exact ⟨g.1.2.2.2.1, good_of_word (mg_of g.1.2.2.2.1)⟩
      · exact WSm_good g.1.2.2.2.2 w hw) rfl hrm.1 hrm.2 g.2 hR) ⟨fun a U g mk q => PreX_blind a U g mk q, va_recv B.2.1 hPc (ci := ci) (q0 := rj) hcl hrec, fun U hU hW => ⟨rfl, by rw [hU], by rw [hU]; exact hPc, va_K.moved hW.alike B.2.1, hDc.weaken (fun _ _ _ _ => trivial), EB.call hS hFc hU hW⟩⟩ rfl hn hl.1 rfl (by show 2 * 0 + (st.map fun v => v.category).sum ≤ 8; omega) d hcs) hS (fun q _ h => hFc q h) hFc (fun q _ h => hFc q h) (fun E ce q9 u t H1 locs ht hvm _ hB hz1 hk1 hS hce hcv hcl => ?_) (fun r u t H1 locs ht hvm hw hB hz1 hk1 hS => ?_)
  · obtain ⟨hpe, hP1, hD1⟩ := hB
    rw [ht] at hP1
    obtain ⟨hP, hD⟩ := mrg_ok hP hD gs hC (hadx E u hpe) hk1 hFc hP1 hD1
    exact kx E u hpe H1 locs ls ce q9 hl hP hD hS hce hcv hcl
  · obtain ⟨hP1, hD1⟩ := hB
    rw [ht] at hP1
    obtain ⟨hP, hD⟩ := mrg_ok hP hD gs hC (hadr r u hw) hk1 hFc hP1 hD1
    exact kk r u hw H1 locs ls hl hP hD hS
theorem V_xvv (pc : Nat) (B : VB p s m args meth c D Y A cc nL own ret) (EB : EX A s s.heap) {Sg SX : Type} {post : Sg → Prop} {pe : String → SX → Prop} {wf : Sg → va_W} {wx : SX → va_W} {rm : Room} {mc1 ms1 n index : Nat} {y : MethodName} {C : String} {bytes : ByteArray} {maxL : Nat} {rt : Option FieldType} {b : Nat} {As : List Value} {wc : va_W} {st0 : List Value} {fs : List Value} (hM : ∀ sz : Nat, vx_Met l y (WSm y bytes maxL rt) rm (PreX D Y (.ref b :: As) wc sz) (QV D post wf (va_A wc sz)) (XW D pe wx (va_A wc sz)) mc1 ms1 (va_A wc sz)) (g : GLV own index y C bytes maxL rt n) (hrm : rm.cells = mc1 ∧ rm.slots = ms1) (hR : rm.frames + 1 ≤ R.frames ∧ 8 + (maxL + 11) + rm.locals ≤ R.locals) (hcs : cells + mc1 ≤ R.cells ∧ slots + ms1 ≤ R.slots) (gs : List Nat) (hC : (plc 0 gs).map (fun i => ws[i]?) = wc.map some) (ci rj : Nat) {q : vw_C} (hrec : wc[rj]? = some (b, .inr (ci, fs))) (hcl : vwCl[ci]? = some q) (hq : q.1 = C) (hst : st0 = As.reverse ++ .ref b :: st) (hcat : (st.map fun v => v.category).sum ≤ 8) (hn : As.length = n) (hadr : ∀ (u : Sg), post u → ((wf u).map Prod.fst).take wc.length = wc.map Prod.fst) (hadx : ∀ (E : String) (u : SX), pe E u → ((wx u).map Prod.fst).take wc.length = wc.map Prod.fst) (d : decode cc pc = .ok (.invokevirtual index, 3))
    (kx : ∀ (E : String) (u : SX), pe E u → VX p l e R s m args below meth c D A nL (cells + mc1) (slots + ms1) Q pc lv st (mrg gs ws (wx u)) E)
    (kk : ∀ (u : Sg), post u → V p l e R s m args below meth c D A nL (cells + mc1) (slots + ms1) Q (pc + 3) lv st (mrg gs ws (wf u))) : V p l e R s m args below meth c D A nL cells slots Q pc lv st0 ws := fun H locs ls hl hP hD hS => by
  subst hst
  have hPc : va_P D vwCl wc H := fun k q hk => by
    obtain ⟨i, -, hi⟩ := map_at hC k q hk
    exact hP i q hi
  have hDc : va_D A wc := hD.sub (plc 0 gs) (plc_nd gs 0) hC
  have hFc := va_free hD hS B.2.2.2.1 (plc 0 gs) hC
  subst hq
  refine vx_callv (vx_runV (As := As) (rest := st) ⟨B.1.1, B.1.2.1, B.1.2.2.1, B.1.2.2.2.1, B.1.2.2.2.2⟩ (hM H.size) (cwV n B.1.2.2.2.2 (fun w hw => by
      rcases List.mem_append.mp hw with hw | hw
      · simp only [List.mem_cons, List.not_mem_nil, or_false] at hw
        rcases hw with rfl | rfl | rfl | rfl
        · exact ⟨g.1.1, good_of_word (mg_of g.1.1)⟩
        · exact ⟨g.1.2.1, good_of_word (mg_of g.1.2.1)⟩
        · exact ⟨g.1.2.2.1, good_of_word (mg_of g.1.2.2.1)⟩
        · exact ⟨g.1.2.2.2.1, good_of_word (mg_of g.1.2.2.2.1)⟩
      · exact WSm_good g.1.2.2.2.2 w hw) rfl hrm.1 hrm.2 g.2 hR) ⟨fun a U g mk q => PreX_blind a U g mk q, va_recv B.2.1 hPc (ci := ci) (q0 := rj) hcl hrec, fun U hU hW => ⟨rfl, by rw [hU], by rw [hU]; exact hPc, va_K.moved hW.alike B.2.1, hDc.weaken (fun _ _ _ _ => trivial), EB.call hS hFc hU hW⟩⟩ rfl hn hl.1 rfl (by show 2 * 0 + (st.map fun v => v.category).sum ≤ 8; omega) d hcs) hS (fun q _ h => hFc q h) hFc (fun q _ h => hFc q h) (fun E ce q9 u t H1 locs ht hvm _ hB hz1 hk1 hS hce hcv hcl => ?_) (fun u t H1 locs ht hvm hw hB hz1 hk1 hS => ?_)
  · obtain ⟨hpe, hP1, hD1⟩ := hB
    rw [ht] at hP1
    obtain ⟨hP, hD⟩ := mrg_ok hP hD gs hC (hadx E u hpe) hk1 hFc hP1 hD1
    exact kx E u hpe H1 locs ls ce q9 hl hP hD hS hce hcv hcl
  · obtain ⟨hP1, hD1⟩ := hB
    rw [ht] at hP1
    obtain ⟨hP, hD⟩ := mrg_ok hP hD gs hC (hadr u hw) hk1 hFc hP1 hD1
    exact kk u hw H1 locs ls hl hP hD hS
theorem V_xsi (pc : Nat) (B : VB p s m args meth c D Y A cc nL own ret) (EB : EX A s s.heap) {Sg SX : Type} {post : Int32 → Sg → Prop} {pe : String → SX → Prop} {wf : Sg → va_W} {wx : SX → va_W} {rm : Room} {mc1 ms1 n index : Nat} {y : MethodName} {bytes : ByteArray} {maxL : Nat} {rt : Option FieldType} {As : List Value} {wc : va_W} {st0 : List Value} (hM : ∀ sz : Nat, vx_Met l y (WSm y bytes maxL rt) rm (PreX D Y As wc sz) (QI D post wf (va_A wc sz)) (XW D pe wx (va_A wc sz)) mc1 ms1 (va_A wc sz)) (g : GLS own index y bytes maxL rt n) (hrm : rm.cells = mc1 ∧ rm.slots = ms1) (hR : rm.frames + 1 ≤ R.frames ∧ 8 + (maxL + 11) + rm.locals ≤ R.locals) (hcs : cells + mc1 ≤ R.cells ∧ slots + ms1 ≤ R.slots) (gs : List Nat) (hC : (plc 0 gs).map (fun i => ws[i]?) = wc.map some) (hst : st0 = As.reverse ++ st) (hcat : (st.map fun v => v.category).sum ≤ 8) (hn : As.length = n) (hadr : ∀ (r : Int32) (u : Sg), post r u → ((wf u).map Prod.fst).take wc.length = wc.map Prod.fst) (hadx : ∀ (E : String) (u : SX), pe E u → ((wx u).map Prod.fst).take wc.length = wc.map Prod.fst) (d : decode cc pc = .ok (.invokestatic index, 3))
    (kx : ∀ (E : String) (u : SX), pe E u → VX p l e R s m args below meth c D A nL (cells + mc1) (slots + ms1) Q pc lv st (mrg gs ws (wx u)) E)
    (kk : ∀ (r : Int32) (u : Sg), post r u → V p l e R s m args below meth c D A nL (cells + mc1) (slots + ms1) Q (pc + 3) lv (.int r :: st) (mrg gs ws (wf u))) : V p l e R s m args below meth c D A nL cells slots Q pc lv st0 ws := fun H locs ls hl hP hD hS => by
  subst hst
  have hPc : va_P D vwCl wc H := fun k q hk => by
    obtain ⟨i, -, hi⟩ := map_at hC k q hk
    exact hP i q hi
  have hDc : va_D A wc := hD.sub (plc 0 gs) (plc_nd gs 0) hC
  have hFc := va_free hD hS B.2.2.2.1 (plc 0 gs) hC
  refine vx_calli (vx_runS (As := As) (rest := st) ⟨B.1.1, B.1.2.1, B.1.2.2.1, B.1.2.2.2.1, B.1.2.2.2.2⟩ (hM H.size) ⟨callB_of n B.1.2.2.2.2 (WSm_good g.1.2.2.2) rfl hrm.1 hrm.2 (B.1.2.2.2.2 _ g.1.2.2.1) (B.1.2.2.2.2 _ g.1.1) g.2 hR, B.1.2.2.2.2 _ g.1.2.1⟩ ⟨fun a U g mk q => PreX_blind a U g mk q, fun U hU hW => ⟨rfl, by rw [hU], by rw [hU]; exact hPc, va_K.moved hW.alike B.2.1, hDc.weaken (fun _ _ _ _ => trivial), EB.call hS hFc hU hW⟩⟩ rfl hn hl.1 rfl (by show 2 * 0 + (st.map fun v => v.category).sum ≤ 8; omega) d hcs) hS (fun q _ h => hFc q h) hFc (fun q _ h => hFc q h) (fun E ce q9 u t H1 locs ht hvm _ hB hz1 hk1 hS hce hcv hcl => ?_) (fun r u t H1 locs ht hvm hw hB hz1 hk1 hS => ?_)
  · obtain ⟨hpe, hP1, hD1⟩ := hB
    rw [ht] at hP1
    obtain ⟨hP, hD⟩ := mrg_ok hP hD gs hC (hadx E u hpe) hk1 hFc hP1 hD1
    exact kx E u hpe H1 locs ls ce q9 hl hP hD hS hce hcv hcl
  · obtain ⟨hP1, hD1⟩ := hB
    rw [ht] at hP1
    obtain ⟨hP, hD⟩ := mrg_ok hP hD gs hC (hadr r u hw) hk1 hFc hP1 hD1
    exact kk r u hw H1 locs ls hl hP hD hS
theorem V_xsl (pc : Nat) (B : VB p s m args meth c D Y A cc nL own ret) (EB : EX A s s.heap) {Sg SX : Type} {post : Int64 → Sg → Prop} {pe : String → SX → Prop} {wf : Sg → va_W} {wx : SX → va_W} {rm : Room} {mc1 ms1 n index : Nat} {y : MethodName} {bytes : ByteArray} {maxL : Nat} {rt : Option FieldType} {As : List Value} {wc : va_W} {st0 : List Value} (hM : ∀ sz : Nat, vx_Met l y (WSm y bytes maxL rt) rm (PreX D Y As wc sz) (QJ D post wf (va_A wc sz)) (XW D pe wx (va_A wc sz)) mc1 ms1 (va_A wc sz)) (g : GLS own index y bytes maxL rt n) (hrm : rm.cells = mc1 ∧ rm.slots = ms1) (hR : rm.frames + 1 ≤ R.frames ∧ 8 + (maxL + 11) + rm.locals ≤ R.locals) (hcs : cells + mc1 ≤ R.cells ∧ slots + ms1 ≤ R.slots) (gs : List Nat) (hC : (plc 0 gs).map (fun i => ws[i]?) = wc.map some) (hst : st0 = As.reverse ++ st) (hcat : (st.map fun v => v.category).sum ≤ 8) (hn : As.length = n) (hadr : ∀ (r : Int64) (u : Sg), post r u → ((wf u).map Prod.fst).take wc.length = wc.map Prod.fst) (hadx : ∀ (E : String) (u : SX), pe E u → ((wx u).map Prod.fst).take wc.length = wc.map Prod.fst) (d : decode cc pc = .ok (.invokestatic index, 3))
    (kx : ∀ (E : String) (u : SX), pe E u → VX p l e R s m args below meth c D A nL (cells + mc1) (slots + ms1) Q pc lv st (mrg gs ws (wx u)) E)
    (kk : ∀ (r : Int64) (u : Sg), post r u → V p l e R s m args below meth c D A nL (cells + mc1) (slots + ms1) Q (pc + 3) lv (.long r :: st) (mrg gs ws (wf u))) : V p l e R s m args below meth c D A nL cells slots Q pc lv st0 ws := fun H locs ls hl hP hD hS => by
  subst hst
  have hPc : va_P D vwCl wc H := fun k q hk => by
    obtain ⟨i, -, hi⟩ := map_at hC k q hk
    exact hP i q hi
  have hDc : va_D A wc := hD.sub (plc 0 gs) (plc_nd gs 0) hC
  have hFc := va_free hD hS B.2.2.2.1 (plc 0 gs) hC
  refine vx_calll (vx_runS (As := As) (rest := st) ⟨B.1.1, B.1.2.1, B.1.2.2.1, B.1.2.2.2.1, B.1.2.2.2.2⟩ (hM H.size) ⟨callB_of n B.1.2.2.2.2 (WSm_good g.1.2.2.2) rfl hrm.1 hrm.2 (B.1.2.2.2.2 _ g.1.2.2.1) (B.1.2.2.2.2 _ g.1.1) g.2 hR, B.1.2.2.2.2 _ g.1.2.1⟩ ⟨fun a U g mk q => PreX_blind a U g mk q, fun U hU hW => ⟨rfl, by rw [hU], by rw [hU]; exact hPc, va_K.moved hW.alike B.2.1, hDc.weaken (fun _ _ _ _ => trivial), EB.call hS hFc hU hW⟩⟩ rfl hn hl.1 rfl (by show 2 * 0 + (st.map fun v => v.category).sum ≤ 8; omega) d hcs) hS (fun q _ h => hFc q h) hFc (fun q _ h => hFc q h) (fun E ce q9 u t H1 locs ht hvm _ hB hz1 hk1 hS hce hcv hcl => ?_) (fun r u t H1 locs ht hvm hw hB hz1 hk1 hS => ?_)
  · obtain ⟨hpe, hP1, hD1⟩ := hB
    rw [ht] at hP1
    obtain ⟨hP, hD⟩ := mrg_ok hP hD gs hC (hadx E u hpe) hk1 hFc hP1 hD1
    exact kx E u hpe H1 locs ls ce q9 hl hP hD hS hce hcv hcl
  · obtain ⟨hP1, hD1⟩ := hB
    rw [ht] at hP1
    obtain ⟨hP, hD⟩ := mrg_ok hP hD gs hC (hadr r u hw) hk1 hFc hP1 hD1
    exact kk r u hw H1 locs ls hl hP hD hS
theorem V_xsv (pc : Nat) (B : VB p s m args meth c D Y A cc nL own ret) (EB : EX A s s.heap) {Sg SX : Type} {post : Sg → Prop} {pe : String → SX → Prop} {wf : Sg → va_W} {wx : SX → va_W} {rm : Room} {mc1 ms1 n index : Nat} {y : MethodName} {bytes : ByteArray} {maxL : Nat} {rt : Option FieldType} {As : List Value} {wc : va_W} {st0 : List Value} (hM : ∀ sz : Nat, vx_Met l y (WSm y bytes maxL rt) rm (PreX D Y As wc sz) (QV D post wf (va_A wc sz)) (XW D pe wx (va_A wc sz)) mc1 ms1 (va_A wc sz)) (g : GLS own index y bytes maxL rt n) (hrm : rm.cells = mc1 ∧ rm.slots = ms1) (hR : rm.frames + 1 ≤ R.frames ∧ 8 + (maxL + 11) + rm.locals ≤ R.locals) (hcs : cells + mc1 ≤ R.cells ∧ slots + ms1 ≤ R.slots) (gs : List Nat) (hC : (plc 0 gs).map (fun i => ws[i]?) = wc.map some) (hst : st0 = As.reverse ++ st) (hcat : (st.map fun v => v.category).sum ≤ 8) (hn : As.length = n) (hadr : ∀ (u : Sg), post u → ((wf u).map Prod.fst).take wc.length = wc.map Prod.fst) (hadx : ∀ (E : String) (u : SX), pe E u → ((wx u).map Prod.fst).take wc.length = wc.map Prod.fst) (d : decode cc pc = .ok (.invokestatic index, 3))
    (kx : ∀ (E : String) (u : SX), pe E u → VX p l e R s m args below meth c D A nL (cells + mc1) (slots + ms1) Q pc lv st (mrg gs ws (wx u)) E)
    (kk : ∀ (u : Sg), post u → V p l e R s m args below meth c D A nL (cells + mc1) (slots + ms1) Q (pc + 3) lv st (mrg gs ws (wf u))) : V p l e R s m args below meth c D A nL cells slots Q pc lv st0 ws := fun H locs ls hl hP hD hS => by
  subst hst
  have hPc : va_P D vwCl wc H := fun k q hk => by
    obtain ⟨i, -, hi⟩ := map_at hC k q hk
    exact hP i q hi
  have hDc : va_D A wc := hD.sub (plc 0 gs) (plc_nd gs 0) hC
  have hFc := va_free hD hS B.2.2.2.1 (plc 0 gs) hC
  refine vx_callv (vx_runS (As := As) (rest := st) ⟨B.1.1, B.1.2.1, B.1.2.2.1, B.1.2.2.2.1, B.1.2.2.2.2⟩ (hM H.size) ⟨callB_of n B.1.2.2.2.2 (WSm_good g.1.2.2.2) rfl hrm.1 hrm.2 (B.1.2.2.2.2 _ g.1.2.2.1) (B.1.2.2.2.2 _ g.1.1) g.2 hR, B.1.2.2.2.2 _ g.1.2.1⟩ ⟨fun a U g mk q => PreX_blind a U g mk q, fun U hU hW => ⟨rfl, by rw [hU], by rw [hU]; exact hPc, va_K.moved hW.alike B.2.1, hDc.weaken (fun _ _ _ _ => trivial), EB.call hS hFc hU hW⟩⟩ rfl hn hl.1 rfl (by show 2 * 0 + (st.map fun v => v.category).sum ≤ 8; omega) d hcs) hS (fun q _ h => hFc q h) hFc (fun q _ h => hFc q h) (fun E ce q9 u t H1 locs ht hvm _ hB hz1 hk1 hS hce hcv hcl => ?_) (fun u t H1 locs ht hvm hw hB hz1 hk1 hS => ?_)
  · obtain ⟨hpe, hP1, hD1⟩ := hB
    rw [ht] at hP1
    obtain ⟨hP, hD⟩ := mrg_ok hP hD gs hC (hadx E u hpe) hk1 hFc hP1 hD1
    exact kx E u hpe H1 locs ls ce q9 hl hP hD hS hce hcv hcl
  · obtain ⟨hP1, hD1⟩ := hB
    rw [ht] at hP1
    obtain ⟨hP, hD⟩ := mrg_ok hP hD gs hC (hadr u hw) hk1 hFc hP1 hD1
    exact kk u hw H1 locs ls hl hP hD hS
end VE
