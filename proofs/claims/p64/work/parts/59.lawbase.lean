/-! THE LAW IN THE V-LAYER -/
section VLW
variable {p : Program} {l : Launch} {e : Env} {R : Room} {s : State} {m : MethodId} {args : Array Value} {below : List Frame} {meth : Method} {c : Code} {cells slots : Nat} {Q : State → Prop} {D : va_G} {Y : Nat → ClassId} {A : Nat → Prop} {cc : ByteArray} {nL : Nat} {own : String} {ret : Option FieldType} {lv : List (Nat × Value)} {st : List Value} {ws : va_W}
theorem V_slen (pc : Nat) (B : VB p s m args meth c D Y A cc nL own ret) {b L : Nat} {xs : Nat → Int32} (hX : va_X b L xs s s.heap) (hbl : b < s.heap.size) (hbA : ¬ A b) {v : Int32} (hv : Int32.ofNat L = v) (d : decode cc pc = .ok (.arraylength, 1)) (kk : V p l e R s m args below meth c D A nL cells slots Q (pc + 1) lv (.int v :: st) ws) : V p l e R s m args below meth c D A nL cells slots Q pc lv (.ref b :: st) ws := fun H locs ls hl hP hD hS => by
  subst hv
  exact va_slen B.1.1 B.1.2.1 hX hbl hbA hS d (kk H locs ls hl hP hD hS)
theorem V_sld (pc : Nat) (B : VB p s m args meth c D Y A cc nL own ret) {b L : Nat} {xs : Nat → Int32} (hX : va_X b L xs s s.heap) (hbl : b < s.heap.size) (hbA : ¬ A b) {i v : Int32} (hin : vp_in i L) (d : decode cc pc = .ok (.iaload, 1)) (hv : xs i.toNatClampNeg = v) (kk : V p l e R s m args below meth c D A nL cells slots Q (pc + 1) lv (.int v :: st) ws) : V p l e R s m args below meth c D A nL cells slots Q pc lv (.int i :: .ref b :: st) ws := fun H locs ls hl hP hD hS => by
  subst hv
  exact va_sld B.1.1 B.1.2.1 hX hbl hbA hS hin d (kk H locs ls hl hP hD hS)
theorem V_sub (is : List Nat) (hn : va_nd is = true) (ws2 : va_W) (hs : is.map (fun i => ws[i]?) = ws2.map some) {pc : Nat} (kk : V p l e R s m args below meth c D A nL cells slots Q pc lv st ws2) : V p l e R s m args below meth c D A nL cells slots Q pc lv st ws := fun H locs ls hl hP hD hS => kk H locs ls hl (fun k q hk => by
  obtain ⟨i, -, hi⟩ := map_at hs k q hk
  exact hP i q hi) (hD.sub is hn hs) hS
def GLH (own : String) (index : Nat) (y : MethodName) (bytes : ByteArray) (maxL : Nat) (ret : Option FieldType) (hh : List (Nat × Nat × Nat × Nat)) (n : Nat) : Prop := (Cond.methodLink own index y ∈ lw_good ∧ Cond.static y ∈ lw_good ∧ Cond.initialized y.cls ∈ lw_good ∧ Cond.codeWith y bytes maxL ret hh ∈ lw_good) ∧ (y.cls ≠ "java/lang/invoke/MethodHandle" ∧ y.cls ≠ "java/lang/invoke/VarHandle" ∧ (parseMethodDescriptor y.desc).map (fun d => d.parameters.length) = some n)
theorem V_hsi (pc : Nat) (B : VB p s m args meth c D Y A cc nL own ret) (EB : EX A s s.heap) {Sg : Type} {post : Int32 → Sg → Prop} {wf : Sg → va_W} {rm : Room} {mc ms n index : Nat} {y : MethodName} {bytes : ByteArray} {maxL : Nat} {rt : Option FieldType} {hh : List (Nat × Nat × Nat × Nat)} {As : List Value} {wc : va_W} {st0 : List Value} (hM : ∀ sz : Nat, Met l y (Cond.codeWith y bytes maxL rt hh :: lw_good) rm (PreX D Y As wc sz) (QI D post wf (va_A wc sz)) mc ms (va_A wc sz)) (g : GLH own index y bytes maxL rt hh n) (hrm : rm.cells = mc ∧ rm.slots = ms) (hR : rm.frames + 1 ≤ R.frames ∧ 8 + (maxL + 11) + rm.locals ≤ R.locals) (hcs : cells + mc ≤ R.cells ∧ slots + ms ≤ R.slots) (gs : List Nat) (hC : (plc 0 gs).map (fun i => ws[i]?) = wc.map some) (hst : st0 = As.reverse ++ st) (hcat : (st.map fun v => v.category).sum ≤ 8) (hn : As.length = n) (hadr : ∀ (r : Int32) (u : Sg), post r u → ((wf u).map Prod.fst).take wc.length = wc.map Prod.fst) (d : decode cc pc = .ok (.invokestatic index, 3)) (kk : ∀ (r : Int32) (u : Sg), post r u → V p l e R s m args below meth c D A nL (cells + mc) (slots + ms) Q (pc + 3) lv (.int r :: st) (mrg gs ws (wf u))) : V p l e R s m args below meth c D A nL cells slots Q pc lv st0 ws := fun H locs ls hl hP hD hS => by
  subst hst
  have hPc : va_P D vwCl wc H := fun k q hk => by
    obtain ⟨i, -, hi⟩ := map_at hC k q hk
    exact hP i q hi
  have hDc : va_D A wc := hD.sub (plc 0 gs) (plc_nd gs 0) hC
  have hFc := va_free hD hS B.2.2.2.1 (plc 0 gs) hC
  have hG : GoodIn lw_good (va_wsS own index y (Cond.codeWith y bytes maxL rt hh :: lw_good)) := fun w hw => by
    rcases List.mem_append.mp hw with hw | hw
    · simp only [List.mem_cons, List.not_mem_nil, or_false] at hw
      rcases hw with rfl | rfl | rfl
      · exact ⟨g.1.1, good_of_word (mg_of g.1.1)⟩
      · exact ⟨g.1.2.1, good_of_word (mg_of g.1.2.1)⟩
      · exact ⟨g.1.2.2.1, good_of_word (mg_of g.1.2.2.1)⟩
    · rcases List.mem_cons.mp hw with rfl | hw
      · exact ⟨g.1.2.2.2, good_of_word (mg_of g.1.2.2.2)⟩
      · exact ⟨hw, good_of_word (mg_of hw)⟩
  refine va_calli (vx_runSW (As := As) (rest := st) ⟨B.1.1, B.1.2.1, B.1.2.2.1, B.1.2.2.2.1, B.1.2.2.2.2⟩ (hM H.size) (vx_cwSW n B.1.2.2.2.2 hG rfl hrm.1 hrm.2 g.2 hR) ⟨fun a U g mk q => PreX_blind a U g mk q, fun U hU hW => ⟨rfl, by rw [hU], by rw [hU]; exact hPc, va_K.moved hW.alike B.2.1, hDc.weaken (fun _ _ _ _ => trivial), EB.call hS hFc hU hW⟩⟩ rfl hn hl.1 rfl (by show 2 * 0 + (st.map fun v => v.category).sum ≤ 8; omega) d hcs) hS (fun q _ h => hFc q h) hFc (fun r u t H1 locs ht hvm hw hB hz1 hk1 hS => ?_)
  obtain ⟨hP1, hD1⟩ := hB
  rw [ht] at hP1
  obtain ⟨hP, hD⟩ := mrg_ok hP hD gs hC (hadr r u hw) hk1 hFc hP1 hD1
  exact kk r u hw H1 locs ls hl hP hD hS
end VLW
theorem lc_refl (x : Int64) : lg_cmp x x = 0 := (lg_cmp_eq x x).mpr rfl
theorem mod32 {x : Int32} (h0 : (0 : Int) ≤ x.toInt) (h1 : x.toInt ≤ 511) : x - x / 32 * 32 = x &&& 31 := by
  have h2 : ∀ j : Nat, j < 512 → nI j - nI j / 32 * 32 = nI j &&& 31 := by decide +kernel
  have h3 : ¬ x < 0 := q_nlt h0 (by decide)
  obtain ⟨j, hj, rfl⟩ := nI_of h3
  rw [nI_toInt hj] at h1
  exact h2 j (by omega)
/-! THE CLAIM OUT OF ONE WALK OF THE LAW'S BODY. Your part is whole_start (and what it stands on); all else here is the same for every law, but numbers. -/
def R_law : String := "ShortcutBookLaw"
def lw_P (b : Addr) (xs : List Int32) (args : Array Value) (s : State) : Prop := args = #[.ref b] ∧ s.IntsAt b xs ∧ xs.length ≤ 3072 ∧ (Jvm.Cond.and given_1 narrow_1).before args s = true
/-- what a walk over the start with the record d0 says of its end, said of the start itself -/
theorem lw_closed {s t : State} {o : Outcome} {d0 : Drawn} {L : List Loc} {k n : Nat} (hd0 : s.drawn.sameBut d0 lw_cs) (hv : ∃ v, o = .returned v) (hW : (s.setDrawn d0).WarmedH t.vm) (hs : (s.setDrawn d0).sameButNew ({ t with vm := s.vm } : State) L k n) : State.butDraws s t lw_cs (fun t1 => Framed s o t1 L k n) := by
  have h2 : t.drawn = d0 := congrArg State.drawn hs.1
  refine ⟨⟨hv, hW, State.sameButNew.setDrawn hs s.drawn⟩, ?_, by decide⟩
  rw [h2]
  exact hd0
def lw_Q (_ : Array Value) (s : State) (o : Outcome) (t : State) : Prop := o = .returned (some (.int 1)) ∧ State.butDraws s t lw_cs (fun t1 => Framed s o t1 [] 603072 7190633)
def lw_Z (below : List Frame) (a : Array Value) (s : State) : State → Prop := fun t => ∃ o, t.status = .running ∧ Ended t below o ∧ lw_Q a s o t
/-- the law's own end, with 1 on the stack, nothing written that was there before, its room as the claim has it; d0: the record of draws at this point (at the entry s.drawn: begin with 'refine W.base ?_' and 'have hd0 := Drawn.sameBut.refl s.drawn lw_cs') -/
theorem lw_ret {p : Program} {l : Launch} {e : Env} {s : State} {m : MethodId} {below : List Frame} {meth : Method} {c : Code} {b : Nat} {d0 : Drawn} (hd0 : s.drawn.sameBut d0 lw_cs) (hx : p.tables.exec = Jvm.exec) (hb : c.code = code) (hr : meth.sig.returnType = ret) (hlocks : meth.locks = false) {pc : Nat} {H : Heap} {ls : Array Slot} (hdg : decode code pc = .ok (.ireturn, 1)) : W p l e room_1 (s.setDrawn d0) m #[Value.ref b] below meth c H [] 603072 7190633 (lw_Z below #[Value.ref b] s) (F0 m pc ls [.int 1]) := by
  intro T hT X
  obtain ⟨fs, hret, hrun, hended, hW, hframe⟩ := X.leave (v := some (.int 1)) (hlocks := hlocks) (fun h => by rw [hr] at h; cases h)
  have hmeth' : T.vm.method? m = some meth := X.method'
  refine ⟨T.setFrames fs, ?_, .returned (some (.int 1)), hrun, hended, rfl, lw_closed hd0 ⟨_, rfl⟩ hW hframe⟩
  jvm_step X.here [X.here.top, hx, hb, hdg, hmeth', hr, ret, narrow_b1]
  (try refine ⟨rfl, ?_⟩); (try refine ⟨rfl, ?_⟩)
  first | (intro acts; rw [hret _ acts rfl rfl rfl]) | rw [hret _ _ rfl rfl rfl]
  exact Steps.refl _
/-- what holds at the law's entry: the machine, the code, the tables' words (any of lw_tbl by 'hts w (by decide +kernel)'), the script of L ints xs at the cell b, what the Statement gives of the start (any of its parts by flat_of_before) -/
def lw_At (p : Program) (s : State) (m : MethodId) (meth : Method) (c : Code) (b L : Nat) (xs : Nat → Int32) : Prop :=
  p.tables.exec = Jvm.exec ∧ c.code = code ∧ meth.sig.returnType = ret ∧ c.maxLocals = 8 ∧ s.vm.findClass R_law = some m.cls ∧ (∀ w ∈ lw_tbl, w.before #[Value.ref b] s = true) ∧ va_X b L xs s s.heap ∧ b < s.heap.size ∧ meth.locks = false ∧ (Jvm.Cond.and given_1 narrow_1).before #[Value.ref b] s = true
theorem law_end {p : Program} {l : Launch} {e : Env} {s : State} {m : MethodId} {below : List Frame} {meth : Method} {c : Code} {b : Nat} {D : va_G} {Y : Nat → ClassId} (hB : VB p s m #[Value.ref b] meth c D Y (fun q => s.heap.size ≤ q) cL_law 8 RL ret) {cells slots : Nat} (hc : cells ≤ 603072) (hs : slots ≤ 7190633) (d0 : decode cL_law 2156 = .ok (.iconst 1, 1)) (d1 : decode cL_law 2157 = .ok (.ireturn, 1)) {lv : List (Nat × Value)} {ws : va_W} : V p l e room_1 s m #[Value.ref b] below meth c D (fun q => s.heap.size ≤ q) 8 cells slots (lw_Z below #[Value.ref b] s) 2156 lv [] ws := fun H locs ls hl hP hD hS => by
  refine lv_iconst (v := 1) hB.1.1 hB.1.2.1 d0 (by decide) ?_
  refine va_forget (fun q hq => hS.2.2 q hq) ?_
  refine W.widen (k := 603072) (n := 7190633) hc hs ?_
  refine W.base ?_
  exact lw_ret (Drawn.sameBut.refl s.drawn lw_cs) hB.1.1 hB.1.2.1 hB.2.2.2.2 hB.2.2.1 d1
