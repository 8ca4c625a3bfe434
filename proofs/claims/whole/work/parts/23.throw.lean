/-! ===== what is thrown: the exception is made and thrown; it goes out of a method; it is caught ===== -/
abbrev RXE : String := "java/lang/ArrayIndexOutOfBoundsException"
abbrev chE : List String := ["java/lang/IndexOutOfBoundsException", "java/lang/RuntimeException", "java/lang/Exception"]
/-- the words on Throwable's statics -/
def twL : List Cond := [.laysStatic "java/lang/Throwable" "UNASSIGNED_STACK" "[Ljava/lang/StackTraceElement;", .laysStatic "java/lang/Throwable" "SUPPRESSED_SENTINEL" "Ljava/util/List;", .isRef (.static "java/lang/Throwable" "UNASSIGNED_STACK" "[Ljava/lang/StackTraceElement;"), .isRef (.static "java/lang/Throwable" "SUPPRESSED_SENTINEL" "Ljava/util/List;")]
/-- words on classes and constructors that the tables keep -/
def twV : List Cond := [.declares ⟨"java/lang/IndexOutOfBoundsException", "<init>", "(Ljava/lang/String;)V"⟩, .declares ⟨"java/lang/RuntimeException", "<init>", "(Ljava/lang/String;)V"⟩, .declares ⟨"java/lang/Exception", "<init>", "(Ljava/lang/String;)V"⟩, .declares ⟨"java/lang/Throwable", "<init>", "(Ljava/lang/String;)V"⟩, .castable RXE RXE]
theorem twV_keep {s U : State} {A A' : Array Value} (hW : s.WarmedH U.vm) : ∀ w ∈ twV, w.before A s = true → w.before A' U = true := by
  intro w hw h
  have hf : w.keepsFace = true := by
    simp only [twV, List.mem_cons, List.not_mem_nil, or_false] at hw
    rcases hw with rfl | rfl | rfl | rfl | rfl <;> rfl
  have ho : w.onTables = true := by
    simp only [twV, List.mem_cons, List.not_mem_nil, or_false] at hw
    rcases hw with rfl | rfl | rfl | rfl | rfl <;> rfl
  have h1 := Cond.before_shiftedFace (args := A) (State.Shifted.of_warmed hW) w hf h
  rw [Cond.onTables_vm (A' := A') (U' := U) U.vm w ho, State.setVm_self] at h1
  exact h1
/-- a text of the class that has been resolved -/
def sR (U : State) (index : Nat) : Prop := ∃ (cur : ClassId) (k : Class) (cf : ClassFile) (i a : Nat), U.vm.findClass RX0 = some cur ∧ U.vm.classes[cur]? = some k ∧ k.cf = some cf ∧ cf.constantPool[index]? = some (.string i) ∧ k.resolved[index]? = some (some (.string a))
def twS (U : State) : Prop := (∀ A : Array Value, ∀ w ∈ twL, w.before A U = true) ∧ (sR U 121 ∧ sR U 123 ∧ sR U 95 ∧ sR U 125) ∧ ∀ A : Array Value, ∀ w ∈ twV, w.before A U = true
theorem sR_keep {s U : State} {i : Nat} (h : sR s i) (hW : s.WarmedH U.vm) : sR U i := by
  obtain ⟨cur, k, cf, j, a, h1, h2, h3, h4, h5⟩ := h
  obtain ⟨k', hk', he⟩ := hW.alike.2.2 _ _ h2
  refine ⟨cur, k', cf, j, a, by rw [hW.alike.findClass]; exact h1, hk', by rw [he]; exact h3, h4, ?_⟩
  rcases hW.entry h2 hk' i with h | ⟨h, -⟩
  · rw [h]; exact h5
  · rw [h5] at h; cases h
theorem tw_heap {V U : State} {A A' : Array Value} (hv : V.vm = U.vm) (hh : ∀ (q : Nat) (c : Cell), V.heap[q]? = some c → U.heap[q]? = some c) : ∀ w ∈ twL, w.before A V = true → w.before A' U = true := by
  have hf : ∀ a b d, U.fieldFound? a b d = V.fieldFound? a b d := fun a b d => by unfold State.fieldFound?; rw [hv]
  have key1 : ∀ o n d, (Cond.laysStatic o n d).before A V = true → (Cond.laysStatic o n d).before A' U = true := by
    intro o n d h
    simp only [Cond.before, Cond.holds, Cond.value] at h ⊢
    rw [hf, ← hv]
    cases h1 : V.vm.findClass o with
    | none => simp [h1] at h
    | some c =>
      cases h2 : V.fieldFound? o n d with
      | none => simp [h1, h2] at h
      | some x =>
        obtain ⟨c', k, j, f⟩ := x
        simp only [h1, h2] at h ⊢
        cases h3 : k.statics with
        | none => simp [h3] at h
        | some q =>
          cases h4 : V.heap[q]? with
          | none => simp [h3, h4] at h
          | some cell =>
            have h5 := hh q cell h4
            simpa [h3, h4, h5] using h
  have key2 : ∀ o n d, (Cond.isRef (.static o n d)).before A V = true → (Cond.isRef (.static o n d)).before A' U = true := by
    intro o n d h
    simp only [Cond.before, Cond.holds, Cond.value, Term.eval, State.fieldNamed?] at h ⊢
    rw [hf]
    cases h2 : V.fieldFound? o n d with
    | none => simp [h2] at h
    | some x =>
      obtain ⟨c', k, j, f⟩ := x
      cases h3 : k.statics with
      | none => cases h6 : f.isStatic <;> simp [h2, h3, h6] at h
      | some q =>
        cases h4 : V.heap[q]? with
        | none => cases h6 : f.isStatic <;> simp [h2, h3, h4, h6] at h
        | some cell =>
          have h5 := hh q cell h4
          cases h6 : f.isStatic with
          | false => simp [h2, h6] at h
          | true => simpa [h2, h3, h4, h5, h6] using h
  intro w hw h
  simp only [twL, List.mem_cons, List.not_mem_nil, or_false] at hw
  rcases hw with rfl | rfl | rfl | rfl
  · exact key1 _ _ _ h
  · exact key1 _ _ _ h
  · exact key2 _ _ _ h
  · exact key2 _ _ _ h
theorem twS_keep {s U : State} (h : twS s) (hW : s.WarmedH U.vm) (hh : ∀ (q : Nat) (c : Cell), s.heap[q]? = some c → U.heap[q]? = some c) : twS U := by
  refine ⟨fun A w hw => ?_, ⟨sR_keep h.2.1.1 hW, sR_keep h.2.1.2.1 hW, sR_keep h.2.1.2.2.1 hW, sR_keep h.2.1.2.2.2 hW⟩, fun A w hw => twV_keep hW w hw (h.2.2 A w hw)⟩
  have hst : w.steady = true := by
    simp only [twL, List.mem_cons, List.not_mem_nil, or_false] at hw
    rcases hw with rfl | rfl | rfl | rfl <;> rfl
  have h1 : w.before A (s.setVm U.vm) = true := by
    have h0 := h.1 A w hw
    simp only [Cond.before, Cond.holds] at h0 ⊢
    rw [Cond.value_setVm hW.alike w [] hst]
    exact h0
  exact tw_heap (V := s.setVm U.vm) (U := U) rfl hh w hw h1
set_option maxRecDepth 100000 in
theorem tw_own : ∀ a ∈ Bundle.ownAtoms RX0 97 RXE chE, a ∈ tbG ∨ (a ∈ twL ∨ a ∈ twV) := by decide +kernel
/-- how a method ends that throws: with an exception of its own making, nothing else changed -/
def Qt : Array Value → State → Outcome → State → Prop := fun _ st o t => ∃ (x : Addr) (cell : Cell), o = .threw x ∧ t.heap[x]? = some cell ∧ cell.vm.isStatics = false ∧ st.vm.findClass RXE = some cell.cls ∧ st.heap.size ≤ x ∧ st.WarmedH t.vm ∧ st.sameButNew ({ t with vm := st.vm } : State) [] 1 6
def MT (below : List Frame) (a : Array Value) (s : State) : State → Prop := fun t => ∃ o, t.status = .running ∧ Ended t below o ∧ Qt a s o t
abbrev thr (l : Launch) (y : MethodName) (cc : ByteArray) (nL : Nat) (ret : Option FieldType) (fr lo : Nat) (av : List Value) (B : State → Prop) : Prop :=
  MetFree l y (headSpec (wT y cc nL ret) ({ frames := fr, cells := 1, slots := 6, locals := lo } : Room)) (va_Pc av (fun U => B U ∧ twS U)) (fun _ _ _ _ _ => True) Qt
theorem thr_ofW {l : Launch} {y : MethodName} {cc : ByteArray} {nL fr lo : Nat} {ret : Option FieldType} {av : List Value} {B : State → Prop} (own : String) (hy : plainName y.cls = true) (ho : y.cls = own) (hn : (lg_sl av).length ≤ nL)
    (body : ∀ (p : Program) (e : Env) (s : State) (m : MethodId) (below : List Frame) (meth : Method) (c : Code), CallFix p m c cc nL s av.toArray tbG own → c.exceptionTable.toList = [] → meth.locks = false → B s → twS s → ∀ ls : Array Slot, lv_has ls nL (lv_args 0 av) →
      W p l e ({ frames := fr, cells := 1, slots := 6, locals := lo } : Room) s m av.toArray below meth c s.heap [] 0 0 (MT below av.toArray s) (F0 m 0 ls [])) : thr l y cc nL ret fr lo av B := by
  refine MetFree.of_bodyS (code := cc) (maxLocals := nL) (ret := ret) hy ?_ ?_
  · intro args s m h hn
    obtain ⟨meth, c, h1, h2, h3, h4, h5, h6, -, -⟩ := Cond.code_spec hn (atoms_spec (ws := wT y cc nL ret) h _ List.mem_cons_self)
    exact ⟨meth, c, h1, h2, h3, h4, h5, h6⟩
  · intro p e s m args below meth c s₁ B0 hml hv _
    obtain ⟨rfl, hB, ht⟩ := hv
    have hts := atoms_spec (ws := wT y cc nL ret) B0.pre
    have hown : s.vm.findClass own = some m.cls := by rw [← ho]; exact findClass_of_methodNamed B0.named
    have hex := B0.noHandlers (hts _ List.mem_cons_self)
    have hex : c.exceptionTable.toList = [] := by simpa [Array.isEmpty] using hex
    have hml : c.maxLocals = nL := B0.maxLocals_eq (hts _ List.mem_cons_self)
    have hl := lv_entry av (n := nL) hn
    have hh0 : s₁.heap = s.heap := by rw [B0.state]; rfl
    have K : W p l e ({ frames := fr, cells := 1, slots := 6, locals := lo } : Room) s m av.toArray below meth c s.heap [] 0 0 (MT below av.toArray s) (entryFrame m av.toArray nL) := by
      rw [lg_entry_eq]
      generalize (lg_sl av ++ List.replicate (nL - (lg_sl av).length) Slot.unset).toArray = ls at hl ⊢
      exact body p e s m below meth c ⟨B0.exec, B0.bytes, hml, hown, fun w hw => hts w (List.mem_cons_of_mem _ hw)⟩ hex B0.notSynchronized hB ht ls hl
    obtain ⟨t, a1, o, b1, b2, b3⟩ := K s₁ hh0 (Stand.of_body B0)
    exact ⟨t, o, a1, b1, b2, b3⟩
theorem tE_words : Cond.classLink RX0 93 RXE ∈ tbG ∧ Cond.instantiable RXE 6 ∈ tbG ∧ Cond.initialized RXE ∈ tbG := by decide +kernel
section TH
variable {p : Program} {l : Launch} {e : Env} {R : Room} {s : State} {m : MethodId} {args : Array Value} {below : List Frame} {meth : Method} {c : Code} {H : Heap} {locs : List Loc} {cells slots : Nat} {Q : State → Prop}
variable {cc : ByteArray} {pc nL : Nat} {ls : Array Slot} {rest : List Value} {own : String}
/-- throw new ArrayIndexOutOfBoundsException("..") -/
theorem thr_new {ix : Nat} (S : CallFix p m c cc nL s args tbG RX0) (hfl : l.flags = flags0) (hex : c.exceptionTable.toList = []) (hlk : meth.locks = false) (ht : twS s) (hs : sR s ix) (hls : ls.size = nL) (h0 : decode cc pc = .ok (.new 93, 3)) (h3 : decode cc (pc + 3) = .ok (.dup, 1)) (h4 : decode cc (pc + 3 + 1) = .ok (.ldc ix, 2)) (h6 : decode cc (pc + 3 + 1 + 2) = .ok (.invokespecial 97, 3)) (h9 : decode cc (pc + 3 + 1 + 2 + 3) = .ok (.athrow, 1))
    (hR : 6 < R.frames ∧ 95 ≤ R.locals ∧ 1 ≤ R.cells ∧ 6 ≤ R.slots) : W p l e R s m args below meth c s.heap [] 0 0 (MT below args s) (F0 m pc ls []) := by
  refine W.newc S.1 S.2.1 S.2.2.2.1 (S.2.2.2.2 _ tE_words.1) (S.2.2.2.2 _ tE_words.2.1) (S.2.2.2.2 _ tE_words.2.2) rfl h0 (by omega) (by omega) (fun cC kC c1 c2 c3 c4 => ?_)
  refine W.eq (g2 := F0 m (pc + 3) ls [.ref s.heap.size]) rfl ?_
  refine lv_dup S.1 S.2.1 h3 rfl ?_
  intro T hT X
  obtain ⟨cur, k, cf, i, a, q1, q2, q3, q4, q5⟩ := hs
  have ecur : cur = m.cls := Option.some.inj (q1.symm.trans S.2.2.2.1)
  subst ecur
  obtain ⟨k', hk', he⟩ := X.warmed.alike.2.2 _ _ q2
  have hr' : k'.resolved[ix]? = some (some (.string a)) := by
    rcases X.warmed.entry q2 hk' ix with h | ⟨h, -⟩
    · rw [h]; exact q5
    · rw [q5] at h; cases h
  have hatoms : ∀ w ∈ Bundle.ownAtoms RX0 97 RXE chE, w.before args s = true := fun w hw => (tw_own w hw).elim (fun h => S.2.2.2.2 w h) (fun h => h.elim (fun h => ht.1 args w h) (fun h => ht.2.2 args w h))
  have hcell : T.heap[s.heap.size]? = some (freshCell cC kC) := by rw [hT]; simp [freshCell]
  obtain ⟨U, hsteps, hrun, hend, hW, hsame, ce, hce, hoc⟩ := X.ctorThrowS S.1 (Launch.traces_off hfl X.admits) (own := RX0) (cls := RXE) (names := chE) (ic := 97) S.2.2.2.1 (by decide) (by decide) hatoms (fun x hx => by cases hx) c1 c2 hcell (Nat.le_refl _) (msg := .ref a) rfl
    (g := F0 m (pc + 3 + 1 + 2) ls [.ref a, .ref s.heap.size, .ref s.heap.size]) rfl (hls.trans S.2.2.1.symm) rfl rfl (rest := []) rfl (by rw [S.2.1]; exact h6) (by rw [S.2.1]; exact h9) (fun x hx => by rw [hex] at hx; cases hx) hR.1 (show 2 * 0 + 1 + (13 * (3 + 1) + 42) ≤ R.locals by omega) (hlocks := hlk)
  refine ⟨U, ?_, .threw s.heap.size, hrun, hend, s.heap.size, ce, rfl, hce, by rw [hoc.vm]; rfl, hoc.cls, Nat.le_refl _, hW, ?_⟩
  · have hmc : (F0 m (pc + 3 + 1) ls [.ref s.heap.size, .ref s.heap.size]).method = m := rfl
    jvm_step X.here [S.1, S.2.1, h4, ldc.wp_string (e := e) (s := T) (f := F0 m (pc + 3 + 1) ls [.ref s.heap.size, .ref s.heap.size]) X.here.top hk' (by rw [he]; exact q3) q4 hr']
    exact hsteps
  · exact hsame.mono (by omega) (by omega)
end TH
