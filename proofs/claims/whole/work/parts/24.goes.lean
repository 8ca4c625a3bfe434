/-! ===== a call that throws ===== -/
theorem cellEq {c c' : Cell} (h1 : c' = { c with slots := c'.slots }) (h2 : c'.slots.size = c.slots.size) (h3 : ∀ i : Nat, c'.slots[i]? = c.slots[i]?) : c' = c := by
  have : c'.slots = c.slots := Array.ext_getElem? h3
  rw [h1, this]
theorem same_kept {s s' : State} {a b : Nat} (h : s.sameButNew s' [] a b) : ∀ (q : Nat) (c : Cell), s.heap[q]? = some c → s'.heap[q]? = some c := by
  intro q c hc
  obtain ⟨c', h1, h2, h3, h4⟩ := h.2.2.2.2.2 q c hc
  rw [h1, cellEq h2 h3 (fun i => h4 i (fun z => by cases z))]
section TG
variable {p : Program} {l : Launch} {e : Env} {R : Room} {s : State} {m : MethodId} {args : Array Value} {below : List Frame} {meth : Method} {c : Code} {T : State} {locs : List Loc} {cells slots : Nat}
/-- the callee throws: its exception lies over the caller's frame, which stands as before -/
theorem thr_go {y : MethodName} {bytes : ByteArray} {maxL fr lo : Nat} {ret : Option FieldType} {av : List Value} {B : State → Prop} (hM : thr l y bytes maxL ret fr lo av B) (X : Stand p l e R s m args below meth c T locs cells slots) {g : JFrame} (hg : g.method = m) (hsize : g.locals.size = c.maxLocals) {ig : Instr} {len : Nat} (hdg : decode c.code g.pc = .ok (ig, len)) (hW : 2 * g.monitorRoom + (g.stack.map fun v => v.category).sum ≤ 8)
    {mk : MethodId} (hn : T.methodNamed? y = some mk) (hB : va_Pc av (fun U => B U ∧ twS U) av.toArray (T.calling g mk av.toArray)) (hR : fr + 1 ≤ R.frames ∧ 8 + (maxL + 11) + lo ≤ R.locals ∧ cells + 1 ≤ R.cells ∧ slots + 6 ≤ R.slots) (hws : ∀ w ∈ wT y bytes maxL ret, w.before av.toArray T = true) (hini : (Cond.initialized y.cls).before av.toArray T = true) :
    ∃ (x : Addr) (V : State) (cell : Cell), (∀ acts, Steps p.tables e below (doInvoke e (T.setTop g) acts mk av.toArray).1 ((V.setTop g).pushFrame (.throwing x))) ∧ Stand p l e R s m args below meth c V (locs ++ []) (cells + 1) (slots + 6) ∧ V.heap[x]? = some cell ∧ cell.vm.isStatics = false ∧ T.vm.findClass RXE = some cell.cls ∧ T.heap.size ≤ x ∧ T.heap.size ≤ V.heap.size ∧ ∀ (q : Nat) (c : Cell), T.heap[q]? = some c → V.heap[q]? = some c := by
  have hcode : (Cond.code y bytes maxL ret).before av.toArray T = true := hws _ List.mem_cons_self
  obtain ⟨methY, cY, hmY, hcY, -, hlY, -, -, -, -⟩ := Cond.code_spec hn hcode
  obtain ⟨kY, hkY, -⟩ := className_of_methodNamed hn
  have hinitY : kY.init = .initialized := Cond.initialized_spec (findClass_of_methodNamed hn) hkY hini
  have h : At T g.method c below := by rw [hg]; exact X.here
  have happ : (headSpec (wT y bytes maxL ret) ({ frames := fr, cells := 1, slots := 6, locals := lo } : Room)).appliesLoose y e.platform (T.calling g mk av.toArray) = true :=
    Spec.appliesLoose_calling (g := g) h hdg hn hkY hinitY
      (X.room_calling (g := g) (R' := (headSpec (wT y bytes maxL ret) ({ frames := fr, cells := 1, slots := 6, locals := lo } : Room)).room) hsize hmY hcY hR.1 (by rw [hlY]; show _ + _ + lo ≤ _; omega) hR.2.2.1 hR.2.2.2) (atoms_intro hws)
  obtain ⟨mid, hmid⟩ := h.above
  have hfr : (T.setTop g).frames = (.java g :: mid) ++ below := by rw [State.frames_setTop' g h.top, hmid]; rfl
  obtain ⟨o, s₂, hsteps, -, hend, x, cell, rfl, hx, hxs, hxc, hxn, hW₂, hsame⟩ := Steps.callFree hM p X.admits X.cas X.clock (acts := []) hfr happ hB trivial
  have hend' : s₂.frames = .throwing x :: (T.setTop g).frames := hend
  rw [State.frames_setTop' g h.top] at hend'
  have hW' : T.WarmedH s₂.vm := hW₂
  obtain ⟨e2, q2, q3, q4, q5, q6⟩ := id hsame
  have e3 : s₂ = ({ (T.calling g mk av.toArray).setFrames s₂.frames with heap := s₂.heap, slotsUsed := s₂.slotsUsed } : State).setVm s₂.vm := by
    have e4 : s₂ = ({ s₂ with vm := (T.calling g mk av.toArray).vm } : State).setVm s₂.vm := rfl
    exact e4.trans (congrArg (fun z : State => z.setVm s₂.vm) e2)
  obtain ⟨g₀, hg0⟩ := Option.isSome_iff_exists.mp h.top
  obtain ⟨r, hr⟩ := State.topJava?_eq_some.mp hg0
  have hV : s₂ = ((({ T with heap := s₂.heap, slotsUsed := s₂.slotsUsed } : State).setVm s₂.vm).setTop g).pushFrame (.throwing x) := by
    have hr' : (({ T with heap := s₂.heap, slotsUsed := s₂.slotsUsed } : State).setVm s₂.vm).frames = .java g₀ :: r := hr
    refine e3.trans ?_
    rw [hend', State.calling_eq h.top, State.setFrames_setFrames, State.pushFrame, State.setTop_of_frames _ hr', State.setFrames_setFrames, hr]
    have hfs : ((({ T with heap := s₂.heap, slotsUsed := s₂.slotsUsed } : State).setVm s₂.vm).setFrames (.java g :: r)).frames = .java g :: r := State.frames_setFrames _ (State.cur_lt_of_frames hr')
    rw [hfs]
    rfl
  have hsT : T.sameButNew ({ T with heap := s₂.heap, slotsUsed := s₂.slotsUsed } : State) [] 1 6 := by
    refine ⟨?_, q2, q3, q4, q5, q6⟩
    obtain ⟨t, ht, -⟩ := State.frames_cons hr
    show ({ T with heap := s₂.heap, slotsUsed := s₂.slotsUsed } : State) = { T.setFrames T.frames with heap := s₂.heap, slotsUsed := s₂.slotsUsed }
    rw [State.setFrames_self ht]
  refine ⟨x, ({ T with heap := s₂.heap, slotsUsed := s₂.slotsUsed } : State).setVm s₂.vm, cell, fun acts => ?_, ?_, hx, hxs, hxc, hxn, q2, ?_⟩
  · rw [← hV]
    rw [doInvoke_state] at hsteps ⊢
    exact hsteps
  · subst hg
    exact ⟨X.admits, X.cas, X.clock, X.frames, X.room, X.hears, X.method, X.code, (X.here.setHeapUsed s₂.heap s₂.slotsUsed).setVm hW'.alike, X.tail, State.WarmedH.trans X.warmed hW', X.limits, X.bytes, X.same.trans (hsT.setVm s.vm)⟩
  · intro q c hc
    exact same_kept hsT q c hc
end TG
