/-! ===== out of a method, and into a handler ===== -/
section TO
variable {p : Program} {l : Launch} {e : Env} {R : Room} {s : State} {m : MethodId} {args : Array Value} {below : List Frame} {meth : Method} {c : Code} {T : State} {H : Heap} {locs : List Loc} {cells slots : Nat} {Q : State → Prop}
variable {cc : ByteArray} {pc nL : Nat} {ls : Array Slot} {rest : List Value} {own : String}
theorem thr_end {x : Addr} {V T0 : State} {cell : Cell} (hex : c.exceptionTable.toList = []) (hlk : meth.locks = false) {g : JFrame} (hg : g.method = m) (hlo : g.locked = none) (hen : g.entered = []) (X : Stand p l e R s m args below meth c V ([] ++ []) (0 + 1) (0 + 6)) (hx : V.heap[x]? = some cell) (hxs : cell.vm.isStatics = false) (hxc : s.vm.findClass RXE = some cell.cls) (hxn : s.heap.size ≤ x)
    (hst : Steps p.tables e below T0 ((V.setTop g).pushFrame (.throwing x))) : ∃ t, Steps p.tables e below T0 t ∧ MT below args s t := by
  obtain ⟨h1, h2, h3, h4, h5⟩ := X.leaveThrown x (g := g) hg hlo hen (fun y hy => by rw [hex] at hy; cases hy) (hlocks := hlk)
  exact ⟨_, hst.trans h1, .threw x, h2, h3, x, cell, rfl, hx, hxs, hxc, hxn, h4, h5⟩
/-- a static thrower is called, and nobody catches here -/
theorem thr_outS {y : MethodName} {bytes : ByteArray} {maxL index fr lo : Nat} {ret : Option FieldType} {B : State → Prop} {As st : List Value} (S : CallFix p m c cc nL s args tbG own) (hex : c.exceptionTable.toList = []) (hlk : meth.locks = false) (ht : twS s) (hM : thr l y bytes maxL ret fr lo As B) (hB : ∀ U : State, U.heap = s.heap → s.WarmedH U.vm → B U)
    (hG : GoodIn tbG (wsS own index y (wT y bytes maxL ret))) (hd : y.cls = own ∧ y.cls ≠ "java/lang/invoke/MethodHandle" ∧ y.cls ≠ "java/lang/invoke/VarHandle" ∧ (parseMethodDescriptor y.desc).map (fun d => d.parameters.length) = some As.length) (hR : fr + 1 ≤ R.frames ∧ 8 + (maxL + 11) + lo ≤ R.locals ∧ 0 + 1 ≤ R.cells ∧ 0 + 6 ≤ R.slots)
    (hls : ls.size = nL) (hst : st = As.reverse ++ rest) (hW : (rest.map fun v => v.category).sum ≤ 8) (hdg : decode cc pc = .ok (.invokestatic index, 3)) : W p l e R s m args below meth c s.heap [] 0 0 (MT below args s) (F0 m pc ls st) := by
  intro T hT X
  obtain ⟨⟨-, -, -, -, -, -, hcode, hini, hy, hlen, hl⟩, hstt⟩ := cwS (R := { frames := fr + 1, cells := 0, slots := 0, locals := 8 + (maxL + 11) + lo }) (rm := { frames := fr, cells := 0, slots := 0, locals := lo }) (mc := 0) (ms := 0) As.length S.2.2.2.2 hG rfl rfl rfl hd ⟨Nat.le_refl _, Nat.le_refl _⟩
  obtain ⟨mk, hnamed⟩ := Cond.code_named hcode
  obtain ⟨methM, cM, hmethM, -, -, -, -, -, -, hsigM⟩ := Cond.code_spec hnamed hcode
  obtain ⟨kP, hkP, -⟩ := className_of_methodNamed hnamed
  obtain ⟨vm₁, X₁, hstep⟩ := X.invokestatic S.1 S.2.2.2.1 hl hnamed hmethM (Cond.static_spec hnamed hmethM hstt) hkP (Cond.initialized_spec (findClass_of_methodNamed hnamed) hkP hini) hy (g := F0 m pc ls st) rfl (argsL := As) (rest := rest) (hlen _ hsigM) hst (by rw [S.2.1]; exact hdg)
  have hw := pay_in S.2.2.2.2 (fun w h => hG w (by unfold wsS; exact List.mem_append_right _ h))
  obtain ⟨x, V, cell, h1, X2, hx, hxs, hxc, hxn, hz, hk⟩ := thr_go hM X₁ (g := F0 m pc ls rest) rfl (hls.trans S.2.2.1.symm) (by rw [S.2.1]; exact hdg) (lv_room hW) (X₁.named hnamed) ⟨rfl, hB _ hT X₁.warmed, twS_keep ht X₁.warmed (fun q c h => by rw [show ((T.setVm vm₁).calling (F0 m pc ls rest) mk As.toArray).heap = s.heap from hT]; exact h)⟩ hR (fun w h => hw w h _ _ X₁.warmed) (word_at X₁.warmed (Or.inl (by first | rfl | simp [Cond.onTables, Cond.keeps, Cond.steady])) hini)
  refine thr_end hex hlk (g := F0 m pc ls rest) rfl rfl rfl X2 hx hxs (by rw [← X₁.warmed.alike.findClass]; exact hxc) (by rw [← hT]; exact hxn) ?_
  exact hstep _ h1
/-- the same on an object -/
theorem inv_V {y : MethodName} {bytes : ByteArray} {maxL index b : Nat} {ret : Option FieldType} {As st : List Value} {C : String} (X : Stand p l e R s m args below meth c T locs cells slots) (S : CallFix p m c cc nL s args tbG own) (hcl : ∃ cellB : Cell, T.heap[b]? = some cellB ∧ cellB.vm.isStatics = false ∧ s.vm.findClass C = some cellB.cls)
    (hG : GoodIn tbG (wsV own index C y (wT y bytes maxL ret))) (hd : y.cls = C ∧ y.cls ≠ "java/lang/invoke/MethodHandle" ∧ y.cls ≠ "java/lang/invoke/VarHandle" ∧ (parseMethodDescriptor y.desc).map (fun d => d.parameters.length) = some As.length) (hst : st = As.reverse ++ .ref b :: rest) (hdg : decode cc pc = .ok (.invokevirtual index, 3)) :
    ∃ (vm₁ : Vm) (mk : MethodId), Stand p l e R s m args below meth c (T.setVm vm₁) locs cells slots ∧ (T.setVm vm₁).methodNamed? y = some mk ∧ (Cond.initialized y.cls).before args s = true ∧ ∀ target, (∀ acts, Steps p.tables e below (doInvoke e ((T.setVm vm₁).setTop (F0 m pc ls rest)) acts mk (Value.ref b :: As).toArray).1 target) → Steps p.tables e below (T.setTop (F0 m pc ls st)) target := by
  obtain ⟨⟨-, -, -, -, -, -, hcode, hini, hy, hlen, hl⟩, hin, hse⟩ := cwV (R := { frames := 1, cells := 0, slots := 0, locals := 8 + (maxL + 11) }) (rm := { frames := 0, cells := 0, slots := 0, locals := 0 }) (mc := 0) (ms := 0) As.length S.2.2.2.2 hG rfl rfl rfl hd ⟨Nat.le_refl _, Nat.le_refl _⟩
  obtain ⟨cellB, hcB, hoB, hclB⟩ := hcl
  obtain ⟨mk, methM, hnamed, hmethM, hstM, habM⟩ := Cond.instanceMethod_spec hin
  obtain ⟨methM', cM, hmethM', -, -, -, -, -, -, hsigM⟩ := Cond.code_spec hnamed hcode
  cases hmethM.symm.trans hmethM'
  obtain ⟨c2, r2, m2, q1, q2, q3, q4, kP, hkP, hkPi⟩ := Cond.selects_spec hse
  cases hclB.symm.trans q1
  cases (State.methodFound?_of_named hnamed hy).symm.trans q2
  cases hnamed.symm.trans q3
  have hselP : selectMethod e.platform s.vm cellB.cls mk = .method mk := by rw [Launch.admits_selectMethod X.admits]; exact q4
  obtain ⟨vm₁, X₁, hstep⟩ := X.invokevirtual S.1 S.2.2.2.1 hl hnamed hmethM hstM hkP hkPi hy (a := b) (cell := cellB) hcB (fun z h => by rw [h] at hoB; cases hoB) hselP hmethM habM hkP hkPi (g := F0 m pc ls st) rfl (argsL := As) (rest := rest) (hlen _ hsigM) hst (by rw [S.2.1]; exact hdg)
  exact ⟨vm₁, mk, X₁, X₁.named hnamed, hini, hstep⟩
theorem thr_outV {y : MethodName} {bytes : ByteArray} {maxL index fr lo b : Nat} {ret : Option FieldType} {B : State → Prop} {As st : List Value} {C : String} (S : CallFix p m c cc nL s args tbG own) (hex : c.exceptionTable.toList = []) (hlk : meth.locks = false) (ht : twS s) (hM : thr l y bytes maxL ret fr lo (.ref b :: As) B) (hB : ∀ U : State, U.heap = s.heap → s.WarmedH U.vm → B U)
    (hcl : ∃ cellB : Cell, s.heap[b]? = some cellB ∧ cellB.vm.isStatics = false ∧ s.vm.findClass C = some cellB.cls)
    (hG : GoodIn tbG (wsV own index C y (wT y bytes maxL ret))) (hd : y.cls = C ∧ y.cls ≠ "java/lang/invoke/MethodHandle" ∧ y.cls ≠ "java/lang/invoke/VarHandle" ∧ (parseMethodDescriptor y.desc).map (fun d => d.parameters.length) = some As.length) (hR : fr + 1 ≤ R.frames ∧ 8 + (maxL + 11) + lo ≤ R.locals ∧ 0 + 1 ≤ R.cells ∧ 0 + 6 ≤ R.slots)
    (hls : ls.size = nL) (hst : st = As.reverse ++ .ref b :: rest) (hW : (rest.map fun v => v.category).sum ≤ 8) (hdg : decode cc pc = .ok (.invokevirtual index, 3)) : W p l e R s m args below meth c s.heap [] 0 0 (MT below args s) (F0 m pc ls st) := by
  intro T hT X
  obtain ⟨vm₁, mk, X₁, hnm, hini, hstep⟩ := inv_V (ls := ls) (rest := rest) X S (by rw [hT]; exact hcl) hG hd hst hdg
  have hw := pay_in S.2.2.2.2 (fun w h => hG w (by unfold wsV; exact List.mem_append_right _ h))
  obtain ⟨x, V, cell, h1, X2, hx, hxs, hxc, hxn, hz, hk⟩ := thr_go hM X₁ (g := F0 m pc ls rest) rfl (hls.trans S.2.2.1.symm) (by rw [S.2.1]; exact hdg) (lv_room hW) hnm ⟨rfl, hB _ hT X₁.warmed, twS_keep ht X₁.warmed (fun q c h => by rw [show ((T.setVm vm₁).calling (F0 m pc ls rest) mk (Value.ref b :: As).toArray).heap = s.heap from hT]; exact h)⟩ hR (fun w h => hw w h _ _ X₁.warmed) (word_at X₁.warmed (Or.inl (by first | rfl | simp [Cond.onTables, Cond.keeps, Cond.steady])) hini)
  refine thr_end hex hlk (g := F0 m pc ls rest) rfl rfl rfl X2 hx hxs (by rw [← X₁.warmed.alike.findClass]; exact hxc) (by rw [← hT]; exact hxn) ?_
  exact hstep _ h1
end TO
/-- one row in the table of handlers, its class linked: the search ends there -/
theorem ct_find {e : Env} {u : State} {f : JFrame} {a : Addr} {me : Method} {co : Code} {x : ExceptionTableEntry} {c : ClassId} {cell : Cell} (hm : u.vm.method? f.method = some me) (hc : me.code = some co) (ht : co.exceptionTable.toList = [x]) (hx : covers x f.pc = true) (h0 : x.catchType ≠ 0) (hl : u.vm.ClassLinks e.platform f.method.cls x.catchType c) (hcell : u.heap[a]? = some cell) (hobj : ∀ k, cell.vm ≠ .statics k) (hk : ∃ k, u.vm.classes[cell.cls]? = some k) (hkc : ∃ k, u.vm.classes[c]? = some k) (hfit : u.vm.assignable cell.cls c = true)
    (Q : Handler → Pre) (E : CtlPost) (d : Bool) (acts : List Action) : wp (findHandler f a) Q E e d acts u ↔ Q (.found x.handlerPc) d acts (u.setVm (u.vm.noted f.method.cls x.catchType (.cls c))) := by
  rw [W.findHandler_eq hm hc, ht]
  have hal : u.vm.Alike (u.vm.noted f.method.cls x.catchType (.cls c)) := (Vm.Alike.refl u.vm).noted _ _ _
  obtain ⟨r1, r2⟩ := (resolveClass_links e.toSetting hl).op (op := VmOp.resolveClass f.method.cls x.catchType) rfl
  obtain ⟨_, w1⟩ := hk
  obtain ⟨_, w2⟩ := hkc
  obtain ⟨_, v1, -⟩ := hal.2.2 _ _ w1
  obtain ⟨_, v2, -⟩ := hal.2.2 _ _ w2
  have hf2 : (u.vm.noted f.method.cls x.catchType (.cls c)).assignable cell.cls c = true := by rw [hal.assignable]; exact hfit
  simp only [covers] at hx
  simp [findHandler.go, hx, h0, r1, r2, hcell, hobj, v1, v2, hf2, VmOp.dirties, VmOp.acts]
theorem ct_step {tb : Tables} {e : Env} {u target : State} {g : JFrame} {c : Code} {below : List Frame} {a : Addr} (h : At u g.method c below) {pc : Nat} {vm' : Vm} (hf : ∀ (Q : Handler → Pre) (E : CtlPost) (d : Bool) (acts : List Action), wp (findHandler g a) Q E e d acts ((u.setTop g).pushFrame (.throwing a)) ↔ Q (.found pc) d acts (((u.setTop g).pushFrame (.throwing a)).setVm vm'))
    (hrest : Steps tb e below ((u.setVm vm').setTop { g with pc := pc, stack := [.ref a] }) target) : Steps tb e below ((u.setTop g).pushFrame (.throwing a)) target := by
  have one : ∀ r, (stepThrowing e ((u.setTop g).pushFrame (.throwing a)) a (.java g :: r)).Is ((((u.setTop g).pushFrame (.throwing a)).setVm vm').setFrames (.java { g with pc := pc, stack := [.ref a] } :: r)) [] := by
    intro r
    simp only [stepThrowing, searchFrame, vmDo]
    generalize hr : Sem.go _ e false [] ((u.setTop g).pushFrame (.throwing a)) = res
    obtain ⟨as, rfl, ha⟩ := Sem.eq_ok_of hr (a := Handler.found pc) (s' := ((u.setTop g).pushFrame (.throwing a)).setVm vm') (acts' := []) (by simp [hf _ _ _ _])
    exact ⟨rfl, ha⟩
  obtain ⟨hgo, hw⟩ := h.throwing a
  refine Steps.head hgo hw ?_
  rw [stepThread_throwing (frames_entered h.top _), (one _).1]
  obtain ⟨g₀, hg⟩ := Option.isSome_iff_exists.mp h.top
  obtain ⟨r, hr⟩ := State.topJava?_eq_some.mp hg
  have hr' : (u.setVm vm').frames = .java g₀ :: r := hr
  rw [State.setTop_of_frames _ hr'] at hrest
  have e1 : (((u.setTop g).pushFrame (.throwing a)).setVm vm').setFrames (.java { g with pc := pc, stack := [.ref a] } :: r) = (u.setVm vm').setFrames (.java { g with pc := pc, stack := [.ref a] } :: r) := by
    rw [State.pushFrame, State.setTop_of_frames _ hr]
    have e2 : ∀ (z : State) (F : List Frame), (z.setFrames F).setVm vm' = (z.setVm vm').setFrames F := fun _ _ => rfl
    rw [e2, e2, State.setFrames_setFrames, State.setFrames_setFrames]
  rw [hr, List.tail_cons, e1]
  exact hrest
theorem tL_words : Cond.classLink RL 13 RXE ∈ tbG := by decide +kernel
section TC
variable {p : Program} {l : Launch} {e : Env} {R : Room} {s : State} {m : MethodId} {args : Array Value} {below : List Frame} {meth : Method} {c : Code} {T : State} {H : Heap} {locs : List Loc} {cells slots : Nat} {Q : State → Prop}
variable {cc : ByteArray} {pc nL : Nat} {ls : Array Slot} {rest : List Value}
/-- a thrower is called on an object, and caught here -/
theorem thr_catchV {y : MethodName} {bytes : ByteArray} {maxL index fr lo b hp ep : Nat} {ret : Option FieldType} {B : State → Prop} {As st : List Value} {C : String} (S : CallFix p m c cc nL s args tbG RL) (hex : c.exceptionTable.toList = [⟨0, ep, hp, 13⟩]) (hpe : pc < ep) (ht : ∀ U : State, U.heap = H → s.WarmedH U.vm → twS U) (hM : thr l y bytes maxL ret fr lo (.ref b :: As) B) (hB : ∀ U : State, U.heap = H → s.WarmedH U.vm → B U)
    (hcl : ∃ cellB : Cell, H[b]? = some cellB ∧ cellB.vm.isStatics = false ∧ s.vm.findClass C = some cellB.cls)
    (hG : GoodIn tbG (wsV RL index C y (wT y bytes maxL ret))) (hd : y.cls = C ∧ y.cls ≠ "java/lang/invoke/MethodHandle" ∧ y.cls ≠ "java/lang/invoke/VarHandle" ∧ (parseMethodDescriptor y.desc).map (fun d => d.parameters.length) = some As.length) (hR : fr + 1 ≤ R.frames ∧ 8 + (maxL + 11) + lo ≤ R.locals ∧ cells + 1 ≤ R.cells ∧ slots + 6 ≤ R.slots)
    (hls : ls.size = nL) (hst : st = As.reverse ++ .ref b :: rest) (hW : (rest.map fun v => v.category).sum ≤ 8) (hdg : decode cc pc = .ok (.invokevirtual index, 3))
    (kk : ∀ (x : Addr) (H1 : Heap), H.size ≤ H1.size → (∀ (q : Nat) (c : Cell), H[q]? = some c → H1[q]? = some c) → W p l e R s m args below meth c H1 locs (cells + 1) (slots + 6) Q (F0 m hp ls [.ref x])) : W p l e R s m args below meth c H locs cells slots Q (F0 m pc ls st) := by
  intro T hT X
  obtain ⟨vm₁, mk, X₁, hnm, hini, hstep⟩ := inv_V (ls := ls) (rest := rest) X S (by rw [hT]; exact hcl) hG hd hst hdg
  have hw := pay_in S.2.2.2.2 (fun w h => hG w (by unfold wsV; exact List.mem_append_right _ h))
  obtain ⟨x, V, cell, h1, X2, hx, hxs, hxc, hxn, hz, hk⟩ := thr_go hM X₁ (g := F0 m pc ls rest) rfl (hls.trans S.2.2.1.symm) (by rw [S.2.1]; exact hdg) (lv_room hW) hnm ⟨rfl, hB _ hT X₁.warmed, ht _ hT X₁.warmed⟩ hR (fun w h => hw w h _ _ X₁.warmed) (word_at X₁.warmed (Or.inl (by first | rfl | simp [Cond.onTables, Cond.keeps, Cond.steady])) hini)
  rw [List.append_nil] at X2
  have hpl : e.platform.magicAccessors = ({} : Platform).magicAccessors := by rw [X.admits.platform]
  obtain ⟨cE, hcE, hlk⟩ := Cond.classLink_spec S.2.2.2.1 (S.2.2.2.2 _ tL_words) e.platform hpl
  have hcc : cell.cls = cE := Option.some.inj (((show s.vm.findClass RXE = some cell.cls by rw [← X₁.warmed.alike.findClass]; exact hxc)).symm.trans hcE)
  have hVE : V.vm.findClass RXE = some cE := by rw [X2.warmed.alike.findClass]; exact hcE
  obtain ⟨kE, hkE⟩ := Vm.classAt_of_findClass hVE
  have hself : V.vm.assignable cE cE = true := by
    show V.vm.assignableAux (255 + 1) cE cE = true
    rw [Vm.assignableAux]; simp
  have hl2 := State.WarmedH.classLinks X2.warmed hlk
  obtain ⟨dk, _, _, _, hd1, _, _, _, _, _, _, hopen⟩ := hlk.here
  have X3 := X2.noted (X2.warmed.noted hd1 hopen (State.rightAt_cls hlk))
  obtain ⟨t, a1, b1⟩ := kk x V.heap (by rw [← hT]; exact hz) (fun q c h => hk q c (by rw [show (T.setVm vm₁).heap = H from hT]; exact h)) (V.setVm (V.vm.noted m.cls 13 (.cls cE))) rfl X3
  refine ⟨t, hstep _ (fun acts => (h1 acts).trans ?_), b1⟩
  refine ct_step (u := V) (g := F0 m pc ls rest) X2.here (pc := hp) (vm' := V.vm.noted m.cls 13 (.cls cE)) ?_ a1
  have hvv : ((V.setTop (F0 m pc ls rest)).pushFrame (.throwing x)).vm = V.vm := Stand.throwing_vm V (F0 m pc ls rest) x
  have hhh : ((V.setTop (F0 m pc ls rest)).pushFrame (.throwing x)).heap = V.heap := Stand.throwing_heap V (F0 m pc ls rest) x
  intro Q E d acts
  have key := ct_find (e := e) (u := (V.setTop (F0 m pc ls rest)).pushFrame (.throwing x)) (f := F0 m pc ls rest) (a := x) (me := meth) (co := c) (x := ⟨0, ep, hp, 13⟩) (c := cE) (cell := cell) (by rw [hvv]; exact X2.method') X2.code hex (by simp [covers, hpe]) (show (13 : Nat) ≠ 0 by decide) (by rw [hvv]; exact hl2) (by rw [hhh]; exact hx) (VmData.ne_statics_of hxs) (by rw [hvv, hcc]; exact ⟨kE, hkE⟩) (by rw [hvv]; exact ⟨kE, hkE⟩) (by rw [hvv, hcc]; exact hself) Q E d acts
  rw [hvv] at key
  exact key
end TC
