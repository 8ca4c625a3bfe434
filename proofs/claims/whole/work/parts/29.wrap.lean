/-! ===== the law's wrappers: methods with one handler ===== -/
abbrev wTW (y : MethodName) (cc : ByteArray) (n : Nat) (ret : Option FieldType) (hh : List (Nat × Nat × Nat × Nat)) : List Cond := Cond.codeWith y cc n ret hh :: tbG
theorem tb_W {y : MethodName} {cc : ByteArray} {n : Nat} {ret : Option FieldType} {hh : List (Nat × Nat × Nat × Nat)} (h : Cond.codeWith y cc n ret hh ∈ tbG) : GoodIn tbG (wTW y cc n ret hh) := tb_in fun w hw => (List.mem_cons.mp hw).elim (fun e => e ▸ h) id
/-- the law's own row of one long -/
abbrev oc (o : Nat) (cJ : ClassId) (f : Nat → Int64) : Nat × va_E := (o, .inl (cJ, 1, .inr (.inl f)))
abbrev wrW (l : Launch) (y : MethodName) (cc : ByteArray) (nL : Nat) (ret : Option FieldType) (hh : List (Nat × Nat × Nat × Nat)) (fr lo : Nat) (av : List Value) (dC : Nat → ClassId) (dI : Nat → Nat → Nat) (cI cZ cJ : ClassId) {Z : Type} (ws : va_W) (ws' : Z → va_W) (ov : Option Value) : Prop :=
  Met l y (wTW y cc nL ret hh) ({ frames := fr, cells := 0, slots := 0, locals := lo }) (va_Pc av (wB dC dI cI cZ cJ ws)) (QwE dC dI ws ws' ov) 0 0 (wF ws)
theorem wrW_ofW {l : Launch} {y : MethodName} {cc : ByteArray} {nL fr lo : Nat} {ret : Option FieldType} {hh : List (Nat × Nat × Nat × Nat)} {av : List Value} {dC : Nat → ClassId} {dI : Nat → Nat → Nat} {cI cZ cJ : ClassId} {Z : Type} {ws : va_W} {ws' : Z → va_W} {ov : Option Value} (own : String) (hy : plainName y.cls = true) (ho : y.cls = own) (hn : (lg_sl av).length ≤ nL)
    (body : ∀ (p : Program) (e : Env) (s : State) (m : MethodId) (below : List Frame) (meth : Method) (c : Code), CallFix p m c cc nL s av.toArray tbG own → meth.sig.returnType = ret → meth.locks = false → va_K (dC, dI) vcl (vty cI cZ cJ) s → va_P (dC, dI) vcl ws s.heap → va_D (wF ws) ws → va_S (wF ws) s.heap s.heap [] → ∀ ls : Array Slot, lv_has ls nL (lv_args 0 av) →
      W p l e ({ frames := fr, cells := 0, slots := 0, locals := lo } : Room) s m av.toArray below meth c s.heap [] 0 0 (MQ below (QwE dC dI ws ws' ov) av.toArray s 0 0 (wF ws)) (F0 m 0 ls [])) : wrW l y cc nL ret hh fr lo av dC dI cI cZ cJ ws ws' ov := by
  refine va_MetW (cc := cc) (maxL := nL) (ret := ret) (hh := hh) hy rfl ?_
  intro p e s m args below meth c s₁ B0 hml hv
  obtain ⟨rfl, hP, hK, hD⟩ := hv
  have hts := atoms_spec (ws := wTW y cc nL ret hh) B0.pre
  have hown : s.vm.findClass own = some m.cls := by rw [← ho]; exact findClass_of_methodNamed B0.named
  have hl := lv_entry av (n := nL) hn
  rw [lg_entry_eq]
  generalize (lg_sl av ++ List.replicate (nL - (lg_sl av).length) Slot.unset).toArray = ls at hl ⊢
  exact body p e s m below meth c ⟨B0.exec, B0.bytes, hml, hown, fun w hw => hts w (List.mem_cons_of_mem _ hw)⟩ B0.returns B0.notSynchronized hK hP hD.own va_S.rf ls hl
def QwT : Array Value → State → Outcome → State → Prop := fun _ st o t => o = .returned (some (.int (nI 1))) ∧ st.heap.size ≤ t.heap.size ∧ ∀ (q : Nat) (c : Cell), st.heap[q]? = some c → t.heap[q]? = some c
abbrev thW (l : Launch) (y : MethodName) (cc : ByteArray) (nL : Nat) (ret : Option FieldType) (hh : List (Nat × Nat × Nat × Nat)) (fr lo : Nat) (av : List Value) (B : State → Prop) : Prop :=
  Met l y (wTW y cc nL ret hh) ({ frames := fr, cells := 1, slots := 6, locals := lo }) (va_Pc av (fun U => B U ∧ twS U)) QwT 1 6 (fun _ => False)
theorem thW_ofW {l : Launch} {y : MethodName} {cc : ByteArray} {nL fr lo ep hp ct : Nat} {ret : Option FieldType} {av : List Value} {B : State → Prop} (own : String) (hy : plainName y.cls = true) (ho : y.cls = own) (hn : (lg_sl av).length ≤ nL)
    (body : ∀ (p : Program) (e : Env) (s : State) (m : MethodId) (below : List Frame) (meth : Method) (c : Code), CallFix p m c cc nL s av.toArray tbG own → c.exceptionTable.toList = [⟨0, ep, hp, ct⟩] → meth.sig.returnType = ret → meth.locks = false → B s → twS s → ∀ ls : Array Slot, lv_has ls nL (lv_args 0 av) →
      W p l e ({ frames := fr, cells := 1, slots := 6, locals := lo } : Room) s m av.toArray below meth c s.heap [] 0 0 (MQ below QwT av.toArray s 1 6 (fun _ => False)) (F0 m 0 ls [])) : thW l y cc nL ret [(0, ep, hp, ct)] fr lo av B := by
  refine va_MetW (cc := cc) (maxL := nL) (ret := ret) (hh := [(0, ep, hp, ct)]) hy rfl ?_
  intro p e s m args below meth c s₁ B0 hml hv
  obtain ⟨rfl, hB, ht⟩ := hv
  have hts := atoms_spec (ws := wTW y cc nL ret [(0, ep, hp, ct)]) B0.pre
  have hown : s.vm.findClass own = some m.cls := by rw [← ho]; exact findClass_of_methodNamed B0.named
  obtain ⟨m', meth', c', hn', hm', hc', -, -, htab, -, -, -⟩ := Cond.codeWith_spec (hts _ List.mem_cons_self)
  cases B0.named.symm.trans hn'
  cases B0.method.symm.trans hm'
  cases (Stand.of_body B0).code.symm.trans hc'
  have hex : c.exceptionTable.toList = [⟨0, ep, hp, ct⟩] := by rw [← table_eq c.exceptionTable.toList, htab]; rfl
  have hl := lv_entry av (n := nL) hn
  rw [lg_entry_eq]
  generalize (lg_sl av ++ List.replicate (nL - (lg_sl av).length) Slot.unset).toArray = ls at hl ⊢
  exact body p e s m below meth c ⟨B0.exec, B0.bytes, hml, hown, fun w hw => hts w (List.mem_cons_of_mem _ hw)⟩ hex B0.returns B0.notSynchronized hB ht ls hl
section WP
variable {p : Program} {l : Launch} {e : Env} {R : Room} {s : State} {m : MethodId} {args : Array Value} {below : List Frame} {meth : Method} {c : Code} {H H0 : Heap} {locs : List Loc} {cells slots : Nat} {Q : State → Prop}
variable {cc : ByteArray} {pc nL : Nat} {ls : Array Slot} {rest : List Value} {own : String} {dC : Nat → ClassId} {dI : Nat → Nat → Nat} {cI cZ cJ : ClassId} {A : Nat → Prop}
theorem thW_ret (S : CallFix p m c cc nL s args tbG own) (hr : meth.sig.returnType = some .int) (hlk : meth.locks = false) (hz : s.heap.size ≤ H.size) (hk : ∀ (q : Nat) (c : Cell), s.heap[q]? = some c → H[q]? = some c) (hdg : decode cc pc = .ok (.ireturn, 1)) :
    W p l e R s m args below meth c H [] cells slots (MQ below QwT args s cells slots (fun _ => False)) (F0 m pc ls [.int (nI 1)]) :=
  W.zret (hlocks := hlk) S.1 S.2.1 hr rfl (fun t ht _ => ⟨rfl, by rw [ht]; exact hz, fun q c h => by rw [ht]; exact hk q c h⟩) (fun q h => by cases h) hdg
theorem n_last {D : va_G} {cl : List vw_C} {ws : va_W} {tys : List (ClassId × FieldType)} {a : Nat} (S : CallFix p m c cc nL s args tbG own) (hK : va_K D cl tys s) (hP : va_P D cl ws H) (hD : va_D A ws) (hS : va_S A H0 H locs) (q0 t0 : Nat) {cA : ClassId} {f : Nat → Int64} (ha : ws[q0]? = some (a, .inl (cA, 1, .inr (.inl f)))) (ht : tys[t0]? = some (cA, .long)) (hdg : decode cc pc = .ok (.lastore, 1)) {x : Int64}
    (kk : ∀ (H1 : Heap) (locs1 : List Loc), va_P D cl (ws.set q0 (a, .inl (cA, 1, .inr (.inl (vp_updL f 0 x))))) H1 → va_D A (ws.set q0 (a, .inl (cA, 1, .inr (.inl (vp_updL f 0 x))))) → va_S A H0 H1 locs1 → W p l e R s m args below meth c H1 locs1 cells slots Q (F0 m (pc + 1) ls rest)) : W p l e R s m args below meth c H locs cells slots Q (F0 m pc ls (.long x :: .int (nI 0) :: .ref a :: rest)) := by
  refine va_last S.1 S.2.1 hK hP hD hS q0 t0 ha ht (i := nI 0) (x := x) (vp_in_nI (by decide) (by decide)) hdg ?_
  rw [nI_clamp (by decide)]
  exact kk
/-- a static method with a handler is called -/
theorem runSW {y : MethodName} {bytes : ByteArray} {maxL mc ms index : Nat} {ret : Option FieldType} {hh : List (Nat × Nat × Nat × Nat)} {rm : Room} {Pc : Array Value → State → Prop} {Qc : Array Value → State → Outcome → State → Prop} {free : Addr → Prop} {As st : List Value} (S : CallFix p m c cc nL s args tbG own) (hM : Met l y (wTW y bytes maxL ret hh) rm Pc Qc mc ms free) (hrc : rm.cells = mc) (hrs : rm.slots = ms) (hbl : FrameBlind Pc) (hPc : ∀ U : State, U.heap = H → s.WarmedH U.vm → Pc As.toArray U)
    (hc1 : Cond.codeWith y bytes maxL ret hh ∈ tbG) (hc2 : Cond.methodLink own index y ∈ tbG) (hc3 : Cond.static y ∈ tbG) (hc4 : Cond.initialized y.cls ∈ tbG) (hd : y.cls = own ∧ y.cls ≠ "java/lang/invoke/MethodHandle" ∧ y.cls ≠ "java/lang/invoke/VarHandle" ∧ (parseMethodDescriptor y.desc).map (fun d => d.parameters.length) = some As.length) (hR : rm.frames + 1 ≤ R.frames ∧ 8 + (maxL + 11) + rm.locals ≤ R.locals)
    (hls : ls.size = nL) (hst : st = As.reverse ++ rest) (hW : (rest.map fun v => v.category).sum ≤ 8) (hdg : decode cc pc = .ok (.invokestatic index, 3)) (hf : cells + mc ≤ R.cells ∧ slots + ms ≤ R.slots) : va_Run p l e R s m args below meth c H locs cells slots mc ms (F0 m pc ls st) rest (Qc As.toArray) free := by
  have hG := tb_W hc1
  have hini : (Cond.initialized y.cls).before args s = true := S.2.2.2.2 _ hc4
  have hK : Back l R p e below s args y 3 8 (PreOf R mc ms Pc) (PostOf Qc mc ms free) := va_backW (hh := hh) (bytes := bytes) (maxL := maxL) (ret := ret) hM hbl hrc hrs hR.1 hR.2 (pay_in S.2.2.2.2 hG) List.mem_cons_self (fun a' U hW => word_at hW (Or.inl (by first | rfl | simp [Cond.onTables, Cond.keeps, Cond.steady])) hini)
  intro T hT X
  obtain ⟨mk, methM, cM, hnamed, hmethM, -, -, -, -, -, -, hsigM⟩ := Cond.codeWith_spec (S.2.2.2.2 _ hc1)
  obtain ⟨kP, hkP, -⟩ := className_of_methodNamed hnamed
  obtain ⟨vm₁, X₁, hstep⟩ := X.invokestatic S.1 S.2.2.2.1 (S.2.2.2.2 _ hc2) hnamed hmethM (Cond.static_spec hnamed hmethM (S.2.2.2.2 _ hc3)) hkP (Cond.initialized_spec (findClass_of_methodNamed hnamed) hkP hini) ⟨hd.2.1, hd.2.2.1⟩ (g := F0 m pc ls st) rfl (argsL := As) (rest := rest) (by have h2 := hd.2.2.2; rw [hsigM] at h2; exact (Option.some.inj h2).symm) hst (by rw [S.2.1]; exact hdg)
  obtain ⟨v, B, X', ⟨g', mk', t, L, e1, e2, hq, h1, hL, h2, h3⟩, hsteps⟩ := hK m meth c ⟨T.setVm vm₁, locs, cells, slots⟩ (F0 m pc ls rest) (.invokestatic index) mk As.toArray X₁ rfl (hls.trans S.2.2.1.symm) (by rw [S.2.1]; exact hdg) (lv_room hW) (X₁.named hnamed) ⟨hf.1, hf.2, hPc (T.setVm vm₁) hT X₁.warmed⟩
  obtain ⟨U', l2, c2, s2⟩ := B
  dsimp only [Pt.U, Pt.locs, Pt.cells, Pt.slots] at X' e1 e2 h1 h2 h3 hsteps
  subst h1; subst h2; subst h3
  exact ⟨v, (T.setVm vm₁).calling g' mk' As.toArray, t, U', L, hT, X', hL, e1, e2, hq, fun target h => hstep _ fun acts => by rw [doInvoke_state]; exact hsteps.trans h⟩
/-- behind a wrapper that caught -/
theorem thW_back {a : Array Value} {st0 : List Value} (hr : va_Run p l e R s m args below meth c H locs cells slots 1 6 (F0 m pc ls st0) rest (QwT a) (fun _ => False)) (hS : va_S A H0 H locs)
    (kk : ∀ (H1 : Heap), (∀ (q : Nat) (c : Cell), H[q]? = some c → H1[q]? = some c) → va_S A H0 H1 locs → W p l e R s m args below meth c H1 locs (cells + 1) (slots + 6) Q (F0 m (pc + 3) ls (.int (nI 1) :: rest))) : W p l e R s m args below meth c H locs cells slots Q (F0 m pc ls st0) := by
  intro T hT X
  obtain ⟨v, st₀, t, T', L, h0, X', hL, e1, e2, ⟨hv, hz, hk⟩, st⟩ := hr T hT X
  cases hv
  rw [h0] at hz hk
  have hL0 : L = [] := by
    cases L with
    | nil => rfl
    | cons q r => exact (hL q List.mem_cons_self).elim
  subst hL0
  rw [List.append_nil] at X'
  have hk2 : ∀ (q : Nat) (c : Cell), H[q]? = some c → T'.heap[q]? = some c := fun q c h => by rw [e1]; exact hk q c h
  obtain ⟨t2, a1, b1⟩ := kk T'.heap hk2 ⟨Nat.le_trans hS.1 (by rw [e1]; exact hz), fun q h1 h2 => by
      have h3 : q < H.size := Nat.lt_of_lt_of_le h1 hS.1
      have h4 : H[q]? = some H[q] := Array.getElem?_eq_getElem h3
      rw [hk2 q _ h4, ← h4]
      exact hS.2.1 q h1 h2, hS.2.2⟩ T' rfl X'
  exact ⟨t2, st t2 a1, b1⟩
theorem va_P_ext {D : va_G} {cl : List vw_C} {ws : va_W} {H H1 : Heap} (hP : va_P D cl ws H) (hk : ∀ (q : Nat) (c : Cell), H[q]? = some c → H1[q]? = some c) : va_P D cl ws H1 := fun k q hq => by
  have h := hP k q hq
  refine h.kept ?_
  obtain ⟨c4, h4⟩ : ∃ c4, H[q.1]? = some c4 := ⟨_, Array.getElem?_eq_getElem h.lt⟩
  rw [hk _ _ h4, h4]
end WP
