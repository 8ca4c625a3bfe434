/-! ===== readers that answer nothing; Math.min, Math.max over natural numbers ===== -/
theorem tr_blind {av : List Value} : FrameBlind (va_Pc av (fun _ => True)) := fun _ _ _ _ q => q
theorem nar_b (b : Bool) : narrow .boolean (.int (nI b.toNat)) = .int (nI b.toNat) := by cases b <;> rfl
def QcV : Array Value → State → Outcome → State → Prop := fun _ st o t => o = .returned none ∧ t.heap = st.heap
abbrev rdv (l : Launch) (y : MethodName) (cc : ByteArray) (nL : Nat) (ret : Option FieldType) (fr lo : Nat) (av : List Value) (B : State → Prop) : Prop :=
  Met l y (wT y cc nL ret) ({ frames := fr, cells := 0, slots := 0, locals := lo }) (va_Pc av B) QcV 0 0 (fun _ => False)
theorem rdv_ofW {l : Launch} {y : MethodName} {cc : ByteArray} {nL fr lo : Nat} {ret : Option FieldType} {av : List Value} {B : State → Prop} (own : String) (hy : plainName y.cls = true) (ho : y.cls = own) (hn : (lg_sl av).length ≤ nL)
    (body : ∀ (p : Program) (e : Env) (s : State) (m : MethodId) (below : List Frame) (meth : Method) (c : Code), CallFix p m c cc nL s av.toArray tbG own → meth.sig.returnType = ret → meth.locks = false → B s → ∀ ls : Array Slot, lv_has ls nL (lv_args 0 av) →
      W p l e ({ frames := fr, cells := 0, slots := 0, locals := lo } : Room) s m av.toArray below meth c s.heap [] 0 0 (MQ below QcV av.toArray s 0 0 (fun _ => False)) (F0 m 0 ls [])) : rdv l y cc nL ret fr lo av B := by
  refine Met.ofW (cc := cc) (maxL := nL) (ret := ret) hy rfl ?_
  intro p e s m args below meth c s₁ B0 hml hv
  obtain ⟨rfl, hv⟩ := hv
  have hts := atoms_spec (ws := wT y cc nL ret) B0.pre
  have hown : s.vm.findClass own = some m.cls := by rw [← ho]; exact findClass_of_methodNamed B0.named
  have hl := lv_entry av (n := nL) hn
  rw [lg_entry_eq]
  generalize (lg_sl av ++ List.replicate (nL - (lg_sl av).length) Slot.unset).toArray = ls at hl ⊢
  exact body p e s m below meth c ⟨B0.exec, B0.bytes, hml, hown, fun w hw => hts w (List.mem_cons_of_mem _ hw)⟩ B0.returns B0.notSynchronized hv ls hl
section RV
variable {p : Program} {l : Launch} {e : Env} {R : Room} {s : State} {m : MethodId} {args : Array Value} {below : List Frame} {meth : Method} {c : Code} {H : Heap} {locs : List Loc} {cells slots : Nat} {Q : State → Prop}
variable {cc : ByteArray} {pc nL : Nat} {ls : Array Slot} {rest : List Value} {own : String}
theorem rdv_ret (S : CallFix p m c cc nL s args tbG own) (hr : meth.sig.returnType = none) (hlk : meth.locks = false) (hdg : decode cc pc = .ok (.return_, 1)) :
    W p l e R s m args below meth c s.heap [] 0 0 (MQ below QcV args s 0 0 (fun _ => False)) (F0 m pc ls []) :=
  W.vret (hlocks := hlk) S.1 S.2.1 hr (fun t ht _ => ⟨rfl, ht⟩) (fun q h => by cases h) hdg
theorem W.callRv {a : Array Value} {st0 : List Value} (hr : CallRun p l e R s m args below meth c H locs cells slots 0 0 (F0 m pc ls st0) rest (QcV a) (fun _ => False)) (kk : W p l e R s m args below meth c H locs cells slots Q (F0 m (pc + 3) ls rest)) : W p l e R s m args below meth c H locs cells slots Q (F0 m pc ls st0) := by
  intro T hT X
  obtain ⟨v, st₀, t, T', L, h0, X', hL, e1, ⟨hv, hh⟩, st⟩ := hr T hT X
  cases hv
  obtain ⟨t2, a1, b1⟩ := kk T' (by rw [e1, hh, h0]) (Stand.forget X' (fun q h => (hL q h).elim))
  exact ⟨t2, st t2 a1, b1⟩
theorem rdv_callS {y : MethodName} {bytes : ByteArray} {maxL index fr lo : Nat} {ret : Option FieldType} {B : State → Prop} {As : List Value} {st : List Value} (S : CallFix p m c cc nL s args tbG own) (hM : rdv l y bytes maxL ret fr lo As B) (hbl : FrameBlind (va_Pc As B)) (hB : ∀ U : State, U.heap = H → s.WarmedH U.vm → B U)
    (hG : GoodIn tbG (wsS own index y (wT y bytes maxL ret))) (hd : y.cls = own ∧ y.cls ≠ "java/lang/invoke/MethodHandle" ∧ y.cls ≠ "java/lang/invoke/VarHandle" ∧ (parseMethodDescriptor y.desc).map (fun d => d.parameters.length) = some As.length) (hR : fr + 1 ≤ R.frames ∧ 8 + (maxL + 11) + lo ≤ R.locals)
    (hls : ls.size = nL) (hst : st = As.reverse ++ rest) (hW : (rest.map fun v => v.category).sum ≤ 8) (hdg : decode cc pc = .ok (.invokestatic index, 3)) (hf : cells ≤ R.cells ∧ slots ≤ R.slots)
    (kk : W p l e R s m args below meth c H locs cells slots Q (F0 m (pc + 3) ls rest)) : W p l e R s m args below meth c H locs cells slots Q (F0 m pc ls st) := by
  subst hst
  exact W.callRv (W.runS (rest := rest) S hM (cwS As.length S.2.2.2.2 hG rfl rfl rfl hd hR) ⟨hbl, fun U hU hW => ⟨rfl, hB U hU hW⟩⟩ rfl rfl hls rfl (lv_room hW) hdg ⟨hf.1, hf.2⟩) kk
theorem rdv_callV {y : MethodName} {bytes : ByteArray} {maxL index fr lo b : Nat} {ret : Option FieldType} {B : State → Prop} {As : List Value} {st : List Value} {C : String} (S : CallFix p m c cc nL s args tbG own) (hM : rdv l y bytes maxL ret fr lo (.ref b :: As) B) (hbl : FrameBlind (va_Pc (.ref b :: As) B)) (hB : ∀ U : State, U.heap = H → s.WarmedH U.vm → B U)
    (hcl : ∃ cellB : Cell, H[b]? = some cellB ∧ cellB.vm.isStatics = false ∧ s.vm.findClass C = some cellB.cls)
    (hG : GoodIn tbG (wsV own index C y (wT y bytes maxL ret))) (hd : y.cls = C ∧ y.cls ≠ "java/lang/invoke/MethodHandle" ∧ y.cls ≠ "java/lang/invoke/VarHandle" ∧ (parseMethodDescriptor y.desc).map (fun d => d.parameters.length) = some As.length) (hR : fr + 1 ≤ R.frames ∧ 8 + (maxL + 11) + lo ≤ R.locals)
    (hls : ls.size = nL) (hst : st = As.reverse ++ .ref b :: rest) (hW : (rest.map fun v => v.category).sum ≤ 8) (hdg : decode cc pc = .ok (.invokevirtual index, 3)) (hf : cells ≤ R.cells ∧ slots ≤ R.slots)
    (kk : W p l e R s m args below meth c H locs cells slots Q (F0 m (pc + 3) ls rest)) : W p l e R s m args below meth c H locs cells slots Q (F0 m pc ls st) := by
  subst hst
  exact W.callRv (W.runV (rest := rest) S hM (cwV As.length S.2.2.2.2 hG rfl rfl rfl hd hR) ⟨hbl, hcl, fun U hU hW => ⟨rfl, hB U hU hW⟩⟩ rfl rfl hls rfl (lv_room hW) hdg ⟨hf.1, hf.2⟩) kk
end RV
theorem mw_max : Cond.methodLink RX0 70 Lib.Math.max.name ∈ tbG ∧ Cond.static Lib.Math.max.name ∈ tbG ∧ Cond.code Lib.Math.max.name Lib.Math.max.code 2 (some .int) ∈ tbG := by decide +kernel
theorem mw_min : Cond.methodLink RX0 118 Lib.Math.min.name ∈ tbG ∧ Cond.static Lib.Math.min.name ∈ tbG ∧ Cond.code Lib.Math.min.name Lib.Math.min.code 2 (some .int) ∈ tbG := by decide +kernel
theorem mw_ini : Cond.initialized "java/lang/Math" ∈ tbG := by decide +kernel
section RM
variable {p : Program} {l : Launch} {e : Env} {R : Room} {s : State} {m : MethodId} {args : Array Value} {below : List Frame} {meth : Method} {c : Code} {H : Heap} {locs : List Loc} {cells slots : Nat} {Q : State → Prop}
variable {cc : ByteArray} {pc nL : Nat} {ls : Array Slot} {rest : List Value}
theorem n_min {x y : Nat} (S : CallFix p m c cc nL s args tbG RX0) (hls : ls.size = nL) (hframes : 1 ≤ R.frames) (hlocals : (rest.map fun v => v.category).sum + 13 ≤ R.locals) (hf : cells ≤ R.cells ∧ slots ≤ R.slots) (hx : x < 2 ^ 31) (hy : y < 2 ^ 31) (hdg : decode cc pc = .ok (.invokestatic 118, 3))
    (kk : W p l e R s m args below meth c H locs cells slots Q (F0 m (pc + 3) ls (.int (nI (min x y)) :: rest))) : W p l e R s m args below meth c H locs cells slots Q (F0 m pc ls (.int (nI y) :: .int (nI x) :: rest)) := by
  refine va_mmin S.1 S.2.1 (S.2.2.1.trans hls.symm) S.2.2.2.1 (S.2.2.2.2 _ mw_min.1) (S.2.2.2.2 _ mw_min.2.1) (S.2.2.2.2 _ mw_ini) (S.2.2.2.2 _ mw_min.2.2) hframes hlocals hf.1 hf.2 hdg ?_
  have e1 : (if nI y < nI x then nI y else nI x) = nI (min x y) := by
    by_cases h : y < x
    · rw [if_pos ((nI_ltI hy hx).mpr h), Nat.min_eq_right (by omega)]
    · rw [if_neg (fun q => h ((nI_ltI hy hx).mp q)), Nat.min_eq_left (by omega)]
  rw [e1]
  exact kk
theorem n_max {x y : Nat} (S : CallFix p m c cc nL s args tbG RX0) (hls : ls.size = nL) (hframes : 1 ≤ R.frames) (hlocals : (rest.map fun v => v.category).sum + 13 ≤ R.locals) (hf : cells ≤ R.cells ∧ slots ≤ R.slots) (hx : x < 2 ^ 31) (hy : y < 2 ^ 31) (hdg : decode cc pc = .ok (.invokestatic 70, 3))
    (kk : W p l e R s m args below meth c H locs cells slots Q (F0 m (pc + 3) ls (.int (nI (max x y)) :: rest))) : W p l e R s m args below meth c H locs cells slots Q (F0 m pc ls (.int (nI y) :: .int (nI x) :: rest)) := by
  refine va_mmax S.1 S.2.1 (S.2.2.1.trans hls.symm) S.2.2.2.1 (S.2.2.2.2 _ mw_max.1) (S.2.2.2.2 _ mw_max.2.1) (S.2.2.2.2 _ mw_ini) (S.2.2.2.2 _ mw_max.2.2) hframes hlocals hf.1 hf.2 hdg ?_
  have e1 : (if nI x < nI y then nI y else nI x) = nI (max x y) := by
    by_cases h : x < y
    · rw [if_pos ((nI_ltI hx hy).mpr h), Nat.max_eq_right (by omega)]
    · rw [if_neg (fun q => h ((nI_ltI hx hy).mp q)), Nat.max_eq_left (by omega)]
  rw [e1]
  exact kk
end RM
