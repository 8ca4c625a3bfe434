/-! THE CLAIM OUT OF ONE WALK OF THE LAW'S BODY. Your part is whole_start (and what it stands on); all else here is the same for every law, but numbers. -/
def R_law : String := "WordListsLaw"
def lw_P (b : Addr) (xs : List Int32) (args : Array Value) (s : State) : Prop := args = #[.ref b] ∧ s.IntsAt b xs ∧ xs.length ≤ 2560 ∧ (Jvm.Cond.and given_1 narrow_1).before args s = true
def lw_Q (_ : Array Value) (s : State) (o : Outcome) (t : State) : Prop := o = .returned (some (.int 1)) ∧ Framed s o t [] 1049 18376
def lw_Z (below : List Frame) (a : Array Value) (s : State) : State → Prop := fun t => ∃ o, t.status = .running ∧ Ended t below o ∧ lw_Q a s o t
/-- the law's own end, with 1 on the stack, nothing written that was there before, its room as the claim has it -/
theorem lw_ret {p : Program} {l : Launch} {e : Env} {s : State} {m : MethodId} {below : List Frame} {meth : Method} {c : Code} {b : Nat} (hx : p.tables.exec = Jvm.exec) (hb : c.code = code) (hr : meth.sig.returnType = ret) (hlocks : meth.locks = false) {pc : Nat} {H : Heap} {ls : Array Slot} (hdg : decode code pc = .ok (.ireturn, 1)) : W p l e room_1 s m #[Value.ref b] below meth c H [] 1049 18376 (lw_Z below #[Value.ref b] s) (F0 m pc ls [.int 1]) := by
  intro T hT X
  obtain ⟨fs, hret, hrun, hended, hW, hframe⟩ := X.leave (v := some (.int 1)) (hlocks := hlocks) (fun h => by rw [hr] at h; cases h)
  have hmeth' : T.vm.method? m = some meth := X.method'
  refine ⟨T.setFrames fs, ?_, .returned (some (.int 1)), hrun, hended, rfl, ⟨_, rfl⟩, hW, hframe⟩
  jvm_step X.here [X.here.top, hx, hb, hdg, hmeth', hr, ret, narrow_b1]
  (try refine ⟨rfl, ?_⟩); (try refine ⟨rfl, ?_⟩)
  first | (intro acts; rw [hret _ acts rfl rfl rfl]) | rw [hret _ _ rfl rfl rfl]
  exact Steps.refl _
/-- what holds at the law's entry: the machine, the code, the tables' words (any of lw_tbl by 'hts w (by decide +kernel)'), the script of L ints xs at the cell b, what the Statement gives of the start (any of its parts by flat_of_before) -/
def lw_At (p : Program) (s : State) (m : MethodId) (meth : Method) (c : Code) (b L : Nat) (xs : Nat → Int32) : Prop :=
  p.tables.exec = Jvm.exec ∧ c.code = code ∧ meth.sig.returnType = ret ∧ c.maxLocals = 7 ∧ s.vm.findClass R_law = some m.cls ∧ (∀ w ∈ lw_tbl, w.before #[Value.ref b] s = true) ∧ va_X b L xs s s.heap ∧ b < s.heap.size ∧ meth.locks = false ∧ (Jvm.Cond.and given_1 narrow_1).before #[Value.ref b] s = true
/-! ===== the law: its calls, over the two systems' cells and the one long ===== -/
theorem RLeq : R_law = RL := rfl
section LB
variable {p : Program} {l : Launch} {e : Env} {R : Room} {s : State} {m : MethodId} {args : Array Value} {below : List Frame} {meth : Method} {c : Code} {H : Heap} {locs : List Loc} {cells slots : Nat} {Q : State → Prop}
variable {cc : ByteArray} {pc nL : Nat} {ls : Array Slot} {rest : List Value} {dC : Nat → ClassId} {dI : Nat → Nat → Nat} {cI cZ cJ : ClassId} {A : Nat → Prop} {X Y X' Y' : va_W} {q : Nat × va_E}
theorem n_sld {b Ln j : Nat} {xs : Nat → Int32} (S : CallFix p m c cc nL s args tbG RL) (hX : va_X b Ln xs s s.heap) (hbl : b < s.heap.size) (hS : va_S (fun q => s.heap.size ≤ q) s.heap H locs) (hj : j < Ln) (hL : Ln < 2 ^ 31) (hdg : decode cc pc = .ok (.iaload, 1))
    (kk : W p l e R s m args below meth c H locs cells slots Q (F0 m (pc + 1) ls (.int (xs j) :: rest))) : W p l e R s m args below meth c H locs cells slots Q (F0 m pc ls (.int (nI j) :: .ref b :: rest)) := by
  refine va_sld S.1 S.2.1 hX hbl (Nat.not_le.mpr hbl) hS (vp_in_nI hj hL) hdg ?_
  rw [nI_clamp (by omega)]
  exact kk
theorem n_lald {D : va_G} {cl : List vw_C} {ws : va_W} {tys : List (ClassId × FieldType)} {a : Nat} (S : CallFix p m c cc nL s args tbG RL) (hK : va_K D cl tys s) (hP : va_P D cl ws H) (q0 t0 : Nat) {cA : ClassId} {f : Nat → Int64} {x : Int64} (ha : ws[q0]? = some (a, .inl (cA, 1, .inr (.inl (vp_updL f 0 x))))) (ht : tys[t0]? = some (cA, .long)) (hdg : decode cc pc = .ok (.laload, 1))
    (kk : W p l e R s m args below meth c H locs cells slots Q (F0 m (pc + 1) ls (.long x :: rest))) : W p l e R s m args below meth c H locs cells slots Q (F0 m pc ls (.int (nI 0) :: .ref a :: rest)) := by
  refine va_lald S.1 S.2.1 hK hP q0 t0 ha ht (vp_in_nI (by decide) (by decide)) hdg ?_
  rw [nI_clamp (by decide), pk_uLs]
  exact kk
theorem n_lcmp {x : Int64} (S : CallFix p m c cc nL s args tbG RL) (hdg : decode cc pc = .ok (.lcmp, 1)) (kk : W p l e R s m args below meth c H locs cells slots Q (F0 m (pc + 1) ls (.int 0 :: rest))) : W p l e R s m args below meth c H locs cells slots Q (F0 m pc ls (.long x :: .long x :: rest)) := by
  refine W.lcmp S.1 S.2.1 hdg ?_
  have e1 : lg_cmp x x = 0 := by simp [lg_cmp, Int64.lt_irrefl]
  rw [e1]
  exact kk
/-- a writer of the class, of the reference -/
theorem lc_X {y : MethodName} {bytes : ByteArray} {maxL index fr lo b : Nat} {ret : Option FieldType} {As : List Value} {ov : Option Value} {st : List Value} (S : CallFix p m c cc nL s args tbG RL) (hM : wr l y bytes maxL ret fr lo (.ref b :: As) dC dI cI cZ cJ X X' ov)
    (hK : va_K (dC, dI) vcl (vty cI cZ cJ) s) (hP : va_P (dC, dI) vcl (X ++ ([q] ++ Y)) H) (hD : va_D A (X ++ ([q] ++ Y))) (hS : va_S A s.heap H locs) (ha : X'.map Prod.fst = X.map Prod.fst)
    (hcl : ∃ cellB : Cell, H[b]? = some cellB ∧ cellB.vm.isStatics = false ∧ s.vm.findClass RX0 = some cellB.cls)
    (hG : GoodIn tbG (wsV RL index RX0 y (wT y bytes maxL ret))) (hd : y.cls = RX0 ∧ y.cls ≠ "java/lang/invoke/MethodHandle" ∧ y.cls ≠ "java/lang/invoke/VarHandle" ∧ (parseMethodDescriptor y.desc).map (fun d => d.parameters.length) = some As.length) (hR : fr + 1 ≤ R.frames ∧ 8 + (maxL + 11) + lo ≤ R.locals)
    (hls : ls.size = nL) (hst : st = As.reverse ++ .ref b :: rest) (hW : (rest.map fun v => v.category).sum ≤ 8) (hdg : decode cc pc = .ok (.invokevirtual index, 3)) (hf : cells ≤ R.cells ∧ slots ≤ R.slots)
    (kk : ∀ (H1 : Heap) (locs1 : List Loc), va_P (dC, dI) vcl (X' ++ ([q] ++ Y)) H1 → va_D A (X' ++ ([q] ++ Y)) → va_S A s.heap H1 locs1 → W p l e R s m args below meth c H1 locs1 cells slots Q (F0 m (pc + 3) ls (ov.toList ++ rest))) : W p l e R s m args below meth c H locs cells slots Q (F0 m pc ls st) :=
  wr_callV S hM hK [] ([q] ++ Y) hP hD hS ha hcl hG hd hR hls hst hW hdg hf kk
theorem lc_Y {y : MethodName} {bytes : ByteArray} {maxL index fr lo b : Nat} {ret : Option FieldType} {As : List Value} {ov : Option Value} {st : List Value} (S : CallFix p m c cc nL s args tbG RL) (hM : wr l y bytes maxL ret fr lo (.ref b :: As) dC dI cI cZ cJ Y Y' ov)
    (hK : va_K (dC, dI) vcl (vty cI cZ cJ) s) (hP : va_P (dC, dI) vcl (X ++ ([q] ++ Y)) H) (hD : va_D A (X ++ ([q] ++ Y))) (hS : va_S A s.heap H locs) (ha : Y'.map Prod.fst = Y.map Prod.fst)
    (hcl : ∃ cellB : Cell, H[b]? = some cellB ∧ cellB.vm.isStatics = false ∧ s.vm.findClass RX1 = some cellB.cls)
    (hG : GoodIn tbG (wsV RL index RX1 y (wT y bytes maxL ret))) (hd : y.cls = RX1 ∧ y.cls ≠ "java/lang/invoke/MethodHandle" ∧ y.cls ≠ "java/lang/invoke/VarHandle" ∧ (parseMethodDescriptor y.desc).map (fun d => d.parameters.length) = some As.length) (hR : fr + 1 ≤ R.frames ∧ 8 + (maxL + 11) + lo ≤ R.locals)
    (hls : ls.size = nL) (hst : st = As.reverse ++ .ref b :: rest) (hW : (rest.map fun v => v.category).sum ≤ 8) (hdg : decode cc pc = .ok (.invokevirtual index, 3)) (hf : cells ≤ R.cells ∧ slots ≤ R.slots)
    (kk : ∀ (H1 : Heap) (locs1 : List Loc), va_P (dC, dI) vcl (X ++ ([q] ++ Y')) H1 → va_D A (X ++ ([q] ++ Y')) → va_S A s.heap H1 locs1 → W p l e R s m args below meth c H1 locs1 cells slots Q (F0 m (pc + 3) ls (ov.toList ++ rest))) : W p l e R s m args below meth c H locs cells slots Q (F0 m pc ls st) :=
  wr_callV S hM hK (X ++ [q]) [] (by rw [List.append_nil, List.append_assoc]; exact hP) (by rw [List.append_nil, List.append_assoc]; exact hD) hS ha hcl hG hd hR hls hst hW hdg hf (fun H1 locs1 h1 h2 h3 => kk H1 locs1 (by rw [List.append_nil, List.append_assoc] at h1; exact h1) (by rw [List.append_nil, List.append_assoc] at h2; exact h2) h3)
theorem lc_YE {Z : Type} {YZ : Z → va_W} {y : MethodName} {bytes : ByteArray} {maxL index fr lo b : Nat} {ret : Option FieldType} {As : List Value} {ov : Option Value} {st : List Value} (S : CallFix p m c cc nL s args tbG RL) (hM : wrE l y bytes maxL ret fr lo (.ref b :: As) dC dI cI cZ cJ Y YZ ov)
    (hK : va_K (dC, dI) vcl (vty cI cZ cJ) s) (hP : va_P (dC, dI) vcl (X ++ ([q] ++ Y)) H) (hD : va_D A (X ++ ([q] ++ Y))) (hS : va_S A s.heap H locs) (ha : ∀ z, (YZ z).map Prod.fst = Y.map Prod.fst)
    (hcl : ∃ cellB : Cell, H[b]? = some cellB ∧ cellB.vm.isStatics = false ∧ s.vm.findClass RX1 = some cellB.cls)
    (hG : GoodIn tbG (wsV RL index RX1 y (wT y bytes maxL ret))) (hd : y.cls = RX1 ∧ y.cls ≠ "java/lang/invoke/MethodHandle" ∧ y.cls ≠ "java/lang/invoke/VarHandle" ∧ (parseMethodDescriptor y.desc).map (fun d => d.parameters.length) = some As.length) (hR : fr + 1 ≤ R.frames ∧ 8 + (maxL + 11) + lo ≤ R.locals)
    (hls : ls.size = nL) (hst : st = As.reverse ++ .ref b :: rest) (hW : (rest.map fun v => v.category).sum ≤ 8) (hdg : decode cc pc = .ok (.invokevirtual index, 3)) (hf : cells ≤ R.cells ∧ slots ≤ R.slots)
    (kk : ∀ (z : Z) (H1 : Heap) (locs1 : List Loc), va_P (dC, dI) vcl (X ++ ([q] ++ YZ z)) H1 → va_D A (X ++ ([q] ++ YZ z)) → va_S A s.heap H1 locs1 → W p l e R s m args below meth c H1 locs1 cells slots Q (F0 m (pc + 3) ls (ov.toList ++ rest))) : W p l e R s m args below meth c H locs cells slots Q (F0 m pc ls st) :=
  wrE_callV S hM hK (X ++ [q]) [] (by rw [List.append_nil, List.append_assoc]; exact hP) (by rw [List.append_nil, List.append_assoc]; exact hD) hS ha hcl hG hd hR hls hst hW hdg hf (fun z H1 locs1 h1 h2 h3 => kk z H1 locs1 (by rw [List.append_nil, List.append_assoc] at h1; exact h1) (by rw [List.append_nil, List.append_assoc] at h2; exact h2) h3)
theorem lsX (hP : va_P (dC, dI) vcl (X ++ ([q] ++ Y)) H) : va_P (dC, dI) vcl X H := wr_sub (u := []) (v := [q] ++ Y) hP
theorem lsY (hP : va_P (dC, dI) vcl (X ++ ([q] ++ Y)) H) : va_P (dC, dI) vcl Y H := wr_sub (u := X ++ [q]) (v := []) (by rw [List.append_nil, List.append_assoc]; exact hP)
/-- a wrapper that doesn't throw: with the long, and without it -/
theorem lc_W {Z : Type} {XZ : Z → va_W} {y : MethodName} {bytes : ByteArray} {maxL index fr lo : Nat} {ret : Option FieldType} {hh : List (Nat × Nat × Nat × Nat)} {As st : List Value} {ov : Option Value} (S : CallFix p m c cc nL s args tbG RL) (hM : wrW l y bytes maxL ret hh fr lo As dC dI cI cZ cJ (X ++ [q]) XZ ov)
    (hK : va_K (dC, dI) vcl (vty cI cZ cJ) s) (hP : va_P (dC, dI) vcl (X ++ ([q] ++ Y)) H) (hD : va_D A (X ++ ([q] ++ Y))) (hS : va_S A s.heap H locs) (ha : ∀ z, (XZ z).map Prod.fst = (X ++ [q]).map Prod.fst)
    (hw : Cond.codeWith y bytes maxL ret hh ∈ tbG ∧ Cond.methodLink RL index y ∈ tbG ∧ Cond.static y ∈ tbG ∧ Cond.initialized y.cls ∈ tbG) (hd : y.cls = RL ∧ y.cls ≠ "java/lang/invoke/MethodHandle" ∧ y.cls ≠ "java/lang/invoke/VarHandle" ∧ (parseMethodDescriptor y.desc).map (fun d => d.parameters.length) = some As.length) (hR : fr + 1 ≤ R.frames ∧ 8 + (maxL + 11) + lo ≤ R.locals)
    (hls : ls.size = nL) (hst : st = As.reverse ++ rest) (hW : (rest.map fun v => v.category).sum ≤ 8) (hdg : decode cc pc = .ok (.invokestatic index, 3)) (hf : cells ≤ R.cells ∧ slots ≤ R.slots)
    (kk : ∀ (z : Z) (H1 : Heap) (locs1 : List Loc), va_P (dC, dI) vcl (XZ z ++ Y) H1 → va_D A (XZ z ++ Y) → va_S A s.heap H1 locs1 → W p l e R s m args below meth c H1 locs1 cells slots Q (F0 m (pc + 3) ls (ov.toList ++ rest))) : W p l e R s m args below meth c H locs cells slots Q (F0 m pc ls st) := by
  have hP1 : va_P (dC, dI) vcl ([] ++ ((X ++ [q]) ++ Y)) H := by rw [List.nil_append, List.append_assoc]; exact hP
  have hD1 : va_D A ([] ++ ((X ++ [q]) ++ Y)) := by rw [List.nil_append, List.append_assoc]; exact hD
  exact wrE_back (u := []) (v := Y) (runSW S hM rfl rfl wB_blind (fun U hU hW => ⟨rfl, by rw [hU]; exact wr_sub hP1, va_K.moved hW.alike hK, wr_subD hD1⟩) hw.1 hw.2.1 hw.2.2.1 hw.2.2.2 hd hR hls hst hW hdg ⟨hf.1, hf.2⟩) hP1 hD1 hS ha kk
theorem lc_V {Z : Type} {XZ : Z → va_W} {y : MethodName} {bytes : ByteArray} {maxL index fr lo : Nat} {ret : Option FieldType} {hh : List (Nat × Nat × Nat × Nat)} {As st : List Value} {ov : Option Value} (S : CallFix p m c cc nL s args tbG RL) (hM : wrW l y bytes maxL ret hh fr lo As dC dI cI cZ cJ X XZ ov)
    (hK : va_K (dC, dI) vcl (vty cI cZ cJ) s) (hP : va_P (dC, dI) vcl (X ++ ([q] ++ Y)) H) (hD : va_D A (X ++ ([q] ++ Y))) (hS : va_S A s.heap H locs) (ha : ∀ z, (XZ z).map Prod.fst = X.map Prod.fst)
    (hw : Cond.codeWith y bytes maxL ret hh ∈ tbG ∧ Cond.methodLink RL index y ∈ tbG ∧ Cond.static y ∈ tbG ∧ Cond.initialized y.cls ∈ tbG) (hd : y.cls = RL ∧ y.cls ≠ "java/lang/invoke/MethodHandle" ∧ y.cls ≠ "java/lang/invoke/VarHandle" ∧ (parseMethodDescriptor y.desc).map (fun d => d.parameters.length) = some As.length) (hR : fr + 1 ≤ R.frames ∧ 8 + (maxL + 11) + lo ≤ R.locals)
    (hls : ls.size = nL) (hst : st = As.reverse ++ rest) (hW : (rest.map fun v => v.category).sum ≤ 8) (hdg : decode cc pc = .ok (.invokestatic index, 3)) (hf : cells ≤ R.cells ∧ slots ≤ R.slots)
    (kk : ∀ (z : Z) (H1 : Heap) (locs1 : List Loc), va_P (dC, dI) vcl (XZ z ++ ([q] ++ Y)) H1 → va_D A (XZ z ++ ([q] ++ Y)) → va_S A s.heap H1 locs1 → W p l e R s m args below meth c H1 locs1 cells slots Q (F0 m (pc + 3) ls (ov.toList ++ rest))) : W p l e R s m args below meth c H locs cells slots Q (F0 m pc ls st) := by
  have hP1 : va_P (dC, dI) vcl ([] ++ (X ++ ([q] ++ Y))) H := hP
  have hD1 : va_D A ([] ++ (X ++ ([q] ++ Y))) := hD
  exact wrE_back (u := []) (v := [q] ++ Y) (runSW S hM rfl rfl wB_blind (fun U hU hW => ⟨rfl, by rw [hU]; exact wr_sub hP1, va_K.moved hW.alike hK, wr_subD hD1⟩) hw.1 hw.2.1 hw.2.2.1 hw.2.2.2 hd hR hls hst hW hdg ⟨hf.1, hf.2⟩) hP1 hD1 hS ha kk
theorem tb_blind {dC : Nat → ClassId} {dI : Nat → Nat → Nat} {cI cZ cJ : ClassId} {ws : va_W} {av : List Value} : FrameBlind (va_Pc av (fun U => rB dC dI cI cZ cJ ws U ∧ twS U)) := fun a U g mk q => ⟨q.1, ⟨q.2.1.1, va_K.moved (u := U) (U := U.calling g mk a) (Vm.Alike.refl U.vm) q.2.1.2⟩, twS_keep q.2.2 (State.WarmedH.refl U) (fun _ _ h => h)⟩
/-- a wrapper that catches -/
theorem lc_T {y : MethodName} {bytes : ByteArray} {maxL index fr lo : Nat} {ret : Option FieldType} {hh : List (Nat × Nat × Nat × Nat)} {As st : List Value} (S : CallFix p m c cc nL s args tbG RL) (ht : twS s) (hM : thW l y bytes maxL ret hh fr lo As (rB dC dI cI cZ cJ X))
    (hK : va_K (dC, dI) vcl (vty cI cZ cJ) s) (hP : va_P (dC, dI) vcl (X ++ ([q] ++ Y)) H) (hS : va_S (fun q => s.heap.size ≤ q) s.heap H locs)
    (hw : Cond.codeWith y bytes maxL ret hh ∈ tbG ∧ Cond.methodLink RL index y ∈ tbG ∧ Cond.static y ∈ tbG ∧ Cond.initialized y.cls ∈ tbG) (hd : y.cls = RL ∧ y.cls ≠ "java/lang/invoke/MethodHandle" ∧ y.cls ≠ "java/lang/invoke/VarHandle" ∧ (parseMethodDescriptor y.desc).map (fun d => d.parameters.length) = some As.length) (hR : fr + 1 ≤ R.frames ∧ 8 + (maxL + 11) + lo ≤ R.locals)
    (hls : ls.size = nL) (hst : st = As.reverse ++ rest) (hW : (rest.map fun v => v.category).sum ≤ 8) (hdg : decode cc pc = .ok (.invokestatic index, 3)) (hf : cells + 1 ≤ R.cells ∧ slots + 6 ≤ R.slots)
    (kk : ∀ (H1 : Heap), va_P (dC, dI) vcl (X ++ ([q] ++ Y)) H1 → va_S (fun q => s.heap.size ≤ q) s.heap H1 locs → W p l e R s m args below meth c H1 locs (cells + 1) (slots + 6) Q (F0 m (pc + 3) ls (.int (nI 1) :: rest))) : W p l e R s m args below meth c H locs cells slots Q (F0 m pc ls st) := by
  refine thW_back (runSW S hM rfl rfl tb_blind (fun U hU hW => ⟨rfl, ⟨by rw [hU]; exact lsX hP, va_K.moved hW.alike hK⟩, twS_keep ht hW (fun q c h => ?_)⟩) hw.1 hw.2.1 hw.2.2.1 hw.2.2.2 hd hR hls hst hW hdg hf) hS (fun H1 hk hS1 => kk H1 (va_P_ext hP hk) hS1)
  have hq : q < s.heap.size := (Array.getElem?_eq_some_iff.mp h).1
  rw [hU, hS.2.1 q hq (Nat.not_le.mpr hq)]
  exact h
end LB
