/-! ===== methods that write: their world before and behind, at the same addresses ===== -/
def wF (ws : va_W) : Nat → Prop := fun q => ∃ (k : Nat) (e : va_E), ws[k]? = some (q, e)
theorem va_D_congr {A : Nat → Prop} {ws ws' : va_W} (h : ws'.map Prod.fst = ws.map Prod.fst) (hD : va_D A ws) : va_D A ws' := by
  have key : ∀ (i : Nat) (p : Nat × va_E), ws'[i]? = some p → ∃ p', ws[i]? = some p' ∧ p'.1 = p.1 := by
    intro i p hp
    have h1 : (ws'.map Prod.fst)[i]? = some p.1 := by rw [List.getElem?_map, hp]; rfl
    rw [h, List.getElem?_map] at h1
    cases hq : ws[i]? with
    | none => rw [hq] at h1; cases h1
    | some q => rw [hq] at h1; exact ⟨q, rfl, Option.some.inj h1⟩
  refine ⟨fun i j p q hp hq hpq => ?_, fun k q hq => ?_⟩
  · obtain ⟨p', a1, a2⟩ := key i p hp
    obtain ⟨q', b1, b2⟩ := key j q hq
    exact hD.1 i j p' q' a1 b1 (by rw [a2, b2, hpq])
  · obtain ⟨q', b1, b2⟩ := key k q hq
    rw [← b2]
    exact hD.2 k q' b1
theorem va_D.own {A : Nat → Prop} {ws : va_W} (h : va_D A ws) : va_D (wF ws) ws := ⟨h.1, fun k q hk => ⟨k, q.2, hk⟩⟩
theorem wr_join {A : Nat → Prop} {D : va_G} {cl : List vw_C} {u ws v ws' : va_W} {H H1 : Heap} (hP : va_P D cl (u ++ (ws ++ v)) H) (hD : va_D A (u ++ (ws ++ v))) (ha : ws'.map Prod.fst = ws.map Prod.fst) (hP1 : va_P D cl ws' H1)
    (hk : ∀ q, q < H.size → ¬ wF ws q → H1[q]? = H[q]?) : va_P D cl (u ++ (ws' ++ v)) H1 ∧ va_D A (u ++ (ws' ++ v)) := by
  have hlen : ws'.length = ws.length := by simpa using congrArg List.length ha
  refine ⟨fun k q hq => ?_, va_D_congr (by simp [ha]) hD⟩
  have old : (k < u.length ∨ u.length + ws.length ≤ k) → (u ++ (ws ++ v))[k]? = some q → va_at D cl q H1 := by
    intro hr ho
    have h1 := hP k q ho
    refine h1.kept (hk q.1 h1.lt ?_)
    rintro ⟨j, e, hj⟩
    have hj' : j < ws.length := (List.getElem?_eq_some_iff.mp hj).1
    have h2 : (u ++ (ws ++ v))[u.length + j]? = some (q.1, e) := by
      rw [List.getElem?_append_right (by omega), Nat.add_sub_cancel_left, List.getElem?_append_left hj']
      exact hj
    have := hD.1 k (u.length + j) q (q.1, e) ho h2 rfl
    omega
  by_cases h1 : k < u.length
  · refine old (Or.inl h1) ?_
    rw [List.getElem?_append_left h1] at hq ⊢
    exact hq
  · rw [List.getElem?_append_right (by omega)] at hq
    by_cases h2 : k - u.length < ws'.length
    · rw [List.getElem?_append_left h2] at hq
      exact hP1 _ q hq
    · rw [List.getElem?_append_right (by omega)] at hq
      refine old (Or.inr (by omega)) ?_
      rw [List.getElem?_append_right (by omega), List.getElem?_append_right (by omega), ← hlen]
      exact hq
abbrev wB (dC : Nat → ClassId) (dI : Nat → Nat → Nat) (cI cZ cJ : ClassId) (ws : va_W) : State → Prop := fun U => va_P (dC, dI) vcl ws U.heap ∧ va_K (dC, dI) vcl (vty cI cZ cJ) U ∧ va_D (fun _ => True) ws
theorem wB_blind {dC : Nat → ClassId} {dI : Nat → Nat → Nat} {cI cZ cJ : ClassId} {ws : va_W} {av : List Value} : FrameBlind (va_Pc av (wB dC dI cI cZ cJ ws)) := fun a U g mk q => ⟨q.1, q.2.1, va_K.moved (u := U) (U := U.calling g mk a) (Vm.Alike.refl U.vm) q.2.2.1, q.2.2.2⟩
def Qw (dC : Nat → ClassId) (dI : Nat → Nat → Nat) (ws ws' : va_W) (ov : Option Value) : Array Value → State → Outcome → State → Prop := fun _ st o t => o = .returned ov ∧ va_P (dC, dI) vcl ws' t.heap ∧ va_F (wF ws) st t
/-- a method that writes: from ws to ws', with the answer ov; it makes nothing -/
abbrev wr (l : Launch) (y : MethodName) (cc : ByteArray) (nL : Nat) (ret : Option FieldType) (fr lo : Nat) (av : List Value) (dC : Nat → ClassId) (dI : Nat → Nat → Nat) (cI cZ cJ : ClassId) (ws ws' : va_W) (ov : Option Value) : Prop :=
  Met l y (wT y cc nL ret) ({ frames := fr, cells := 0, slots := 0, locals := lo }) (va_Pc av (wB dC dI cI cZ cJ ws)) (Qw dC dI ws ws' ov) 0 0 (wF ws)
theorem wr_ofW {l : Launch} {y : MethodName} {cc : ByteArray} {nL fr lo : Nat} {ret : Option FieldType} {av : List Value} {dC : Nat → ClassId} {dI : Nat → Nat → Nat} {cI cZ cJ : ClassId} {ws ws' : va_W} {ov : Option Value} (own : String) (hy : plainName y.cls = true) (ho : y.cls = own) (hn : (lg_sl av).length ≤ nL)
    (body : ∀ (p : Program) (e : Env) (s : State) (m : MethodId) (below : List Frame) (meth : Method) (c : Code), CallFix p m c cc nL s av.toArray tbG own → meth.sig.returnType = ret → meth.locks = false → va_K (dC, dI) vcl (vty cI cZ cJ) s → va_P (dC, dI) vcl ws s.heap → va_D (wF ws) ws → va_S (wF ws) s.heap s.heap [] → ∀ ls : Array Slot, lv_has ls nL (lv_args 0 av) →
      W p l e ({ frames := fr, cells := 0, slots := 0, locals := lo } : Room) s m av.toArray below meth c s.heap [] 0 0 (MQ below (Qw dC dI ws ws' ov) av.toArray s 0 0 (wF ws)) (F0 m 0 ls [])) : wr l y cc nL ret fr lo av dC dI cI cZ cJ ws ws' ov := by
  refine Met.ofW (cc := cc) (maxL := nL) (ret := ret) hy rfl ?_
  intro p e s m args below meth c s₁ B0 hml hv
  obtain ⟨rfl, hP, hK, hD⟩ := hv
  have hts := atoms_spec (ws := wT y cc nL ret) B0.pre
  have hown : s.vm.findClass own = some m.cls := by rw [← ho]; exact findClass_of_methodNamed B0.named
  have hl := lv_entry av (n := nL) hn
  rw [lg_entry_eq]
  generalize (lg_sl av ++ List.replicate (nL - (lg_sl av).length) Slot.unset).toArray = ls at hl ⊢
  exact body p e s m below meth c ⟨B0.exec, B0.bytes, hml, hown, fun w hw => hts w (List.mem_cons_of_mem _ hw)⟩ B0.returns B0.notSynchronized hK hP hD.own va_S.rf ls hl
section WR
variable {p : Program} {l : Launch} {e : Env} {R : Room} {s : State} {m : MethodId} {args : Array Value} {below : List Frame} {meth : Method} {c : Code} {H : Heap} {locs : List Loc} {cells slots : Nat} {Q : State → Prop}
variable {cc : ByteArray} {pc nL : Nat} {ls : Array Slot} {rest : List Value} {own : String} {dC : Nat → ClassId} {dI : Nat → Nat → Nat} {cI cZ cJ : ClassId} {ws ws' ws1 u v : va_W} {A : Nat → Prop}
theorem wr_ret {x r : Int32} {ty : FieldType} (S : CallFix p m c cc nL s args tbG own) (hr : meth.sig.returnType = some ty) (hlk : meth.locks = false) (hn : narrow ty (.int x) = .int x) (hv : x = r) (hP : va_P (dC, dI) vcl ws1 H) (he : ws1 = ws') (hS : va_S (wF ws) s.heap H locs) (hdg : decode cc pc = .ok (.ireturn, 1)) :
    W p l e R s m args below meth c H locs cells slots (MQ below (Qw dC dI ws ws' (some (.int r))) args s cells slots (wF ws)) (F0 m pc ls [.int x]) :=
  W.zret (hlocks := hlk) S.1 S.2.1 hr hn (fun t ht _ => ⟨by rw [hv], by rw [ht, ← he]; exact hP, hS.F ht⟩) hS.2.2 hdg
theorem wr_retv (S : CallFix p m c cc nL s args tbG own) (hr : meth.sig.returnType = none) (hlk : meth.locks = false) (hP : va_P (dC, dI) vcl ws1 H) (he : ws1 = ws') (hS : va_S (wF ws) s.heap H locs) (hdg : decode cc pc = .ok (.return_, 1)) :
    W p l e R s m args below meth c H locs cells slots (MQ below (Qw dC dI ws ws' none) args s cells slots (wF ws)) (F0 m pc ls []) :=
  W.vret (hlocks := hlk) S.1 S.2.1 hr (fun t ht _ => ⟨rfl, by rw [ht, ← he]; exact hP, hS.F ht⟩) hS.2.2 hdg
/-- behind a call of a method that writes -/
theorem wr_back {a : Array Value} {st0 : List Value} {ov : Option Value} {H0 : Heap} (hr : va_Run p l e R s m args below meth c H locs cells slots 0 0 (F0 m pc ls st0) rest (Qw dC dI ws ws' ov a) (wF ws)) (hP : va_P (dC, dI) vcl (u ++ (ws ++ v)) H) (hD : va_D A (u ++ (ws ++ v))) (hS : va_S A H0 H locs) (ha : ws'.map Prod.fst = ws.map Prod.fst)
    (kk : ∀ (H1 : Heap) (locs1 : List Loc), va_P (dC, dI) vcl (u ++ (ws' ++ v)) H1 → va_D A (u ++ (ws' ++ v)) → va_S A H0 H1 locs1 → W p l e R s m args below meth c H1 locs1 cells slots Q (F0 m (pc + 3) ls (ov.toList ++ rest))) : W p l e R s m args below meth c H locs cells slots Q (F0 m pc ls st0) := by
  have hA : ∀ q, wF ws q → A q := by
    rintro q ⟨k, e, hk⟩
    have hk' : k < ws.length := (List.getElem?_eq_some_iff.mp hk).1
    refine hD.2 (u.length + k) (q, e) ?_
    rw [List.getElem?_append_right (by omega), Nat.add_sub_cancel_left, List.getElem?_append_left hk']
    exact hk
  intro T hT X
  obtain ⟨x, st₀, t, T', L, h0, X', hL, e1, e2, ⟨hv, hP1, hz, hk⟩, st⟩ := hr T hT X
  cases hv
  rw [h0] at hz hk
  obtain ⟨j1, j2⟩ := wr_join hP hD ha hP1 (fun q h1 h2 => hk q h1 h2)
  obtain ⟨t2, a1, b1⟩ := kk T'.heap (locs ++ L) (by rw [e1]; exact j1) j2
    ⟨Nat.le_trans hS.1 (by rw [e1]; exact hz), fun q h1 h2 => by rw [e1, hk q (Nat.lt_of_lt_of_le h1 hS.1) (fun z => h2 (hA q z))]; exact hS.2.1 q h1 h2, fun q hq => by
      rcases List.mem_append.mp hq with h | h
      · exact hS.2.2 q h
      · exact hA _ (hL q h)⟩ T' rfl X'
  exact ⟨t2, st t2 a1, b1⟩
theorem wr_sub (hP : va_P (dC, dI) vcl (u ++ (ws ++ v)) H) : va_P (dC, dI) vcl ws H := fun k q hk => hP (u.length + k) q (by
  have hk' : k < ws.length := (List.getElem?_eq_some_iff.mp hk).1
  rw [List.getElem?_append_right (by omega), Nat.add_sub_cancel_left, List.getElem?_append_left hk']
  exact hk)
theorem wr_subD (hD : va_D A (u ++ (ws ++ v))) : va_D (fun _ => True) ws := ⟨fun i j p q hp hq hpq => by
  have hi : i < ws.length := (List.getElem?_eq_some_iff.mp hp).1
  have hj : j < ws.length := (List.getElem?_eq_some_iff.mp hq).1
  have := hD.1 (u.length + i) (u.length + j) p q (by rw [List.getElem?_append_right (by omega), Nat.add_sub_cancel_left, List.getElem?_append_left hi]; exact hp) (by rw [List.getElem?_append_right (by omega), Nat.add_sub_cancel_left, List.getElem?_append_left hj]; exact hq) hpq
  omega, fun _ _ _ => trivial⟩
theorem wr_callV {y : MethodName} {bytes : ByteArray} {maxL index fr lo b : Nat} {ret : Option FieldType} {As : List Value} {ov : Option Value} {st : List Value} {C : String} {H0 : Heap} (S : CallFix p m c cc nL s args tbG own) (hM : wr l y bytes maxL ret fr lo (.ref b :: As) dC dI cI cZ cJ ws ws' ov)
    (hK : va_K (dC, dI) vcl (vty cI cZ cJ) s) (u v : va_W) (hP : va_P (dC, dI) vcl (u ++ (ws ++ v)) H) (hD : va_D A (u ++ (ws ++ v))) (hS : va_S A H0 H locs) (ha : ws'.map Prod.fst = ws.map Prod.fst)
    (hcl : ∃ cellB : Cell, H[b]? = some cellB ∧ cellB.vm.isStatics = false ∧ s.vm.findClass C = some cellB.cls)
    (hG : GoodIn tbG (wsV own index C y (wT y bytes maxL ret))) (hd : y.cls = C ∧ y.cls ≠ "java/lang/invoke/MethodHandle" ∧ y.cls ≠ "java/lang/invoke/VarHandle" ∧ (parseMethodDescriptor y.desc).map (fun d => d.parameters.length) = some As.length) (hR : fr + 1 ≤ R.frames ∧ 8 + (maxL + 11) + lo ≤ R.locals)
    (hls : ls.size = nL) (hst : st = As.reverse ++ .ref b :: rest) (hW : (rest.map fun v => v.category).sum ≤ 8) (hdg : decode cc pc = .ok (.invokevirtual index, 3)) (hf : cells ≤ R.cells ∧ slots ≤ R.slots)
    (kk : ∀ (H1 : Heap) (locs1 : List Loc), va_P (dC, dI) vcl (u ++ (ws' ++ v)) H1 → va_D A (u ++ (ws' ++ v)) → va_S A H0 H1 locs1 → W p l e R s m args below meth c H1 locs1 cells slots Q (F0 m (pc + 3) ls (ov.toList ++ rest))) : W p l e R s m args below meth c H locs cells slots Q (F0 m pc ls st) := by
  subst hst
  exact wr_back (va_runV (rest := rest) S hM (cwV As.length S.2.2.2.2 hG rfl rfl rfl hd hR) ⟨wB_blind, hcl, fun U hU hW => ⟨rfl, by rw [hU]; exact wr_sub hP, va_K.moved hW.alike hK, wr_subD hD⟩⟩ rfl rfl hls rfl (lv_room hW) hdg ⟨hf.1, hf.2⟩) hP hD hS ha kk
/-- a flag is stored -/
theorem n_zast {D : va_G} {cl : List vw_C} {ws : va_W} {tys : List (ClassId × FieldType)} {a : Nat} {H0 : Heap} (S : CallFix p m c cc nL s args tbG own) (hK : va_K D cl tys s) (hP : va_P D cl ws H) (hD : va_D A ws) (hS : va_S A H0 H locs) (q0 t0 : Nat) {cA : ClassId} {n : Nat} {f : Nat → Nat} (ha : ws[q0]? = some (a, .inl (cA, n, .inl fun k => nI (f k)))) (ht : tys[t0]? = some (cA, .boolean)) (hdg : decode cc pc = .ok (.bastore, 1)) {j x : Nat} (hn : n < 2 ^ 31) (hj : j < n) (hx : x ≤ 1)
    (kk : ∀ (H1 : Heap) (locs1 : List Loc), va_P D cl (ws.set q0 (a, .inl (cA, n, .inl fun k => nI (va_up f j x k)))) H1 → va_D A (ws.set q0 (a, .inl (cA, n, .inl fun k => nI (va_up f j x k)))) → va_S A H0 H1 locs1 → W p l e R s m args below meth c H1 locs1 cells slots Q (F0 m (pc + 1) ls rest)) : W p l e R s m args below meth c H locs cells slots Q (F0 m pc ls (.int (nI x) :: .int (nI j) :: .ref a :: rest)) := by
  refine va_zast S.1 S.2.1 hK hP hD hS q0 t0 ha ht (vp_in_nI hj hn) hdg ?_
  have e1 : vp_nar .boolean (nI x) = nI x := by
    rcases Nat.le_one_iff_eq_zero_or_eq_one.mp hx with rfl | rfl <;> decide
  rw [nI_clamp (Nat.lt_trans hj hn), e1, up_nI]
  exact kk
end WR
