/-! ===== the base: one list of words for all methods, worlds of the class and of the reference, rows over natural numbers ===== -/
/-- the tables' words that hold at every later state -/
def tbG : List Cond := lw_tbl.filter goodWord
theorem tb_good : ∀ w ∈ tbG, goodWord w = true := fun w h => (List.mem_filter.mp h).2
theorem tb_sub : ∀ w ∈ tbG, w ∈ lw_tbl := fun w h => (List.mem_filter.mp h).1
theorem tb_in {ws : List Cond} (h : ∀ w ∈ ws, w ∈ tbG) : GoodIn tbG ws := fun w hw => ⟨h w hw, good_of_word (tb_good w (h w hw))⟩
abbrev wT (y : MethodName) (cc : ByteArray) (n : Nat) (ret : Option FieldType) : List Cond := Cond.code y cc n ret :: tbG
theorem tb_T {y : MethodName} {cc : ByteArray} {n : Nat} {ret : Option FieldType} (h : Cond.code y cc n ret ∈ tbG) : GoodIn tbG (wT y cc n ret) := tb_in fun w hw => (List.mem_cons.mp hw).elim (fun e => e ▸ h) id
theorem tb_V {y : MethodName} {cc : ByteArray} {n idx : Nat} {ret : Option FieldType} {own C : String} (h : Cond.code y cc n ret ∈ tbG) (h1 : Cond.methodLink own idx y ∈ tbG) (h2 : Cond.instanceMethod y ∈ tbG) (h3 : Cond.selects C y y ∈ tbG) (h4 : Cond.initialized C ∈ tbG) : GoodIn tbG (wsV own idx C y (wT y cc n ret)) := by
  refine tb_in fun w hw => ?_
  rcases List.mem_append.mp hw with q | q
  · simp only [List.mem_cons, List.not_mem_nil, or_false] at q
    rcases q with rfl | rfl | rfl | rfl
    · exact h1
    · exact h2
    · exact h3
    · exact h4
  · exact (tb_T h w q).1
theorem tb_S {y : MethodName} {cc : ByteArray} {n idx : Nat} {ret : Option FieldType} {own : String} (h : Cond.code y cc n ret ∈ tbG) (h1 : Cond.methodLink own idx y ∈ tbG) (h2 : Cond.static y ∈ tbG) (h4 : Cond.initialized own ∈ tbG) : GoodIn tbG (wsS own idx y (wT y cc n ret)) := by
  refine tb_in fun w hw => ?_
  rcases List.mem_append.mp hw with q | q
  · simp only [List.mem_cons, List.not_mem_nil, or_false] at q
    rcases q with rfl | rfl | rfl
    · exact h1
    · exact h2
    · exact h4
  · exact (tb_T h w q).1
set_option maxRecDepth 100000 in
theorem inX0 : ∀ w ∈ wsX00, w ∈ tbG := by decide +kernel
set_option maxRecDepth 100000 in
theorem inX1 : ∀ w ∈ wsX10, w ∈ tbG := by decide +kernel
set_option maxRecDepth 100000 in
theorem inJx : ∀ w ∈ wsJx000600, w ∈ tbG := by decide +kernel
/-- the classes of the worlds' objects -/
abbrev vcl : List vw_C := [(RX0, TX0, 12), (RX1, TX1, 13)]
abbrev vty (cI cZ cJ : ClassId) : List (ClassId × FieldType) := [(cI, .int), (cZ, .boolean), (cJ, .long)]
/-- the class's cells: a 0 the object, a 1 .. a 9 its rows -/
def vX (cI cZ : ClassId) (a : Nat → Nat) (n m nf : Nat) (sg fo L le sc li ba ca st : Nat → Nat) : va_W :=
  [(a 0, .inr (0, [.ref (a 1), .int (nI n), .ref (a 2), .ref (a 3), .ref (a 4), .ref (a 5), .ref (a 6), .ref (a 7), .int (nI m), .ref (a 8), .int (nI nf), .ref (a 9)])),
   (a 1, .inl (cI, 15, .inl fun k => nI (sg k))), (a 2, .inl (cI, 26, .inl fun k => nI (fo k))), (a 3, .inl (cI, 3750, .inl fun k => nI (L k))),
   (a 4, .inl (cI, 250, .inl fun k => nI (le k))), (a 5, .inl (cI, 250, .inl fun k => nI (sc k))), (a 6, .inl (cI, 250, .inl fun k => nI (li k))),
   (a 7, .inl (cZ, 250, .inl fun k => nI (ba k))), (a 8, .inl (cI, 250, .inl fun k => nI (ca k))), (a 9, .inl (cI, 26, .inl fun k => nI (st k)))]
/-- the reference's cells: a 0 the object, a 1 .. a 9 its rows; th what it calls thrown; wa its own scratch row -/
def vY (cI cZ : ClassId) (a : Nat → Nat) (th n m nf : Nat) (sg fo L le sc li ba ca : Nat → Nat) (wa : Nat → Int32) : va_W :=
  [(a 0, .inr (1, [.int (nI th), .int (nI n), .ref (a 1), .ref (a 2), .int (nI m), .ref (a 3), .ref (a 4), .ref (a 5), .ref (a 6), .ref (a 7), .int (nI nf), .ref (a 8), .ref (a 9)])),
   (a 1, .inl (cI, 15, .inl fun k => nI (sg k))), (a 2, .inl (cI, 26, .inl fun k => nI (fo k))), (a 3, .inl (cI, 3750, .inl fun k => nI (L k))),
   (a 4, .inl (cI, 250, .inl fun k => nI (le k))), (a 5, .inl (cI, 250, .inl fun k => nI (sc k))), (a 6, .inl (cI, 250, .inl fun k => nI (li k))),
   (a 7, .inl (cZ, 250, .inl fun k => nI (ba k))), (a 8, .inl (cI, 250, .inl fun k => nI (ca k))), (a 9, .inl (cI, 26, .inl wa))]
theorem up_nI (f : Nat → Nat) (i x : Nat) : upd (fun k => nI (f k)) i (nI x) = fun k => nI (va_up f i x k) := by
  funext j
  by_cases h : j = i
  · simp [upd, va_up, h]
  · simp [upd, va_up, h]
/-- what a method that only reads is given of its world -/
abbrev rB (dC : Nat → ClassId) (dI : Nat → Nat → Nat) (cI cZ cJ : ClassId) (ws : va_W) : State → Prop := fun U => va_P (dC, dI) vcl ws U.heap ∧ va_K (dC, dI) vcl (vty cI cZ cJ) U
theorem rB_blind {dC : Nat → ClassId} {dI : Nat → Nat → Nat} {cI cZ cJ : ClassId} {ws : va_W} {av : List Value} : FrameBlind (va_Pc av (rB dC dI cI cZ cJ ws)) := fun a U g mk q => ⟨q.1, q.2.1, va_K.moved (u := U) (U := U.calling g mk a) (Vm.Alike.refl U.vm) q.2.2⟩
/-- a method that reads, and answers a number: nothing is changed, nothing is made -/
abbrev rd (l : Launch) (y : MethodName) (cc : ByteArray) (nL : Nat) (ret : Option FieldType) (fr lo : Nat) (av : List Value) (B : State → Prop) (r : Int32) : Prop :=
  Met l y (wT y cc nL ret) ({ frames := fr, cells := 0, slots := 0, locals := lo }) (va_Pc av B) (QcRead r) 0 0 (fun _ => False)
theorem rd_ofW {l : Launch} {y : MethodName} {cc : ByteArray} {nL fr lo : Nat} {ret : Option FieldType} {av : List Value} {B : State → Prop} {r : Int32} (own : String) (hy : plainName y.cls = true) (ho : y.cls = own) (hn : (lg_sl av).length ≤ nL)
    (body : ∀ (p : Program) (e : Env) (s : State) (m : MethodId) (below : List Frame) (meth : Method) (c : Code), CallFix p m c cc nL s av.toArray tbG own → meth.sig.returnType = ret → meth.locks = false → B s → ∀ ls : Array Slot, lv_has ls nL (lv_args 0 av) →
      W p l e ({ frames := fr, cells := 0, slots := 0, locals := lo } : Room) s m av.toArray below meth c s.heap [] 0 0 (MQ below (QcRead r) av.toArray s 0 0 (fun _ => False)) (F0 m 0 ls [])) : rd l y cc nL ret fr lo av B r := by
  refine Met.ofW (cc := cc) (maxL := nL) (ret := ret) hy rfl ?_
  intro p e s m args below meth c s₁ B0 hml hv
  obtain ⟨rfl, hv⟩ := hv
  have hts := atoms_spec (ws := wT y cc nL ret) B0.pre
  have hown : s.vm.findClass own = some m.cls := by rw [← ho]; exact findClass_of_methodNamed B0.named
  have hl := lv_entry av (n := nL) hn
  rw [lg_entry_eq]
  generalize (lg_sl av ++ List.replicate (nL - (lg_sl av).length) Slot.unset).toArray = ls at hl ⊢
  exact body p e s m below meth c ⟨B0.exec, B0.bytes, hml, hown, fun w hw => hts w (List.mem_cons_of_mem _ hw)⟩ B0.returns B0.notSynchronized hv ls hl
section RW
variable {p : Program} {l : Launch} {e : Env} {R : Room} {s : State} {m : MethodId} {args : Array Value} {below : List Frame} {meth : Method} {c : Code} {H : Heap} {locs : List Loc} {cells slots : Nat} {Q : State → Prop}
variable {cc : ByteArray} {pc nL : Nat} {ls : Array Slot} {rest : List Value} {own : String}
/-- the end of a method that only reads -/
theorem rd_ret {v r : Int32} {ty : FieldType} (S : CallFix p m c cc nL s args tbG own) (hr : meth.sig.returnType = some ty) (hlk : meth.locks = false) (hn : narrow ty (.int v) = .int v) (hv : v = r) (hdg : decode cc pc = .ok (.ireturn, 1)) :
    W p l e R s m args below meth c s.heap [] 0 0 (MQ below (QcRead r) args s 0 0 (fun _ => False)) (F0 m pc ls [.int v]) :=
  W.zret (hlocks := hlk) S.1 S.2.1 hr hn (fun t ht _ => ⟨by rw [hv], ht⟩) (fun q h => by cases h) hdg
/-- a call of a method that only reads: static; on an object -/
theorem rd_callS {y : MethodName} {bytes : ByteArray} {maxL index fr lo : Nat} {ret : Option FieldType} {B : State → Prop} {As : List Value} {r : Int32} {st : List Value} (S : CallFix p m c cc nL s args tbG own) (hM : rd l y bytes maxL ret fr lo As B r) (hbl : FrameBlind (va_Pc As B)) (hB : ∀ U : State, U.heap = H → s.WarmedH U.vm → B U)
    (hG : GoodIn tbG (wsS own index y (wT y bytes maxL ret))) (hd : y.cls = own ∧ y.cls ≠ "java/lang/invoke/MethodHandle" ∧ y.cls ≠ "java/lang/invoke/VarHandle" ∧ (parseMethodDescriptor y.desc).map (fun d => d.parameters.length) = some As.length) (hR : fr + 1 ≤ R.frames ∧ 8 + (maxL + 11) + lo ≤ R.locals)
    (hls : ls.size = nL) (hst : st = As.reverse ++ rest) (hW : (rest.map fun v => v.category).sum ≤ 8) (hdg : decode cc pc = .ok (.invokestatic index, 3)) (hf : cells ≤ R.cells ∧ slots ≤ R.slots)
    (kk : W p l e R s m args below meth c H locs cells slots Q (F0 m (pc + 3) ls (.int r :: rest))) : W p l e R s m args below meth c H locs cells slots Q (F0 m pc ls st) := by
  subst hst
  exact W.callR (W.runS (rest := rest) S hM (cwS As.length S.2.2.2.2 hG rfl rfl rfl hd hR) ⟨hbl, fun U hU hW => ⟨rfl, hB U hU hW⟩⟩ rfl rfl hls rfl (lv_room hW) hdg ⟨hf.1, hf.2⟩) kk
theorem rd_callV {y : MethodName} {bytes : ByteArray} {maxL index fr lo b : Nat} {ret : Option FieldType} {B : State → Prop} {As : List Value} {r : Int32} {st : List Value} {C : String} (S : CallFix p m c cc nL s args tbG own) (hM : rd l y bytes maxL ret fr lo (.ref b :: As) B r) (hbl : FrameBlind (va_Pc (.ref b :: As) B)) (hB : ∀ U : State, U.heap = H → s.WarmedH U.vm → B U)
    (hcl : ∃ cellB : Cell, H[b]? = some cellB ∧ cellB.vm.isStatics = false ∧ s.vm.findClass C = some cellB.cls)
    (hG : GoodIn tbG (wsV own index C y (wT y bytes maxL ret))) (hd : y.cls = C ∧ y.cls ≠ "java/lang/invoke/MethodHandle" ∧ y.cls ≠ "java/lang/invoke/VarHandle" ∧ (parseMethodDescriptor y.desc).map (fun d => d.parameters.length) = some As.length) (hR : fr + 1 ≤ R.frames ∧ 8 + (maxL + 11) + lo ≤ R.locals)
    (hls : ls.size = nL) (hst : st = As.reverse ++ .ref b :: rest) (hW : (rest.map fun v => v.category).sum ≤ 8) (hdg : decode cc pc = .ok (.invokevirtual index, 3)) (hf : cells ≤ R.cells ∧ slots ≤ R.slots)
    (kk : W p l e R s m args below meth c H locs cells slots Q (F0 m (pc + 3) ls (.int r :: rest))) : W p l e R s m args below meth c H locs cells slots Q (F0 m pc ls st) := by
  subst hst
  exact W.callR (W.runV (rest := rest) S hM (cwV As.length S.2.2.2.2 hG rfl rfl rfl hd hR) ⟨hbl, hcl, fun U hU hW => ⟨rfl, hB U hU hW⟩⟩ rfl rfl hls rfl (lv_room hW) hdg ⟨hf.1, hf.2⟩) kk
/-- a place of a row of natural numbers -/
theorem n_iald {D : va_G} {cl : List vw_C} {ws : va_W} {tys : List (ClassId × FieldType)} {a : Nat} (S : CallFix p m c cc nL s args tbG own) (hK : va_K D cl tys s) (hP : va_P D cl ws H) (q0 t0 : Nat) {cA : ClassId} {n : Nat} {f : Nat → Nat} (ha : ws[q0]? = some (a, .inl (cA, n, .inl fun k => nI (f k)))) (ht : tys[t0]? = some (cA, .int)) (hdg : decode cc pc = .ok (.iaload, 1)) {j : Nat} (hn : n < 2 ^ 31) (hj : j < n)
    (kk : W p l e R s m args below meth c H locs cells slots Q (F0 m (pc + 1) ls (.int (nI (f j)) :: rest))) : W p l e R s m args below meth c H locs cells slots Q (F0 m pc ls (.int (nI j) :: .ref a :: rest)) := by
  refine va_iald S.1 S.2.1 hK hP q0 t0 ha ht (vp_in_nI hj hn) hdg ?_
  show W p l e R s m args below meth c H locs cells slots Q (F0 m (pc + 1) ls (.int (nI (f (nI j).toNatClampNeg)) :: rest))
  rw [nI_clamp (Nat.lt_trans hj hn)]
  exact kk
theorem n_zald {D : va_G} {cl : List vw_C} {ws : va_W} {tys : List (ClassId × FieldType)} {a : Nat} (S : CallFix p m c cc nL s args tbG own) (hK : va_K D cl tys s) (hP : va_P D cl ws H) (q0 t0 : Nat) {cA : ClassId} {n : Nat} {f : Nat → Nat} (ha : ws[q0]? = some (a, .inl (cA, n, .inl fun k => nI (f k)))) (ht : tys[t0]? = some (cA, .boolean)) (hdg : decode cc pc = .ok (.baload, 1)) {j : Nat} (hn : n < 2 ^ 31) (hj : j < n)
    (kk : W p l e R s m args below meth c H locs cells slots Q (F0 m (pc + 1) ls (.int (nI (f j)) :: rest))) : W p l e R s m args below meth c H locs cells slots Q (F0 m pc ls (.int (nI j) :: .ref a :: rest)) := by
  refine va_zald S.1 S.2.1 hK hP q0 t0 ha ht (vp_in_nI hj hn) hdg ?_
  show W p l e R s m args below meth c H locs cells slots Q (F0 m (pc + 1) ls (.int (nI (f (nI j).toNatClampNeg)) :: rest))
  rw [nI_clamp (Nat.lt_trans hj hn)]
  exact kk
theorem n_iadd {x y : Nat} (S : CallFix p m c cc nL s args tbG own) (hdg : decode cc pc = .ok (.iadd, 1))
    (kk : W p l e R s m args below meth c H locs cells slots Q (F0 m (pc + 1) ls (.int (nI (x + y)) :: rest))) : W p l e R s m args below meth c H locs cells slots Q (F0 m pc ls (.int (nI y) :: .int (nI x) :: rest)) := by
  refine lv_iadd S.1 S.2.1 hdg ?_
  rw [nI_add]
  exact kk
theorem n_imul {x y : Nat} (S : CallFix p m c cc nL s args tbG own) (hdg : decode cc pc = .ok (.imul, 1))
    (kk : W p l e R s m args below meth c H locs cells slots Q (F0 m (pc + 1) ls (.int (nI (x * y)) :: rest))) : W p l e R s m args below meth c H locs cells slots Q (F0 m pc ls (.int (nI y) :: .int (nI x) :: rest)) := by
  refine lv_imul S.1 S.2.1 hdg ?_
  rw [pk_mul]
  exact kk
theorem n_isub {x y : Nat} (S : CallFix p m c cc nL s args tbG own) (hdg : decode cc pc = .ok (.isub, 1)) (h : y ≤ x)
    (kk : W p l e R s m args below meth c H locs cells slots Q (F0 m (pc + 1) ls (.int (nI (x - y)) :: rest))) : W p l e R s m args below meth c H locs cells slots Q (F0 m pc ls (.int (nI y) :: .int (nI x) :: rest)) := by
  refine lv_isub S.1 S.2.1 hdg ?_
  rw [pk_sub h]
  exact kk
theorem n_ne {a b : Nat} (h : a ≠ b) (ha : a < 2 ^ 31) (hb : b < 2 ^ 31) : ¬ nI a = nI b := fun q => h ((nI_eq ha hb).mp q)
theorem n_icmp_ge {x y tgt : Nat} {off : Int} (S : CallFix p m c cc nL s args tbG own) (hdg : decode cc pc = .ok (.if_icmp .ge off, 3)) (ht : (pc : Int) + off = (tgt : Int)) (hx : x < 2 ^ 31) (hy : y < 2 ^ 31)
    (kt : y ≤ x → W p l e R s m args below meth c H locs cells slots Q (F0 m tgt ls rest)) (kf : x < y → W p l e R s m args below meth c H locs cells slots Q (F0 m (pc + 3) ls rest)) : W p l e R s m args below meth c H locs cells slots Q (F0 m pc ls (.int (nI y) :: .int (nI x) :: rest)) :=
  lv_icmp_ge S.1 S.2.1 hdg ht (fun h => kt ((nI_leI hy hx).mp h)) (fun h => kf (Nat.not_le.mp fun q => h ((nI_leI hy hx).mpr q)))
theorem n_icmp_gt {x y tgt : Nat} {off : Int} (S : CallFix p m c cc nL s args tbG own) (hdg : decode cc pc = .ok (.if_icmp .gt off, 3)) (ht : (pc : Int) + off = (tgt : Int)) (hx : x < 2 ^ 31) (hy : y < 2 ^ 31)
    (kt : y < x → W p l e R s m args below meth c H locs cells slots Q (F0 m tgt ls rest)) (kf : x ≤ y → W p l e R s m args below meth c H locs cells slots Q (F0 m (pc + 3) ls rest)) : W p l e R s m args below meth c H locs cells slots Q (F0 m pc ls (.int (nI y) :: .int (nI x) :: rest)) :=
  lv_icmp_gt S.1 S.2.1 hdg ht (fun h => kt ((nI_ltI hy hx).mp h)) (fun h => kf (Nat.not_lt.mp fun q => h ((nI_ltI hy hx).mpr q)))
theorem n_icmp_lt {x y tgt : Nat} {off : Int} (S : CallFix p m c cc nL s args tbG own) (hdg : decode cc pc = .ok (.if_icmp .lt off, 3)) (ht : (pc : Int) + off = (tgt : Int)) (hx : x < 2 ^ 31) (hy : y < 2 ^ 31)
    (kt : x < y → W p l e R s m args below meth c H locs cells slots Q (F0 m tgt ls rest)) (kf : y ≤ x → W p l e R s m args below meth c H locs cells slots Q (F0 m (pc + 3) ls rest)) : W p l e R s m args below meth c H locs cells slots Q (F0 m pc ls (.int (nI y) :: .int (nI x) :: rest)) :=
  lv_icmp_lt S.1 S.2.1 hdg ht (fun h => kt ((nI_ltI hx hy).mp h)) (fun h => kf (Nat.not_lt.mp fun q => h ((nI_ltI hx hy).mpr q)))
theorem n_icmp_le {x y tgt : Nat} {off : Int} (S : CallFix p m c cc nL s args tbG own) (hdg : decode cc pc = .ok (.if_icmp .le off, 3)) (ht : (pc : Int) + off = (tgt : Int)) (hx : x < 2 ^ 31) (hy : y < 2 ^ 31)
    (kt : x ≤ y → W p l e R s m args below meth c H locs cells slots Q (F0 m tgt ls rest)) (kf : y < x → W p l e R s m args below meth c H locs cells slots Q (F0 m (pc + 3) ls rest)) : W p l e R s m args below meth c H locs cells slots Q (F0 m pc ls (.int (nI y) :: .int (nI x) :: rest)) :=
  lv_icmp_le S.1 S.2.1 hdg ht (fun h => kt ((nI_leI hx hy).mp h)) (fun h => kf (Nat.not_le.mp fun q => h ((nI_leI hx hy).mpr q)))
theorem n_icmp_eq {x y tgt : Nat} {off : Int} (S : CallFix p m c cc nL s args tbG own) (hdg : decode cc pc = .ok (.if_icmp .eq off, 3)) (ht : (pc : Int) + off = (tgt : Int)) (hx : x < 2 ^ 31) (hy : y < 2 ^ 31)
    (kt : x = y → W p l e R s m args below meth c H locs cells slots Q (F0 m tgt ls rest)) (kf : x ≠ y → W p l e R s m args below meth c H locs cells slots Q (F0 m (pc + 3) ls rest)) : W p l e R s m args below meth c H locs cells slots Q (F0 m pc ls (.int (nI y) :: .int (nI x) :: rest)) :=
  lv_icmp_eq S.1 S.2.1 hdg ht (fun h => kt (by first | exact (nI_eq hx hy).mp h | exact ((nI_eq hy hx).mp h).symm)) (fun h => kf (fun q => h (by rw [q])))
theorem n_icmp_ne {x y tgt : Nat} {off : Int} (S : CallFix p m c cc nL s args tbG own) (hdg : decode cc pc = .ok (.if_icmp .ne off, 3)) (ht : (pc : Int) + off = (tgt : Int)) (hx : x < 2 ^ 31) (hy : y < 2 ^ 31)
    (kt : x ≠ y → W p l e R s m args below meth c H locs cells slots Q (F0 m tgt ls rest)) (kf : x = y → W p l e R s m args below meth c H locs cells slots Q (F0 m (pc + 3) ls rest)) : W p l e R s m args below meth c H locs cells slots Q (F0 m pc ls (.int (nI y) :: .int (nI x) :: rest)) := by
  by_cases q : x = y
  · subst q
    exact lv_icmp_ne S.1 S.2.1 hdg ht (fun h => absurd rfl h) (fun _ => kf rfl)
  · exact lv_icmp_ne S.1 S.2.1 hdg ht (fun _ => kt q) (fun h => absurd h (by first | exact n_ne q hx hy | exact fun z => n_ne q hx hy z.symm))
theorem n_if_eq {x tgt : Nat} {off : Int} (S : CallFix p m c cc nL s args tbG own) (hdg : decode cc pc = .ok (.ifCond .eq off, 3)) (ht : (pc : Int) + off = (tgt : Int)) (hx : x < 2 ^ 31)
    (kt : x = 0 → W p l e R s m args below meth c H locs cells slots Q (F0 m tgt ls rest)) (kf : x ≠ 0 → W p l e R s m args below meth c H locs cells slots Q (F0 m (pc + 3) ls rest)) : W p l e R s m args below meth c H locs cells slots Q (F0 m pc ls (.int (nI x) :: rest)) := by
  by_cases q : x = 0
  · subst q
    exact lv_if_eq S.1 S.2.1 hdg ht (fun _ => kt rfl) (fun h => absurd nI_0 h)
  · exact lv_if_eq S.1 S.2.1 hdg ht (fun h => absurd h (nI_ne0 (Nat.pos_of_ne_zero q) hx)) (fun _ => kf q)
theorem n_if_ne {x tgt : Nat} {off : Int} (S : CallFix p m c cc nL s args tbG own) (hdg : decode cc pc = .ok (.ifCond .ne off, 3)) (ht : (pc : Int) + off = (tgt : Int)) (hx : x < 2 ^ 31)
    (kt : x ≠ 0 → W p l e R s m args below meth c H locs cells slots Q (F0 m tgt ls rest)) (kf : x = 0 → W p l e R s m args below meth c H locs cells slots Q (F0 m (pc + 3) ls rest)) : W p l e R s m args below meth c H locs cells slots Q (F0 m pc ls (.int (nI x) :: rest)) := by
  by_cases q : x = 0
  · subst q
    exact lv_if_ne S.1 S.2.1 hdg ht (fun h => absurd nI_0 h) (fun _ => kf rfl)
  · exact lv_if_ne S.1 S.2.1 hdg ht (fun _ => kt q) (fun h => absurd h (nI_ne0 (Nat.pos_of_ne_zero q) hx))
theorem n_if_le {x tgt : Nat} {off : Int} (S : CallFix p m c cc nL s args tbG own) (hdg : decode cc pc = .ok (.ifCond .le off, 3)) (ht : (pc : Int) + off = (tgt : Int)) (hx : x < 2 ^ 31)
    (kt : x = 0 → W p l e R s m args below meth c H locs cells slots Q (F0 m tgt ls rest)) (kf : 0 < x → W p l e R s m args below meth c H locs cells slots Q (F0 m (pc + 3) ls rest)) : W p l e R s m args below meth c H locs cells slots Q (F0 m pc ls (.int (nI x) :: rest)) := by
  by_cases q : x = 0
  · subst q
    exact lv_if_le S.1 S.2.1 hdg ht (fun _ => kt rfl) (fun h => absurd (by decide) h)
  · exact lv_if_le S.1 S.2.1 hdg ht (fun h => absurd h (nI_nle (Nat.pos_of_ne_zero q) hx)) (fun _ => kf (Nat.pos_of_ne_zero q))
theorem n_if_lt {x tgt : Nat} {off : Int} (S : CallFix p m c cc nL s args tbG own) (hdg : decode cc pc = .ok (.ifCond .lt off, 3)) (ht : (pc : Int) + off = (tgt : Int)) (hx : x < 2 ^ 31)
    (kf : W p l e R s m args below meth c H locs cells slots Q (F0 m (pc + 3) ls rest)) : W p l e R s m args below meth c H locs cells slots Q (F0 m pc ls (.int (nI x) :: rest)) :=
  lv_if_lt S.1 S.2.1 hdg ht (fun h => absurd h (nI_pos hx)) (fun _ => kf)
theorem n_iinc {i k x : Nat} {lv lv' : List (Nat × Value)} (S : CallFix p m c cc nL s args tbG own) (hdg : decode cc pc = .ok (.iinc i 1, 3)) (h : lv_has ls nL lv) (hk : lv[k]? = some (i, .int (nI x))) (hn : i < nL) (hl : (i, Value.int (nI (x + 1))) :: lv.filter (fun q => !(q.1 == i) && !(q.1 + 1 == i && q.2.category == 2)) = lv')
    (kk : ∀ ls : Array Slot, lv_has ls nL lv' → W p l e R s m args below meth c H locs cells slots Q (F0 m (pc + 3) ls rest)) : W p l e R s m args below meth c H locs cells slots Q (F0 m pc ls rest) :=
  lv_iinc (v := nI (x + 1)) S.1 S.2.1 hdg h hk (by rw [nI_succ]; rfl) hn hl kk
end RW
