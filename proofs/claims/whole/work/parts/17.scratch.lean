/-! ===== methods that write, and leave a scratch row as it may be ===== -/
def QwE (dC : Nat → ClassId) (dI : Nat → Nat → Nat) {Z : Type} (ws : va_W) (ws' : Z → va_W) (ov : Option Value) : Array Value → State → Outcome → State → Prop := fun _ st o t => o = .returned ov ∧ (∃ z : Z, va_P (dC, dI) vcl (ws' z) t.heap) ∧ va_F (wF ws) st t
abbrev wrE (l : Launch) (y : MethodName) (cc : ByteArray) (nL : Nat) (ret : Option FieldType) (fr lo : Nat) (av : List Value) (dC : Nat → ClassId) (dI : Nat → Nat → Nat) (cI cZ cJ : ClassId) {Z : Type} (ws : va_W) (ws' : Z → va_W) (ov : Option Value) : Prop :=
  Met l y (wT y cc nL ret) ({ frames := fr, cells := 0, slots := 0, locals := lo }) (va_Pc av (wB dC dI cI cZ cJ ws)) (QwE dC dI ws ws' ov) 0 0 (wF ws)
theorem wrE_ofW {l : Launch} {y : MethodName} {cc : ByteArray} {nL fr lo : Nat} {ret : Option FieldType} {av : List Value} {dC : Nat → ClassId} {dI : Nat → Nat → Nat} {cI cZ cJ : ClassId} {Z : Type} {ws : va_W} {ws' : Z → va_W} {ov : Option Value} (own : String) (hy : plainName y.cls = true) (ho : y.cls = own) (hn : (lg_sl av).length ≤ nL)
    (body : ∀ (p : Program) (e : Env) (s : State) (m : MethodId) (below : List Frame) (meth : Method) (c : Code), CallFix p m c cc nL s av.toArray tbG own → meth.sig.returnType = ret → meth.locks = false → va_K (dC, dI) vcl (vty cI cZ cJ) s → va_P (dC, dI) vcl ws s.heap → va_D (wF ws) ws → va_S (wF ws) s.heap s.heap [] → ∀ ls : Array Slot, lv_has ls nL (lv_args 0 av) →
      W p l e ({ frames := fr, cells := 0, slots := 0, locals := lo } : Room) s m av.toArray below meth c s.heap [] 0 0 (MQ below (QwE dC dI ws ws' ov) av.toArray s 0 0 (wF ws)) (F0 m 0 ls [])) : wrE l y cc nL ret fr lo av dC dI cI cZ cJ ws ws' ov := by
  refine Met.ofW (cc := cc) (maxL := nL) (ret := ret) hy rfl ?_
  intro p e s m args below meth c s₁ B0 hml hv
  obtain ⟨rfl, hP, hK, hD⟩ := hv
  have hts := atoms_spec (ws := wT y cc nL ret) B0.pre
  have hown : s.vm.findClass own = some m.cls := by rw [← ho]; exact findClass_of_methodNamed B0.named
  have hl := lv_entry av (n := nL) hn
  rw [lg_entry_eq]
  generalize (lg_sl av ++ List.replicate (nL - (lg_sl av).length) Slot.unset).toArray = ls at hl ⊢
  exact body p e s m below meth c ⟨B0.exec, B0.bytes, hml, hown, fun w hw => hts w (List.mem_cons_of_mem _ hw)⟩ B0.returns B0.notSynchronized hK hP hD.own va_S.rf ls hl
section WE
variable {p : Program} {l : Launch} {e : Env} {R : Room} {s : State} {m : MethodId} {args : Array Value} {below : List Frame} {meth : Method} {c : Code} {H : Heap} {locs : List Loc} {cells slots : Nat} {Q : State → Prop}
variable {cc : ByteArray} {pc nL : Nat} {ls : Array Slot} {rest : List Value} {own : String} {dC : Nat → ClassId} {dI : Nat → Nat → Nat} {cI cZ cJ : ClassId} {Z : Type} {ws ws1 u v : va_W} {ws' : Z → va_W} {A : Nat → Prop}
theorem wrE_ret {x r : Int32} {ty : FieldType} {z : Z} (S : CallFix p m c cc nL s args tbG own) (hr : meth.sig.returnType = some ty) (hlk : meth.locks = false) (hn : narrow ty (.int x) = .int x) (hv : x = r) (hP : va_P (dC, dI) vcl ws1 H) (he : ws1 = ws' z) (hS : va_S (wF ws) s.heap H locs) (hdg : decode cc pc = .ok (.ireturn, 1)) :
    W p l e R s m args below meth c H locs cells slots (MQ below (QwE dC dI ws ws' (some (.int r))) args s cells slots (wF ws)) (F0 m pc ls [.int x]) :=
  W.zret (hlocks := hlk) S.1 S.2.1 hr hn (fun t ht _ => ⟨by rw [hv], ⟨z, by rw [ht, ← he]; exact hP⟩, hS.F ht⟩) hS.2.2 hdg
theorem wrE_back {a : Array Value} {st0 : List Value} {ov : Option Value} {H0 : Heap} (hr : va_Run p l e R s m args below meth c H locs cells slots 0 0 (F0 m pc ls st0) rest (QwE dC dI ws ws' ov a) (wF ws)) (hP : va_P (dC, dI) vcl (u ++ (ws ++ v)) H) (hD : va_D A (u ++ (ws ++ v))) (hS : va_S A H0 H locs) (ha : ∀ z, (ws' z).map Prod.fst = ws.map Prod.fst)
    (kk : ∀ (z : Z) (H1 : Heap) (locs1 : List Loc), va_P (dC, dI) vcl (u ++ (ws' z ++ v)) H1 → va_D A (u ++ (ws' z ++ v)) → va_S A H0 H1 locs1 → W p l e R s m args below meth c H1 locs1 cells slots Q (F0 m (pc + 3) ls (ov.toList ++ rest))) : W p l e R s m args below meth c H locs cells slots Q (F0 m pc ls st0) := by
  have hA : ∀ q, wF ws q → A q := by
    rintro q ⟨k, e, hk⟩
    have hk' : k < ws.length := (List.getElem?_eq_some_iff.mp hk).1
    refine hD.2 (u.length + k) (q, e) ?_
    rw [List.getElem?_append_right (by omega), Nat.add_sub_cancel_left, List.getElem?_append_left hk']
    exact hk
  intro T hT X
  obtain ⟨x, st₀, t, T', L, h0, X', hL, e1, e2, ⟨hv, ⟨z, hP1⟩, hz, hk⟩, st⟩ := hr T hT X
  cases hv
  rw [h0] at hz hk
  obtain ⟨j1, j2⟩ := wr_join hP hD (ha z) hP1 (fun q h1 h2 => hk q h1 h2)
  obtain ⟨t2, a1, b1⟩ := kk z T'.heap (locs ++ L) (by rw [e1]; exact j1) j2
    ⟨Nat.le_trans hS.1 (by rw [e1]; exact hz), fun q h1 h2 => by rw [e1, hk q (Nat.lt_of_lt_of_le h1 hS.1) (fun z => h2 (hA q z))]; exact hS.2.1 q h1 h2, fun q hq => by
      rcases List.mem_append.mp hq with h | h
      · exact hS.2.2 q h
      · exact hA _ (hL q h)⟩ T' rfl X'
  exact ⟨t2, st t2 a1, b1⟩
theorem wrE_callV {y : MethodName} {bytes : ByteArray} {maxL index fr lo b : Nat} {ret : Option FieldType} {As : List Value} {ov : Option Value} {st : List Value} {C : String} {H0 : Heap} (S : CallFix p m c cc nL s args tbG own) (hM : wrE l y bytes maxL ret fr lo (.ref b :: As) dC dI cI cZ cJ ws ws' ov)
    (hK : va_K (dC, dI) vcl (vty cI cZ cJ) s) (u v : va_W) (hP : va_P (dC, dI) vcl (u ++ (ws ++ v)) H) (hD : va_D A (u ++ (ws ++ v))) (hS : va_S A H0 H locs) (ha : ∀ z, (ws' z).map Prod.fst = ws.map Prod.fst)
    (hcl : ∃ cellB : Cell, H[b]? = some cellB ∧ cellB.vm.isStatics = false ∧ s.vm.findClass C = some cellB.cls)
    (hG : GoodIn tbG (wsV own index C y (wT y bytes maxL ret))) (hd : y.cls = C ∧ y.cls ≠ "java/lang/invoke/MethodHandle" ∧ y.cls ≠ "java/lang/invoke/VarHandle" ∧ (parseMethodDescriptor y.desc).map (fun d => d.parameters.length) = some As.length) (hR : fr + 1 ≤ R.frames ∧ 8 + (maxL + 11) + lo ≤ R.locals)
    (hls : ls.size = nL) (hst : st = As.reverse ++ .ref b :: rest) (hW : (rest.map fun v => v.category).sum ≤ 8) (hdg : decode cc pc = .ok (.invokevirtual index, 3)) (hf : cells ≤ R.cells ∧ slots ≤ R.slots)
    (kk : ∀ (z : Z) (H1 : Heap) (locs1 : List Loc), va_P (dC, dI) vcl (u ++ (ws' z ++ v)) H1 → va_D A (u ++ (ws' z ++ v)) → va_S A H0 H1 locs1 → W p l e R s m args below meth c H1 locs1 cells slots Q (F0 m (pc + 3) ls (ov.toList ++ rest))) : W p l e R s m args below meth c H locs cells slots Q (F0 m pc ls st) := by
  subst hst
  exact wrE_back (va_runV (rest := rest) S hM (cwV As.length S.2.2.2.2 hG rfl rfl rfl hd hR) ⟨wB_blind, hcl, fun U hU hW => ⟨rfl, by rw [hU]; exact wr_sub hP, va_K.moved hW.alike hK, wr_subD hD⟩⟩ rfl rfl hls rfl (lv_room hW) hdg ⟨hf.1, hf.2⟩) hP hD hS ha kk
end WE
/-! counts: how the letters of a word and those of the row stand to each other -/
def wcn (L : Nat → Nat) (w i k : Nat) : Nat := cnt (fun j => decide (L (15 * w + j) = 97 + k)) i
def rcn (sg fo : Nat → Nat) (n k : Nat) : Nat := cnt (fun j => decide (fsg sg fo j = 97 + k)) n
theorem smm_congr {f g : Nat → Nat} {b : Nat} (h : ∀ k, k < b → f k = g k) : smm f b = smm g b := by
  induction b with
  | zero => rfl
  | succ b ih => rw [smm, smm, ih (fun k hk => h k (by omega)), h b (by omega)]
theorem smm_one {f g : Nat → Nat} {b x : Nat} (hx : x < b) (h1 : f x = g x + 1) (h2 : ∀ k, k ≠ x → f k = g k) : smm f b = smm g b + 1 := by
  induction b with
  | zero => omega
  | succ b ih =>
    rw [smm, smm]
    by_cases q : x = b
    · subst q
      rw [smm_congr (f := f) (g := g) (fun k hk => h2 k (by omega)), h1]; omega
    · rw [ih (by omega), h2 b (fun z => q z.symm)]; omega
theorem smm_add (f g : Nat → Nat) (b : Nat) : smm (fun k => f k + g k) b = smm f b + smm g b := by
  induction b with
  | zero => rfl
  | succ b ih => rw [smm, smm, smm, ih]; omega
theorem smm_zero {f : Nat → Nat} {b : Nat} : smm f b = 0 ↔ ∀ k, k < b → f k = 0 := by
  induction b with
  | zero => exact ⟨fun _ k hk => by omega, fun _ => rfl⟩
  | succ b ih =>
    rw [smm]
    constructor
    · intro h k hk
      by_cases q : k = b
      · subst q; omega
      · exact ih.mp (by omega) k (by omega)
    · intro h
      rw [ih.mpr (fun k hk => h k (by omega)), h b (by omega)]
/-- all letters of a row of n letters, counted one kind after the other -/
theorem smm_cnt {f : Nat → Nat} {n : Nat} (h : ∀ j, j < n → 97 ≤ f j ∧ f j ≤ 122) : smm (fun k => cnt (fun j => decide (f j = 97 + k)) n) 26 = n := by
  induction n with
  | zero => exact smm_zero.mpr (fun k _ => rfl)
  | succ n ih =>
    have hn := h n (by omega)
    rw [smm_one (g := fun k => cnt (fun j => decide (f j = 97 + k)) n) (x := f n - 97) (by omega) ?_ ?_, ih (fun j hj => h j (by omega))]
    · show cnt _ (n + 1) = _
      rw [cnt, decide_eq_true (by omega)]; rfl
    · intro k hk
      show cnt _ (n + 1) = _
      rw [cnt, decide_eq_false (by omega)]; rfl
theorem smm_cntb {f : Nat → Nat} {n : Nat} (h : ∀ j, j < n → f j = 63 ∨ (97 ≤ f j ∧ f j ≤ 122)) : smm (fun k => cnt (fun j => decide (f j = 97 + k)) n) 26 + cnt (fun j => decide (f j = 63)) n = n := by
  induction n with
  | zero =>
    show smm _ 26 + 0 = 0
    exact smm_zero.mpr (fun k _ => rfl)
  | succ n ih =>
    have i1 := ih (fun j hj => h j (by omega))
    rcases h n (by omega) with hn | hn
    · rw [smm_congr (g := fun k => cnt (fun j => decide (f j = 97 + k)) n) (fun k _ => by show cnt _ (n + 1) = _; rw [cnt, decide_eq_false (by omega)]; rfl), cnt, decide_eq_true hn]
      show _ + (_ + 1) = _
      omega
    · rw [smm_one (g := fun k => cnt (fun j => decide (f j = 97 + k)) n) (x := f n - 97) (by omega) ?_ ?_, cnt, decide_eq_false (by omega)]
      · show _ + 1 + (_ + 0) = _
        omega
      · show cnt _ (n + 1) = _
        rw [cnt, decide_eq_true (by omega)]; rfl
      · intro k hk
        show cnt _ (n + 1) = _
        rw [cnt, decide_eq_false (by omega)]; rfl
/-- the word has just the row's letters in some order, a blank for any -/
def mxd (n : Nat) (sg fo L le : Nat → Nat) (w : Nat) : Bool := decide (le w = n) && (List.range 26).all (fun k => decide (rcn sg fo n k ≤ wcn L w n k))
theorem mxd_t {n : Nat} {sg fo L le : Nat → Nat} {w : Nat} (hl : le w = n) (h : ∀ k, k < 26 → rcn sg fo n k ≤ wcn L w n k) : mxd n sg fo L le w = true := by
  rw [mxd, decide_eq_true hl, Bool.true_and, List.all_eq_true]
  intro k hk
  exact decide_eq_true (h k (List.mem_range.mp hk))
theorem mxd_f {n : Nat} {sg fo L le : Nat → Nat} {w k : Nat} (hk : k < 26) (h : ¬ rcn sg fo n k ≤ wcn L w n k) : mxd n sg fo L le w = false := by
  rw [mxd, Bool.and_eq_false_iff]
  right
  rw [List.all_eq_false]
  exact ⟨k, List.mem_range.mpr hk, by rw [decide_eq_false h]; decide⟩
theorem mxd_l {n : Nat} {sg fo L le : Nat → Nat} {w : Nat} (hl : le w ≠ n) : mxd n sg fo L le w = false := by
  rw [mxd, decide_eq_false hl]; rfl
theorem mxd_n {n : Nat} {sg fo L le : Nat → Nat} {w : Nat} (h : ¬ ∀ k, k < 26 → rcn sg fo n k ≤ wcn L w n k) : mxd n sg fo L le w = false := by
  obtain ⟨k, hk⟩ := Classical.not_forall.mp h
  obtain ⟨h1, h2⟩ := Classical.not_imp.mp hk
  exact mxd_f h1 h2
theorem mx_key {n mw nf : Nat} {sg fo L le sc li ba ca : Nat → Nat} (hI : iv n mw nf sg fo L le sc li ba ca) {w : Nat} (hw : w < mw) (hl : le w = n) : (smm (fun k => wcn L w n k - rcn sg fo n k) 26 ≤ cnt (fun j => decide (fsg sg fo j = 63)) n) ↔ ∀ k, k < 26 → rcn sg fo n k ≤ wcn L w n k := by
  obtain ⟨⟨hn, hm, hf⟩, ⟨hsg, hfo, hL, hle, hsc, hli, hba, hca⟩, hv1, hv2, hv3, hv4, hv5, hv6, hv7⟩ := id hI
  have e1 : smm (fun k => wcn L w n k) 26 = n := smm_cnt (f := fun j => L (15 * w + j)) (fun j hj => ⟨hv4 w j hw (by omega), hL _⟩)
  have e2 : smm (fun k => rcn sg fo n k) 26 + cnt (fun j => decide (fsg sg fo j = 63)) n = n := smm_cntb (fun j hj => fsg_in hI hj)
  have e3 : smm (fun k => (wcn L w n k - rcn sg fo n k) + rcn sg fo n k) 26 = smm (fun k => (rcn sg fo n k - wcn L w n k) + wcn L w n k) 26 := smm_congr (fun k _ => by omega)
  rw [smm_add (fun k => wcn L w n k - rcn sg fo n k) (fun k => rcn sg fo n k), smm_add (fun k => rcn sg fo n k - wcn L w n k) (fun k => wcn L w n k)] at e3
  constructor
  · intro h k hk
    have z : smm (fun k => rcn sg fo n k - wcn L w n k) 26 = 0 := by omega
    have := smm_zero.mp z k hk
    have : rcn sg fo n k - wcn L w n k = 0 := this
    omega
  · intro h
    have z : smm (fun k => rcn sg fo n k - wcn L w n k) 26 = 0 := smm_zero.mpr (fun k hk => by have := h k hk; show rcn sg fo n k - wcn L w n k = 0; omega)
    omega
