/-! ===== rows that are made; the constructors ===== -/
theorem arw : Cond.arrayClass .int ∈ tbG ∧ Cond.arrayClass .boolean ∈ tbG ∧ Cond.arrayClass .long ∈ tbG := by decide +kernel
theorem oin : Cond.methodLink RX0 1 objectInit ∈ tbG ∧ Cond.methodLink RX1 1 objectInit ∈ tbG ∧ Cond.instanceMethod objectInit ∈ tbG ∧ Cond.code objectInit ⟨#[0xb1]⟩ 1 none ∈ tbG := by decide +kernel
theorem arr_of {args : Array Value} {s : State} {ty : FieldType} (h : (Cond.arrayClass ty).before args s = true) (hty : ∀ C, ty ≠ .object C) : ∃ cA : ClassId, ArrOfT s cA ty ∧ va_RA s cA ty := by
  simp only [Cond.before, Cond.holds, Cond.value] at h
  cases h1 : s.vm.findClass ("[" ++ ty.toString) with
  | none => simp [h1] at h
  | some cA =>
    cases h2 : s.vm.classes[cA]? with
    | none => simp [h1, h2] at h
    | some kA =>
      simp only [h1, h2, Option.bind_some, Option.map_some] at h
      cases h3 : kA.kind with
      | array comp t =>
        simp only [h3] at h
        have ht : t = ty := by simpa using h
        subst ht
        refine ⟨cA, fun n z => ⟨fun k h => (by cases h), kA, h2, comp, h3⟩, ?_⟩
        cases t with
        | object C => exact absurd rfl (hty C)
        | _ => exact h1
      | _ => simp [h3] at h
section MK
variable {p : Program} {l : Launch} {e : Env} {R : Room} {s : State} {m : MethodId} {args : Array Value} {below : List Frame} {meth : Method} {c : Code} {H H0 : Heap} {locs : List Loc} {cells slots : Nat} {Q : State → Prop}
variable {cc : ByteArray} {pc nL : Nat} {ls : Array Slot} {rest : List Value} {own : String} {D : va_G} {cl : List vw_C} {ws : va_W} {A : Nat → Prop} {cI cZ cJ : ClassId}
theorem n_newI {N : Nat} (S : CallFix p m c cc nL s args tbG own) (hK : va_K D cl (vty cI cZ cJ) s) (hP : va_P D cl ws H) (hD : va_D A ws) (hS : va_S A H0 H locs) (hA : ∀ q, H0.size ≤ q → A q) (hN : N < 2 ^ 20) (hcells : cells + 1 ≤ R.cells) (hslots : slots + N ≤ R.slots) (hdg : decode cc pc = .ok (.newarray .int, 2))
    (kk : ∀ (q : Nat) (H1 : Heap), va_P D cl (ws ++ [(q, .inl (cI, N, .inl fun _ => nI 0))]) H1 → va_D A (ws ++ [(q, .inl (cI, N, .inl fun _ => nI 0))]) → va_S A H0 H1 locs → W p l e R s m args below meth c H1 locs (cells + 1) (slots + N) Q (F0 m (pc + 2) ls (.ref q :: rest))) : W p l e R s m args below meth c H locs cells slots Q (F0 m pc ls (.int (nI N) :: rest)) := by
  refine va_newa (atype := .int) (a0 := (N, .inl fun _ => nI 0)) S.1 S.2.1 (S.2.2.2.2 _ arw.1) rfl hK hP hD hS hA (fun _ => rfl) (nI_pos (by omega)) (nI_clamp (by omega)) (by show N * 4 ≤ 536870912; omega) hcells hslots hdg (fun q cA H1 hK1 hP1 hD1 hS1 => ?_)
  have h1 := (hK.2 0 (cI, .int) rfl).2
  have h2 := (hK1.2 3 (cA, .int) rfl).2
  have e1 : cA = cI := Option.some.inj (h2.symm.trans h1)
  subst e1
  exact kk q H1 hP1 hD1 hS1
theorem n_newZ {N : Nat} (S : CallFix p m c cc nL s args tbG own) (hK : va_K D cl (vty cI cZ cJ) s) (hP : va_P D cl ws H) (hD : va_D A ws) (hS : va_S A H0 H locs) (hA : ∀ q, H0.size ≤ q → A q) (hN : N < 2 ^ 20) (hcells : cells + 1 ≤ R.cells) (hslots : slots + N ≤ R.slots) (hdg : decode cc pc = .ok (.newarray .boolean, 2))
    (kk : ∀ (q : Nat) (H1 : Heap), va_P D cl (ws ++ [(q, .inl (cZ, N, .inl fun _ => nI 0))]) H1 → va_D A (ws ++ [(q, .inl (cZ, N, .inl fun _ => nI 0))]) → va_S A H0 H1 locs → W p l e R s m args below meth c H1 locs (cells + 1) (slots + N) Q (F0 m (pc + 2) ls (.ref q :: rest))) : W p l e R s m args below meth c H locs cells slots Q (F0 m pc ls (.int (nI N) :: rest)) := by
  refine va_newa (atype := .boolean) (a0 := (N, .inl fun _ => nI 0)) S.1 S.2.1 (S.2.2.2.2 _ arw.2.1) rfl hK hP hD hS hA (fun _ => rfl) (nI_pos (by omega)) (nI_clamp (by omega)) (by show N * 1 ≤ 536870912; omega) hcells hslots hdg (fun q cA H1 hK1 hP1 hD1 hS1 => ?_)
  have h1 := (hK.2 1 (cZ, .boolean) rfl).2
  have h2 := (hK1.2 3 (cA, .boolean) rfl).2
  have e1 : cA = cZ := Option.some.inj (h2.symm.trans h1)
  subst e1
  exact kk q H1 hP1 hD1 hS1
theorem n_newJ {N : Nat} (S : CallFix p m c cc nL s args tbG own) (hK : va_K D cl (vty cI cZ cJ) s) (hP : va_P D cl ws H) (hD : va_D A ws) (hS : va_S A H0 H locs) (hA : ∀ q, H0.size ≤ q → A q) (hN : N < 2 ^ 20) (hcells : cells + 1 ≤ R.cells) (hslots : slots + N ≤ R.slots) (hdg : decode cc pc = .ok (.newarray .long, 2))
    (kk : ∀ (q : Nat) (H1 : Heap), va_P D cl (ws ++ [(q, .inl (cJ, N, .inr (.inl fun _ => 0)))]) H1 → va_D A (ws ++ [(q, .inl (cJ, N, .inr (.inl fun _ => 0)))]) → va_S A H0 H1 locs → W p l e R s m args below meth c H1 locs (cells + 1) (slots + N) Q (F0 m (pc + 2) ls (.ref q :: rest))) : W p l e R s m args below meth c H locs cells slots Q (F0 m pc ls (.int (nI N) :: rest)) := by
  refine va_newa (atype := .long) (a0 := (N, .inr (.inl fun _ => 0))) S.1 S.2.1 (S.2.2.2.2 _ arw.2.2) rfl hK hP hD hS hA (fun _ => rfl) (nI_pos (by omega)) (nI_clamp (by omega)) (by show N * 8 ≤ 536870912; omega) hcells hslots hdg (fun q cA H1 hK1 hP1 hD1 hS1 => ?_)
  have h1 := (hK.2 2 (cJ, .long) rfl).2
  have h2 := (hK1.2 3 (cA, .long) rfl).2
  have e1 : cA = cJ := Option.some.inj (h2.symm.trans h1)
  subst e1
  exact kk q H1 hP1 hD1 hS1
end MK
/-- the folding with the first i letters set -/
def foF (i : Nat) : Nat → Nat := fun k => if k < i then 97 + k else 0
theorem foF_0 : foF 0 = fun _ => 0 := by
  funext k; rw [foF, if_neg (by omega)]
theorem foF_s {i : Nat} : va_up (foF i) i (97 + i) = foF (i + 1) := by
  funext k
  by_cases q : k = i
  · subst q; rw [va_up_self, foF, if_pos (by omega)]
  · rw [va_up_ne _ _ q, foF, foF]
    by_cases z : k < i
    · rw [if_pos z, if_pos (by omega)]
    · rw [if_neg z, if_neg (by omega)]
abbrev z0 : Nat → Nat := fun _ => 0
