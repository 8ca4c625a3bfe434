/-! ===== rows of fields, words of calls: by program ===== -/
theorem tbX0 : ∀ w ∈ wsX00, w ∈ tbG := by decide +kernel
theorem tbX1 : ∀ w ∈ wsX10, w ∈ tbG := by decide +kernel
section FR
variable {p : Program} {l : Launch} {e : Env} {R : Room} {s : State} {m : MethodId} {args : Array Value} {below : List Frame} {meth : Method} {c : Code} {H H0 : Heap} {locs : List Loc} {cells slots : Nat} {Q : State → Prop}
variable {cc : ByteArray} {pc nL : Nat} {ls : Array Slot} {rest : List Value} {dC : Nat → ClassId} {dI : Nat → Nat → Nat} {tys : List (ClassId × FieldType)} {ws : va_W} {fs : List Value} {a0 : Nat} {v : Value} {A : Nat → Prop}
theorem lkX0_candidateCount : Cond.fieldLink RX0 42 "WordLists" "candidateCount" "I" ∈ tbG := by decide +kernel
theorem fX0_candidateCount (S : CallFix p m c cc nL s args tbG RX0) (hK : va_K (dC, dI) vcl tys s) (hP : va_P (dC, dI) vcl ws H) (he : ws[0]? = some (a0, .inr (0, fs))) (hv : fs[10]? = some v) (hdg : decode cc pc = .ok (.getfield 42, 3))
    (kk : W p l e R s m args below meth c H locs cells slots Q (F0 m (pc + 3) ls (v :: rest))) : W p l e R s m args below meth c H locs cells slots Q (F0 m pc ls (.ref a0 :: rest)) :=
  va_get (D := (dC, dI)) (ci := 0) (C := RX0) (T := TX0) (N := 12) S.1 S.2.1 S.2.2.2.2 tbX0 S.2.2.2.1 hK hP 0 he rfl 10 (by decide) (S.2.2.2.2 _ lkX0_candidateCount) (fun _ h9 => h9) hv hdg kk
theorem pX0_candidateCount {z : Int32} (S : CallFix p m c cc nL s args tbG RX0) (hK : va_K (dC, dI) vcl tys s) (hP : va_P (dC, dI) vcl ws H) (hD : va_D A ws) (hS : va_S A H0 H locs) (he : ws[0]? = some (a0, .inr (0, fs))) (hl : 10 < fs.length) (hdg : decode cc pc = .ok (.putfield 42, 3))
    (kk : ∀ (H1 : Heap) (locs1 : List Loc), va_P (dC, dI) vcl (ws.set 0 (a0, .inr (0, fs.set 10 (.int z)))) H1 → va_D A (ws.set 0 (a0, .inr (0, fs.set 10 (.int z)))) → va_S A H0 H1 locs1 → W p l e R s m args below meth c H1 locs1 cells slots Q (F0 m (pc + 3) ls rest)) : W p l e R s m args below meth c H locs cells slots Q (F0 m pc ls (.int z :: .ref a0 :: rest)) :=
  va_put (D := (dC, dI)) (ci := 0) (ty := .int) (C := RX0) (T := TX0) (N := 12) S.1 S.2.1 S.2.2.2.2 tbX0 tyX0 tyX0_ok nmX0 S.2.2.2.1 hK hP hD hS 0 he rfl 10 (by decide) (S.2.2.2.2 _ lkX0_candidateCount) (fun _ h9 => h9) rfl (by decide +kernel) rfl rfl hl hdg kk
theorem lkX0_candidates : Cond.fieldLink RX0 39 "WordLists" "candidates" "[I" ∈ tbG := by decide +kernel
theorem fX0_candidates (S : CallFix p m c cc nL s args tbG RX0) (hK : va_K (dC, dI) vcl tys s) (hP : va_P (dC, dI) vcl ws H) (he : ws[0]? = some (a0, .inr (0, fs))) (hv : fs[9]? = some v) (hdg : decode cc pc = .ok (.getfield 39, 3))
    (kk : W p l e R s m args below meth c H locs cells slots Q (F0 m (pc + 3) ls (v :: rest))) : W p l e R s m args below meth c H locs cells slots Q (F0 m pc ls (.ref a0 :: rest)) :=
  va_get (D := (dC, dI)) (ci := 0) (C := RX0) (T := TX0) (N := 12) S.1 S.2.1 S.2.2.2.2 tbX0 S.2.2.2.1 hK hP 0 he rfl 9 (by decide) (S.2.2.2.2 _ lkX0_candidates) (fun _ h9 => h9) hv hdg kk
theorem lkX0_folding : Cond.fieldLink RX0 17 "WordLists" "folding" "[I" ∈ tbG := by decide +kernel
theorem fX0_folding (S : CallFix p m c cc nL s args tbG RX0) (hK : va_K (dC, dI) vcl tys s) (hP : va_P (dC, dI) vcl ws H) (he : ws[0]? = some (a0, .inr (0, fs))) (hv : fs[2]? = some v) (hdg : decode cc pc = .ok (.getfield 17, 3))
    (kk : W p l e R s m args below meth c H locs cells slots Q (F0 m (pc + 3) ls (v :: rest))) : W p l e R s m args below meth c H locs cells slots Q (F0 m pc ls (.ref a0 :: rest)) :=
  va_get (D := (dC, dI)) (ci := 0) (C := RX0) (T := TX0) (N := 12) S.1 S.2.1 S.2.2.2.2 tbX0 S.2.2.2.1 hK hP 0 he rfl 2 (by decide) (S.2.2.2.2 _ lkX0_folding) (fun _ h9 => h9) hv hdg kk
theorem lkX0_signCount : Cond.fieldLink RX0 13 "WordLists" "signCount" "I" ∈ tbG := by decide +kernel
theorem fX0_signCount (S : CallFix p m c cc nL s args tbG RX0) (hK : va_K (dC, dI) vcl tys s) (hP : va_P (dC, dI) vcl ws H) (he : ws[0]? = some (a0, .inr (0, fs))) (hv : fs[1]? = some v) (hdg : decode cc pc = .ok (.getfield 13, 3))
    (kk : W p l e R s m args below meth c H locs cells slots Q (F0 m (pc + 3) ls (v :: rest))) : W p l e R s m args below meth c H locs cells slots Q (F0 m pc ls (.ref a0 :: rest)) :=
  va_get (D := (dC, dI)) (ci := 0) (C := RX0) (T := TX0) (N := 12) S.1 S.2.1 S.2.2.2.2 tbX0 S.2.2.2.1 hK hP 0 he rfl 1 (by decide) (S.2.2.2.2 _ lkX0_signCount) (fun _ h9 => h9) hv hdg kk
theorem pX0_signCount {z : Int32} (S : CallFix p m c cc nL s args tbG RX0) (hK : va_K (dC, dI) vcl tys s) (hP : va_P (dC, dI) vcl ws H) (hD : va_D A ws) (hS : va_S A H0 H locs) (he : ws[0]? = some (a0, .inr (0, fs))) (hl : 1 < fs.length) (hdg : decode cc pc = .ok (.putfield 13, 3))
    (kk : ∀ (H1 : Heap) (locs1 : List Loc), va_P (dC, dI) vcl (ws.set 0 (a0, .inr (0, fs.set 1 (.int z)))) H1 → va_D A (ws.set 0 (a0, .inr (0, fs.set 1 (.int z)))) → va_S A H0 H1 locs1 → W p l e R s m args below meth c H1 locs1 cells slots Q (F0 m (pc + 3) ls rest)) : W p l e R s m args below meth c H locs cells slots Q (F0 m pc ls (.int z :: .ref a0 :: rest)) :=
  va_put (D := (dC, dI)) (ci := 0) (ty := .int) (C := RX0) (T := TX0) (N := 12) S.1 S.2.1 S.2.2.2.2 tbX0 tyX0 tyX0_ok nmX0 S.2.2.2.1 hK hP hD hS 0 he rfl 1 (by decide) (S.2.2.2.2 _ lkX0_signCount) (fun _ h9 => h9) rfl (by decide +kernel) rfl rfl hl hdg kk
theorem lkX0_signs : Cond.fieldLink RX0 9 "WordLists" "signs" "[I" ∈ tbG := by decide +kernel
theorem fX0_signs (S : CallFix p m c cc nL s args tbG RX0) (hK : va_K (dC, dI) vcl tys s) (hP : va_P (dC, dI) vcl ws H) (he : ws[0]? = some (a0, .inr (0, fs))) (hv : fs[0]? = some v) (hdg : decode cc pc = .ok (.getfield 9, 3))
    (kk : W p l e R s m args below meth c H locs cells slots Q (F0 m (pc + 3) ls (v :: rest))) : W p l e R s m args below meth c H locs cells slots Q (F0 m pc ls (.ref a0 :: rest)) :=
  va_get (D := (dC, dI)) (ci := 0) (C := RX0) (T := TX0) (N := 12) S.1 S.2.1 S.2.2.2.2 tbX0 S.2.2.2.1 hK hP 0 he rfl 0 (by decide) (S.2.2.2.2 _ lkX0_signs) (fun _ h9 => h9) hv hdg kk
theorem lkX0_stock : Cond.fieldLink RX0 45 "WordLists" "stock" "[I" ∈ tbG := by decide +kernel
theorem fX0_stock (S : CallFix p m c cc nL s args tbG RX0) (hK : va_K (dC, dI) vcl tys s) (hP : va_P (dC, dI) vcl ws H) (he : ws[0]? = some (a0, .inr (0, fs))) (hv : fs[11]? = some v) (hdg : decode cc pc = .ok (.getfield 45, 3))
    (kk : W p l e R s m args below meth c H locs cells slots Q (F0 m (pc + 3) ls (v :: rest))) : W p l e R s m args below meth c H locs cells slots Q (F0 m pc ls (.ref a0 :: rest)) :=
  va_get (D := (dC, dI)) (ci := 0) (C := RX0) (T := TX0) (N := 12) S.1 S.2.1 S.2.2.2.2 tbX0 S.2.2.2.1 hK hP 0 he rfl 11 (by decide) (S.2.2.2.2 _ lkX0_stock) (fun _ h9 => h9) hv hdg kk
theorem lkX0_wordBarred : Cond.fieldLink RX0 32 "WordLists" "wordBarred" "[Z" ∈ tbG := by decide +kernel
theorem fX0_wordBarred (S : CallFix p m c cc nL s args tbG RX0) (hK : va_K (dC, dI) vcl tys s) (hP : va_P (dC, dI) vcl ws H) (he : ws[0]? = some (a0, .inr (0, fs))) (hv : fs[7]? = some v) (hdg : decode cc pc = .ok (.getfield 32, 3))
    (kk : W p l e R s m args below meth c H locs cells slots Q (F0 m (pc + 3) ls (v :: rest))) : W p l e R s m args below meth c H locs cells slots Q (F0 m pc ls (.ref a0 :: rest)) :=
  va_get (D := (dC, dI)) (ci := 0) (C := RX0) (T := TX0) (N := 12) S.1 S.2.1 S.2.2.2.2 tbX0 S.2.2.2.1 hK hP 0 he rfl 7 (by decide) (S.2.2.2.2 _ lkX0_wordBarred) (fun _ h9 => h9) hv hdg kk
theorem lkX0_wordCount : Cond.fieldLink RX0 36 "WordLists" "wordCount" "I" ∈ tbG := by decide +kernel
theorem fX0_wordCount (S : CallFix p m c cc nL s args tbG RX0) (hK : va_K (dC, dI) vcl tys s) (hP : va_P (dC, dI) vcl ws H) (he : ws[0]? = some (a0, .inr (0, fs))) (hv : fs[8]? = some v) (hdg : decode cc pc = .ok (.getfield 36, 3))
    (kk : W p l e R s m args below meth c H locs cells slots Q (F0 m (pc + 3) ls (v :: rest))) : W p l e R s m args below meth c H locs cells slots Q (F0 m pc ls (.ref a0 :: rest)) :=
  va_get (D := (dC, dI)) (ci := 0) (C := RX0) (T := TX0) (N := 12) S.1 S.2.1 S.2.2.2.2 tbX0 S.2.2.2.1 hK hP 0 he rfl 8 (by decide) (S.2.2.2.2 _ lkX0_wordCount) (fun _ h9 => h9) hv hdg kk
theorem pX0_wordCount {z : Int32} (S : CallFix p m c cc nL s args tbG RX0) (hK : va_K (dC, dI) vcl tys s) (hP : va_P (dC, dI) vcl ws H) (hD : va_D A ws) (hS : va_S A H0 H locs) (he : ws[0]? = some (a0, .inr (0, fs))) (hl : 8 < fs.length) (hdg : decode cc pc = .ok (.putfield 36, 3))
    (kk : ∀ (H1 : Heap) (locs1 : List Loc), va_P (dC, dI) vcl (ws.set 0 (a0, .inr (0, fs.set 8 (.int z)))) H1 → va_D A (ws.set 0 (a0, .inr (0, fs.set 8 (.int z)))) → va_S A H0 H1 locs1 → W p l e R s m args below meth c H1 locs1 cells slots Q (F0 m (pc + 3) ls rest)) : W p l e R s m args below meth c H locs cells slots Q (F0 m pc ls (.int z :: .ref a0 :: rest)) :=
  va_put (D := (dC, dI)) (ci := 0) (ty := .int) (C := RX0) (T := TX0) (N := 12) S.1 S.2.1 S.2.2.2.2 tbX0 tyX0 tyX0_ok nmX0 S.2.2.2.1 hK hP hD hS 0 he rfl 8 (by decide) (S.2.2.2.2 _ lkX0_wordCount) (fun _ h9 => h9) rfl (by decide +kernel) rfl rfl hl hdg kk
theorem lkX0_wordLengths : Cond.fieldLink RX0 23 "WordLists" "wordLengths" "[I" ∈ tbG := by decide +kernel
theorem fX0_wordLengths (S : CallFix p m c cc nL s args tbG RX0) (hK : va_K (dC, dI) vcl tys s) (hP : va_P (dC, dI) vcl ws H) (he : ws[0]? = some (a0, .inr (0, fs))) (hv : fs[4]? = some v) (hdg : decode cc pc = .ok (.getfield 23, 3))
    (kk : W p l e R s m args below meth c H locs cells slots Q (F0 m (pc + 3) ls (v :: rest))) : W p l e R s m args below meth c H locs cells slots Q (F0 m pc ls (.ref a0 :: rest)) :=
  va_get (D := (dC, dI)) (ci := 0) (C := RX0) (T := TX0) (N := 12) S.1 S.2.1 S.2.2.2.2 tbX0 S.2.2.2.1 hK hP 0 he rfl 4 (by decide) (S.2.2.2.2 _ lkX0_wordLengths) (fun _ h9 => h9) hv hdg kk
theorem lkX0_wordLetters : Cond.fieldLink RX0 20 "WordLists" "wordLetters" "[I" ∈ tbG := by decide +kernel
theorem fX0_wordLetters (S : CallFix p m c cc nL s args tbG RX0) (hK : va_K (dC, dI) vcl tys s) (hP : va_P (dC, dI) vcl ws H) (he : ws[0]? = some (a0, .inr (0, fs))) (hv : fs[3]? = some v) (hdg : decode cc pc = .ok (.getfield 20, 3))
    (kk : W p l e R s m args below meth c H locs cells slots Q (F0 m (pc + 3) ls (v :: rest))) : W p l e R s m args below meth c H locs cells slots Q (F0 m pc ls (.ref a0 :: rest)) :=
  va_get (D := (dC, dI)) (ci := 0) (C := RX0) (T := TX0) (N := 12) S.1 S.2.1 S.2.2.2.2 tbX0 S.2.2.2.1 hK hP 0 he rfl 3 (by decide) (S.2.2.2.2 _ lkX0_wordLetters) (fun _ h9 => h9) hv hdg kk
theorem lkX0_wordListBits : Cond.fieldLink RX0 29 "WordLists" "wordListBits" "[I" ∈ tbG := by decide +kernel
theorem fX0_wordListBits (S : CallFix p m c cc nL s args tbG RX0) (hK : va_K (dC, dI) vcl tys s) (hP : va_P (dC, dI) vcl ws H) (he : ws[0]? = some (a0, .inr (0, fs))) (hv : fs[6]? = some v) (hdg : decode cc pc = .ok (.getfield 29, 3))
    (kk : W p l e R s m args below meth c H locs cells slots Q (F0 m (pc + 3) ls (v :: rest))) : W p l e R s m args below meth c H locs cells slots Q (F0 m pc ls (.ref a0 :: rest)) :=
  va_get (D := (dC, dI)) (ci := 0) (C := RX0) (T := TX0) (N := 12) S.1 S.2.1 S.2.2.2.2 tbX0 S.2.2.2.1 hK hP 0 he rfl 6 (by decide) (S.2.2.2.2 _ lkX0_wordListBits) (fun _ h9 => h9) hv hdg kk
theorem lkX0_wordScores : Cond.fieldLink RX0 26 "WordLists" "wordScores" "[I" ∈ tbG := by decide +kernel
theorem fX0_wordScores (S : CallFix p m c cc nL s args tbG RX0) (hK : va_K (dC, dI) vcl tys s) (hP : va_P (dC, dI) vcl ws H) (he : ws[0]? = some (a0, .inr (0, fs))) (hv : fs[5]? = some v) (hdg : decode cc pc = .ok (.getfield 26, 3))
    (kk : W p l e R s m args below meth c H locs cells slots Q (F0 m (pc + 3) ls (v :: rest))) : W p l e R s m args below meth c H locs cells slots Q (F0 m pc ls (.ref a0 :: rest)) :=
  va_get (D := (dC, dI)) (ci := 0) (C := RX0) (T := TX0) (N := 12) S.1 S.2.1 S.2.2.2.2 tbX0 S.2.2.2.1 hK hP 0 he rfl 5 (by decide) (S.2.2.2.2 _ lkX0_wordScores) (fun _ h9 => h9) hv hdg kk
theorem lkX1_barred : Cond.fieldLink RX1 28 "WordListsModel" "barred" "[Z" ∈ tbG := by decide +kernel
theorem fX1_barred (S : CallFix p m c cc nL s args tbG RX1) (hK : va_K (dC, dI) vcl tys s) (hP : va_P (dC, dI) vcl ws H) (he : ws[0]? = some (a0, .inr (1, fs))) (hv : fs[9]? = some v) (hdg : decode cc pc = .ok (.getfield 28, 3))
    (kk : W p l e R s m args below meth c H locs cells slots Q (F0 m (pc + 3) ls (v :: rest))) : W p l e R s m args below meth c H locs cells slots Q (F0 m pc ls (.ref a0 :: rest)) :=
  va_get (D := (dC, dI)) (ci := 1) (C := RX1) (T := TX1) (N := 13) S.1 S.2.1 S.2.2.2.2 tbX1 S.2.2.2.1 hK hP 0 he rfl 9 (by decide) (S.2.2.2.2 _ lkX1_barred) (fun _ h9 => h9) hv hdg kk
theorem lkX1_candidates : Cond.fieldLink RX1 32 "WordListsModel" "candidates" "[I" ∈ tbG := by decide +kernel
theorem fX1_candidates (S : CallFix p m c cc nL s args tbG RX1) (hK : va_K (dC, dI) vcl tys s) (hP : va_P (dC, dI) vcl ws H) (he : ws[0]? = some (a0, .inr (1, fs))) (hv : fs[11]? = some v) (hdg : decode cc pc = .ok (.getfield 32, 3))
    (kk : W p l e R s m args below meth c H locs cells slots Q (F0 m (pc + 3) ls (v :: rest))) : W p l e R s m args below meth c H locs cells slots Q (F0 m pc ls (.ref a0 :: rest)) :=
  va_get (D := (dC, dI)) (ci := 1) (C := RX1) (T := TX1) (N := 13) S.1 S.2.1 S.2.2.2.2 tbX1 S.2.2.2.1 hK hP 0 he rfl 11 (by decide) (S.2.2.2.2 _ lkX1_candidates) (fun _ h9 => h9) hv hdg kk
theorem lkX1_folds : Cond.fieldLink RX1 13 "WordListsModel" "folds" "[I" ∈ tbG := by decide +kernel
theorem fX1_folds (S : CallFix p m c cc nL s args tbG RX1) (hK : va_K (dC, dI) vcl tys s) (hP : va_P (dC, dI) vcl ws H) (he : ws[0]? = some (a0, .inr (1, fs))) (hv : fs[3]? = some v) (hdg : decode cc pc = .ok (.getfield 13, 3))
    (kk : W p l e R s m args below meth c H locs cells slots Q (F0 m (pc + 3) ls (v :: rest))) : W p l e R s m args below meth c H locs cells slots Q (F0 m pc ls (.ref a0 :: rest)) :=
  va_get (D := (dC, dI)) (ci := 1) (C := RX1) (T := TX1) (N := 13) S.1 S.2.1 S.2.2.2.2 tbX1 S.2.2.2.1 hK hP 0 he rfl 3 (by decide) (S.2.2.2.2 _ lkX1_folds) (fun _ h9 => h9) hv hdg kk
theorem lkX1_found : Cond.fieldLink RX1 81 "WordListsModel" "found" "I" ∈ tbG := by decide +kernel
theorem fX1_found (S : CallFix p m c cc nL s args tbG RX1) (hK : va_K (dC, dI) vcl tys s) (hP : va_P (dC, dI) vcl ws H) (he : ws[0]? = some (a0, .inr (1, fs))) (hv : fs[10]? = some v) (hdg : decode cc pc = .ok (.getfield 81, 3))
    (kk : W p l e R s m args below meth c H locs cells slots Q (F0 m (pc + 3) ls (v :: rest))) : W p l e R s m args below meth c H locs cells slots Q (F0 m pc ls (.ref a0 :: rest)) :=
  va_get (D := (dC, dI)) (ci := 1) (C := RX1) (T := TX1) (N := 13) S.1 S.2.1 S.2.2.2.2 tbX1 S.2.2.2.1 hK hP 0 he rfl 10 (by decide) (S.2.2.2.2 _ lkX1_found) (fun _ h9 => h9) hv hdg kk
theorem pX1_found {z : Int32} (S : CallFix p m c cc nL s args tbG RX1) (hK : va_K (dC, dI) vcl tys s) (hP : va_P (dC, dI) vcl ws H) (hD : va_D A ws) (hS : va_S A H0 H locs) (he : ws[0]? = some (a0, .inr (1, fs))) (hl : 10 < fs.length) (hdg : decode cc pc = .ok (.putfield 81, 3))
    (kk : ∀ (H1 : Heap) (locs1 : List Loc), va_P (dC, dI) vcl (ws.set 0 (a0, .inr (1, fs.set 10 (.int z)))) H1 → va_D A (ws.set 0 (a0, .inr (1, fs.set 10 (.int z)))) → va_S A H0 H1 locs1 → W p l e R s m args below meth c H1 locs1 cells slots Q (F0 m (pc + 3) ls rest)) : W p l e R s m args below meth c H locs cells slots Q (F0 m pc ls (.int z :: .ref a0 :: rest)) :=
  va_put (D := (dC, dI)) (ci := 1) (ty := .int) (C := RX1) (T := TX1) (N := 13) S.1 S.2.1 S.2.2.2.2 tbX1 tyX1 tyX1_ok nmX1 S.2.2.2.1 hK hP hD hS 0 he rfl 10 (by decide) (S.2.2.2.2 _ lkX1_found) (fun _ h9 => h9) rfl (by decide +kernel) rfl rfl hl hdg kk
theorem lkX1_lengths : Cond.fieldLink RX1 19 "WordListsModel" "lengths" "[I" ∈ tbG := by decide +kernel
theorem fX1_lengths (S : CallFix p m c cc nL s args tbG RX1) (hK : va_K (dC, dI) vcl tys s) (hP : va_P (dC, dI) vcl ws H) (he : ws[0]? = some (a0, .inr (1, fs))) (hv : fs[6]? = some v) (hdg : decode cc pc = .ok (.getfield 19, 3))
    (kk : W p l e R s m args below meth c H locs cells slots Q (F0 m (pc + 3) ls (v :: rest))) : W p l e R s m args below meth c H locs cells slots Q (F0 m pc ls (.ref a0 :: rest)) :=
  va_get (D := (dC, dI)) (ci := 1) (C := RX1) (T := TX1) (N := 13) S.1 S.2.1 S.2.2.2.2 tbX1 S.2.2.2.1 hK hP 0 he rfl 6 (by decide) (S.2.2.2.2 _ lkX1_lengths) (fun _ h9 => h9) hv hdg kk
theorem lkX1_letters : Cond.fieldLink RX1 16 "WordListsModel" "letters" "[I" ∈ tbG := by decide +kernel
theorem fX1_letters (S : CallFix p m c cc nL s args tbG RX1) (hK : va_K (dC, dI) vcl tys s) (hP : va_P (dC, dI) vcl ws H) (he : ws[0]? = some (a0, .inr (1, fs))) (hv : fs[5]? = some v) (hdg : decode cc pc = .ok (.getfield 16, 3))
    (kk : W p l e R s m args below meth c H locs cells slots Q (F0 m (pc + 3) ls (v :: rest))) : W p l e R s m args below meth c H locs cells slots Q (F0 m pc ls (.ref a0 :: rest)) :=
  va_get (D := (dC, dI)) (ci := 1) (C := RX1) (T := TX1) (N := 13) S.1 S.2.1 S.2.2.2.2 tbX1 S.2.2.2.1 hK hP 0 he rfl 5 (by decide) (S.2.2.2.2 _ lkX1_letters) (fun _ h9 => h9) hv hdg kk
theorem lkX1_lists : Cond.fieldLink RX1 25 "WordListsModel" "lists" "[I" ∈ tbG := by decide +kernel
theorem fX1_lists (S : CallFix p m c cc nL s args tbG RX1) (hK : va_K (dC, dI) vcl tys s) (hP : va_P (dC, dI) vcl ws H) (he : ws[0]? = some (a0, .inr (1, fs))) (hv : fs[8]? = some v) (hdg : decode cc pc = .ok (.getfield 25, 3))
    (kk : W p l e R s m args below meth c H locs cells slots Q (F0 m (pc + 3) ls (v :: rest))) : W p l e R s m args below meth c H locs cells slots Q (F0 m pc ls (.ref a0 :: rest)) :=
  va_get (D := (dC, dI)) (ci := 1) (C := RX1) (T := TX1) (N := 13) S.1 S.2.1 S.2.2.2.2 tbX1 S.2.2.2.1 hK hP 0 he rfl 8 (by decide) (S.2.2.2.2 _ lkX1_lists) (fun _ h9 => h9) hv hdg kk
theorem lkX1_many : Cond.fieldLink RX1 42 "WordListsModel" "many" "I" ∈ tbG := by decide +kernel
theorem fX1_many (S : CallFix p m c cc nL s args tbG RX1) (hK : va_K (dC, dI) vcl tys s) (hP : va_P (dC, dI) vcl ws H) (he : ws[0]? = some (a0, .inr (1, fs))) (hv : fs[4]? = some v) (hdg : decode cc pc = .ok (.getfield 42, 3))
    (kk : W p l e R s m args below meth c H locs cells slots Q (F0 m (pc + 3) ls (v :: rest))) : W p l e R s m args below meth c H locs cells slots Q (F0 m pc ls (.ref a0 :: rest)) :=
  va_get (D := (dC, dI)) (ci := 1) (C := RX1) (T := TX1) (N := 13) S.1 S.2.1 S.2.2.2.2 tbX1 S.2.2.2.1 hK hP 0 he rfl 4 (by decide) (S.2.2.2.2 _ lkX1_many) (fun _ h9 => h9) hv hdg kk
theorem pX1_many {z : Int32} (S : CallFix p m c cc nL s args tbG RX1) (hK : va_K (dC, dI) vcl tys s) (hP : va_P (dC, dI) vcl ws H) (hD : va_D A ws) (hS : va_S A H0 H locs) (he : ws[0]? = some (a0, .inr (1, fs))) (hl : 4 < fs.length) (hdg : decode cc pc = .ok (.putfield 42, 3))
    (kk : ∀ (H1 : Heap) (locs1 : List Loc), va_P (dC, dI) vcl (ws.set 0 (a0, .inr (1, fs.set 4 (.int z)))) H1 → va_D A (ws.set 0 (a0, .inr (1, fs.set 4 (.int z)))) → va_S A H0 H1 locs1 → W p l e R s m args below meth c H1 locs1 cells slots Q (F0 m (pc + 3) ls rest)) : W p l e R s m args below meth c H locs cells slots Q (F0 m pc ls (.int z :: .ref a0 :: rest)) :=
  va_put (D := (dC, dI)) (ci := 1) (ty := .int) (C := RX1) (T := TX1) (N := 13) S.1 S.2.1 S.2.2.2.2 tbX1 tyX1 tyX1_ok nmX1 S.2.2.2.1 hK hP hD hS 0 he rfl 4 (by decide) (S.2.2.2.2 _ lkX1_many) (fun _ h9 => h9) rfl (by decide +kernel) rfl rfl hl hdg kk
theorem lkX1_row : Cond.fieldLink RX1 7 "WordListsModel" "row" "[I" ∈ tbG := by decide +kernel
theorem fX1_row (S : CallFix p m c cc nL s args tbG RX1) (hK : va_K (dC, dI) vcl tys s) (hP : va_P (dC, dI) vcl ws H) (he : ws[0]? = some (a0, .inr (1, fs))) (hv : fs[2]? = some v) (hdg : decode cc pc = .ok (.getfield 7, 3))
    (kk : W p l e R s m args below meth c H locs cells slots Q (F0 m (pc + 3) ls (v :: rest))) : W p l e R s m args below meth c H locs cells slots Q (F0 m pc ls (.ref a0 :: rest)) :=
  va_get (D := (dC, dI)) (ci := 1) (C := RX1) (T := TX1) (N := 13) S.1 S.2.1 S.2.2.2.2 tbX1 S.2.2.2.1 hK hP 0 he rfl 2 (by decide) (S.2.2.2.2 _ lkX1_row) (fun _ h9 => h9) hv hdg kk
theorem lkX1_scores : Cond.fieldLink RX1 22 "WordListsModel" "scores" "[I" ∈ tbG := by decide +kernel
theorem fX1_scores (S : CallFix p m c cc nL s args tbG RX1) (hK : va_K (dC, dI) vcl tys s) (hP : va_P (dC, dI) vcl ws H) (he : ws[0]? = some (a0, .inr (1, fs))) (hv : fs[7]? = some v) (hdg : decode cc pc = .ok (.getfield 22, 3))
    (kk : W p l e R s m args below meth c H locs cells slots Q (F0 m (pc + 3) ls (v :: rest))) : W p l e R s m args below meth c H locs cells slots Q (F0 m pc ls (.ref a0 :: rest)) :=
  va_get (D := (dC, dI)) (ci := 1) (C := RX1) (T := TX1) (N := 13) S.1 S.2.1 S.2.2.2.2 tbX1 S.2.2.2.1 hK hP 0 he rfl 7 (by decide) (S.2.2.2.2 _ lkX1_scores) (fun _ h9 => h9) hv hdg kk
theorem lkX1_size : Cond.fieldLink RX1 49 "WordListsModel" "size" "I" ∈ tbG := by decide +kernel
theorem fX1_size (S : CallFix p m c cc nL s args tbG RX1) (hK : va_K (dC, dI) vcl tys s) (hP : va_P (dC, dI) vcl ws H) (he : ws[0]? = some (a0, .inr (1, fs))) (hv : fs[1]? = some v) (hdg : decode cc pc = .ok (.getfield 49, 3))
    (kk : W p l e R s m args below meth c H locs cells slots Q (F0 m (pc + 3) ls (v :: rest))) : W p l e R s m args below meth c H locs cells slots Q (F0 m pc ls (.ref a0 :: rest)) :=
  va_get (D := (dC, dI)) (ci := 1) (C := RX1) (T := TX1) (N := 13) S.1 S.2.1 S.2.2.2.2 tbX1 S.2.2.2.1 hK hP 0 he rfl 1 (by decide) (S.2.2.2.2 _ lkX1_size) (fun _ h9 => h9) hv hdg kk
theorem pX1_size {z : Int32} (S : CallFix p m c cc nL s args tbG RX1) (hK : va_K (dC, dI) vcl tys s) (hP : va_P (dC, dI) vcl ws H) (hD : va_D A ws) (hS : va_S A H0 H locs) (he : ws[0]? = some (a0, .inr (1, fs))) (hl : 1 < fs.length) (hdg : decode cc pc = .ok (.putfield 49, 3))
    (kk : ∀ (H1 : Heap) (locs1 : List Loc), va_P (dC, dI) vcl (ws.set 0 (a0, .inr (1, fs.set 1 (.int z)))) H1 → va_D A (ws.set 0 (a0, .inr (1, fs.set 1 (.int z)))) → va_S A H0 H1 locs1 → W p l e R s m args below meth c H1 locs1 cells slots Q (F0 m (pc + 3) ls rest)) : W p l e R s m args below meth c H locs cells slots Q (F0 m pc ls (.int z :: .ref a0 :: rest)) :=
  va_put (D := (dC, dI)) (ci := 1) (ty := .int) (C := RX1) (T := TX1) (N := 13) S.1 S.2.1 S.2.2.2.2 tbX1 tyX1 tyX1_ok nmX1 S.2.2.2.1 hK hP hD hS 0 he rfl 1 (by decide) (S.2.2.2.2 _ lkX1_size) (fun _ h9 => h9) rfl (by decide +kernel) rfl rfl hl hdg kk
theorem lkX1_thrown : Cond.fieldLink RX1 38 "WordListsModel" "thrown" "I" ∈ tbG := by decide +kernel
theorem fX1_thrown (S : CallFix p m c cc nL s args tbG RX1) (hK : va_K (dC, dI) vcl tys s) (hP : va_P (dC, dI) vcl ws H) (he : ws[0]? = some (a0, .inr (1, fs))) (hv : fs[0]? = some v) (hdg : decode cc pc = .ok (.getfield 38, 3))
    (kk : W p l e R s m args below meth c H locs cells slots Q (F0 m (pc + 3) ls (v :: rest))) : W p l e R s m args below meth c H locs cells slots Q (F0 m pc ls (.ref a0 :: rest)) :=
  va_get (D := (dC, dI)) (ci := 1) (C := RX1) (T := TX1) (N := 13) S.1 S.2.1 S.2.2.2.2 tbX1 S.2.2.2.1 hK hP 0 he rfl 0 (by decide) (S.2.2.2.2 _ lkX1_thrown) (fun _ h9 => h9) hv hdg kk
theorem pX1_thrown {z : Int32} (S : CallFix p m c cc nL s args tbG RX1) (hK : va_K (dC, dI) vcl tys s) (hP : va_P (dC, dI) vcl ws H) (hD : va_D A ws) (hS : va_S A H0 H locs) (he : ws[0]? = some (a0, .inr (1, fs))) (hl : 0 < fs.length) (hdg : decode cc pc = .ok (.putfield 38, 3))
    (kk : ∀ (H1 : Heap) (locs1 : List Loc), va_P (dC, dI) vcl (ws.set 0 (a0, .inr (1, fs.set 0 (.int z)))) H1 → va_D A (ws.set 0 (a0, .inr (1, fs.set 0 (.int z)))) → va_S A H0 H1 locs1 → W p l e R s m args below meth c H1 locs1 cells slots Q (F0 m (pc + 3) ls rest)) : W p l e R s m args below meth c H locs cells slots Q (F0 m pc ls (.int z :: .ref a0 :: rest)) :=
  va_put (D := (dC, dI)) (ci := 1) (ty := .int) (C := RX1) (T := TX1) (N := 13) S.1 S.2.1 S.2.2.2.2 tbX1 tyX1 tyX1_ok nmX1 S.2.2.2.1 hK hP hD hS 0 he rfl 0 (by decide) (S.2.2.2.2 _ lkX1_thrown) (fun _ h9 => h9) rfl (by decide +kernel) rfl rfl hl hdg kk
theorem lkX1_wanted : Cond.fieldLink RX1 35 "WordListsModel" "wanted" "[I" ∈ tbG := by decide +kernel
theorem fX1_wanted (S : CallFix p m c cc nL s args tbG RX1) (hK : va_K (dC, dI) vcl tys s) (hP : va_P (dC, dI) vcl ws H) (he : ws[0]? = some (a0, .inr (1, fs))) (hv : fs[12]? = some v) (hdg : decode cc pc = .ok (.getfield 35, 3))
    (kk : W p l e R s m args below meth c H locs cells slots Q (F0 m (pc + 3) ls (v :: rest))) : W p l e R s m args below meth c H locs cells slots Q (F0 m pc ls (.ref a0 :: rest)) :=
  va_get (D := (dC, dI)) (ci := 1) (C := RX1) (T := TX1) (N := 13) S.1 S.2.1 S.2.2.2.2 tbX1 S.2.2.2.1 hK hP 0 he rfl 12 (by decide) (S.2.2.2.2 _ lkX1_wanted) (fun _ h9 => h9) hv hdg kk
end FR
theorem gX0_48 : GoodIn tbG (wsS RX0 48 yX0_isLetter (wT yX0_isLetter cX0_isLetter 1 (some .boolean))) := tb_S (by decide +kernel) (by decide +kernel) (by decide +kernel) (by decide +kernel)
theorem gX0_52 : GoodIn tbG (wsS RX0 52 yX0_needLetter (wT yX0_needLetter cX0_needLetter 1 none)) := tb_S (by decide +kernel) (by decide +kernel) (by decide +kernel) (by decide +kernel)
theorem gX0_56 : GoodIn tbG (wsS RX0 56 yX0_needList (wT yX0_needList cX0_needList 1 none)) := tb_S (by decide +kernel) (by decide +kernel) (by decide +kernel) (by decide +kernel)
theorem gX0_59 : GoodIn tbG (wsV RX0 59 RX0 yX0_rowHasBlank (wT yX0_rowHasBlank cX0_rowHasBlank 2 (some .boolean))) := tb_V (by decide +kernel) (by decide +kernel) (by decide +kernel) (by decide +kernel) (by decide +kernel)
theorem gX0_63 : GoodIn tbG (wsV RX0 63 RX0 yX0_wordOfRow (wT yX0_wordOfRow cX0_wordOfRow 2 (some .int))) := tb_V (by decide +kernel) (by decide +kernel) (by decide +kernel) (by decide +kernel) (by decide +kernel)
theorem gX0_67 : GoodIn tbG (wsV RX0 67 RX0 yX0_addWordOfRow (wT yX0_addWordOfRow cX0_addWordOfRow 3 (some .int))) := tb_V (by decide +kernel) (by decide +kernel) (by decide +kernel) (by decide +kernel) (by decide +kernel)
theorem gX0_76 : GoodIn tbG (wsV RX0 76 RX0 yX0_fits (wT yX0_fits cX0_fits 2 (some .boolean))) := tb_V (by decide +kernel) (by decide +kernel) (by decide +kernel) (by decide +kernel) (by decide +kernel)
theorem gX0_79 : GoodIn tbG (wsV RX0 79 RX0 yX0_isOf (wT yX0_isOf cX0_isOf 3 (some .boolean))) := tb_V (by decide +kernel) (by decide +kernel) (by decide +kernel) (by decide +kernel) (by decide +kernel)
theorem gX0_83 : GoodIn tbG (wsS RX0 83 yX0_isChosen (wT yX0_isChosen cX0_isChosen 3 (some .boolean))) := tb_S (by decide +kernel) (by decide +kernel) (by decide +kernel) (by decide +kernel)
theorem gX0_87 : GoodIn tbG (wsV RX0 87 RX0 yX0_isFreeIn (wT yX0_isFreeIn cX0_isFreeIn 3 (some .boolean))) := tb_V (by decide +kernel) (by decide +kernel) (by decide +kernel) (by decide +kernel) (by decide +kernel)
theorem gX0_90 : GoodIn tbG (wsV RX0 90 RX0 yX0_addCandidate (wT yX0_addCandidate cX0_addCandidate 3 none)) := tb_V (by decide +kernel) (by decide +kernel) (by decide +kernel) (by decide +kernel) (by decide +kernel)
theorem gX0_100 : GoodIn tbG (wsV RX0 100 RX0 yX0_letterOrNone (wT yX0_letterOrNone cX0_letterOrNone 3 (some .int))) := tb_V (by decide +kernel) (by decide +kernel) (by decide +kernel) (by decide +kernel) (by decide +kernel)
theorem gX0_103 : GoodIn tbG (wsV RX0 103 RX0 yX0_hasRowAt (wT yX0_hasRowAt cX0_hasRowAt 5 (some .boolean))) := tb_V (by decide +kernel) (by decide +kernel) (by decide +kernel) (by decide +kernel) (by decide +kernel)
theorem gX0_106 : GoodIn tbG (wsV RX0 106 RX0 yX0_isRowInSomeOrder (wT yX0_isRowInSomeOrder cX0_isRowInSomeOrder 5 (some .boolean))) := tb_V (by decide +kernel) (by decide +kernel) (by decide +kernel) (by decide +kernel) (by decide +kernel)
theorem gX0_109 : GoodIn tbG (wsV RX0 109 RX0 yX0_timesInWord (wT yX0_timesInWord cX0_timesInWord 5 (some .int))) := tb_V (by decide +kernel) (by decide +kernel) (by decide +kernel) (by decide +kernel) (by decide +kernel)
theorem gX0_112 : GoodIn tbG (wsV RX0 112 RX0 yX0_needWord (wT yX0_needWord cX0_needWord 2 none)) := tb_V (by decide +kernel) (by decide +kernel) (by decide +kernel) (by decide +kernel) (by decide +kernel)
theorem gX0_115 : GoodIn tbG (wsV RX0 115 RX0 yX0_sharedBeginning (wT yX0_sharedBeginning cX0_sharedBeginning 5 (some .int))) := tb_V (by decide +kernel) (by decide +kernel) (by decide +kernel) (by decide +kernel) (by decide +kernel)
theorem gX0_127 : GoodIn tbG (wsV RX0 127 RX0 yX0_foldedSign (wT yX0_foldedSign cX0_foldedSign 3 (some .int))) := tb_V (by decide +kernel) (by decide +kernel) (by decide +kernel) (by decide +kernel) (by decide +kernel)
theorem gX0_131 : GoodIn tbG (wsV RX0 131 RX0 yX0_isAhead (wT yX0_isAhead cX0_isAhead 4 (some .boolean))) := tb_V (by decide +kernel) (by decide +kernel) (by decide +kernel) (by decide +kernel) (by decide +kernel)
theorem gX0_134 : GoodIn tbG (wsV RX0 134 RX0 yX0_fillStock (wT yX0_fillStock cX0_fillStock 4 (some .int))) := tb_V (by decide +kernel) (by decide +kernel) (by decide +kernel) (by decide +kernel) (by decide +kernel)
theorem gX1_45 : GoodIn tbG (wsS RX1 45 yX1_isLetter (wT yX1_isLetter cX1_isLetter 1 (some .boolean))) := tb_S (by decide +kernel) (by decide +kernel) (by decide +kernel) (by decide +kernel)
theorem gX1_52 : GoodIn tbG (wsV RX1 52 RX1 yX1_fails (wT yX1_fails cX1_fails 2 (some .boolean))) := tb_V (by decide +kernel) (by decide +kernel) (by decide +kernel) (by decide +kernel) (by decide +kernel)
theorem gX1_56 : GoodIn tbG (wsV RX1 56 RX1 yX1_signAt (wT yX1_signAt cX1_signAt 2 (some .int))) := tb_V (by decide +kernel) (by decide +kernel) (by decide +kernel) (by decide +kernel) (by decide +kernel)
theorem gX1_60 : GoodIn tbG (wsV RX1 60 RX1 yX1_letterAt (wT yX1_letterAt cX1_letterAt 3 (some .int))) := tb_V (by decide +kernel) (by decide +kernel) (by decide +kernel) (by decide +kernel) (by decide +kernel)
theorem gX1_64 : GoodIn tbG (wsV RX1 64 RX1 yX1_isAt (wT yX1_isAt cX1_isAt 4 (some .boolean))) := tb_V (by decide +kernel) (by decide +kernel) (by decide +kernel) (by decide +kernel) (by decide +kernel)
theorem gX1_68 : GoodIn tbG (wsS RX1 68 yX1_isList (wT yX1_isList cX1_isList 1 (some .boolean))) := tb_S (by decide +kernel) (by decide +kernel) (by decide +kernel) (by decide +kernel)
theorem gX1_71 : GoodIn tbG (wsV RX1 71 RX1 yX1_hasBlank (wT yX1_hasBlank cX1_hasBlank 2 (some .boolean))) := tb_V (by decide +kernel) (by decide +kernel) (by decide +kernel) (by decide +kernel) (by decide +kernel)
theorem gX1_75 : GoodIn tbG (wsV RX1 75 RX1 yX1_fits (wT yX1_fits cX1_fits 2 (some .boolean))) := tb_V (by decide +kernel) (by decide +kernel) (by decide +kernel) (by decide +kernel) (by decide +kernel)
theorem gX1_78 : GoodIn tbG (wsV RX1 78 RX1 yX1_isIn (wT yX1_isIn cX1_isIn 3 (some .boolean))) := tb_V (by decide +kernel) (by decide +kernel) (by decide +kernel) (by decide +kernel) (by decide +kernel)
theorem gX1_84 : GoodIn tbG (wsV RX1 84 RX1 yX1_isAhead (wT yX1_isAhead cX1_isAhead 4 (some .boolean))) := tb_V (by decide +kernel) (by decide +kernel) (by decide +kernel) (by decide +kernel) (by decide +kernel)
theorem gX1_87 : GoodIn tbG (wsV RX1 87 RX1 yX1_count (wT yX1_count cX1_count 5 (some .int))) := tb_V (by decide +kernel) (by decide +kernel) (by decide +kernel) (by decide +kernel) (by decide +kernel)
theorem gX1_91 : GoodIn tbG (wsV RX1 91 RX1 yX1_isMixed (wT yX1_isMixed cX1_isMixed 3 (some .boolean))) := tb_V (by decide +kernel) (by decide +kernel) (by decide +kernel) (by decide +kernel) (by decide +kernel)
theorem gX1_94 : GoodIn tbG (wsV RX1 94 RX1 yX1_isWord (wT yX1_isWord cX1_isWord 2 (some .boolean))) := tb_V (by decide +kernel) (by decide +kernel) (by decide +kernel) (by decide +kernel) (by decide +kernel)
theorem gL_7 : GoodIn tbG (wsV RL 7 RX0 yX0_fold (wT yX0_fold cX0_fold 3 none)) := tb_V (by decide +kernel) (by decide +kernel) (by decide +kernel) (by decide +kernel) (by decide +kernel)
theorem gL_15 : GoodIn tbG (wsV RL 15 RX0 yX0_enter (wT yX0_enter cX0_enter 4 (some .int))) := tb_V (by decide +kernel) (by decide +kernel) (by decide +kernel) (by decide +kernel) (by decide +kernel)
theorem gL_19 : GoodIn tbG (wsV RL 19 RX0 yX0_merge (wT yX0_merge cX0_merge 7 (some .int))) := tb_V (by decide +kernel) (by decide +kernel) (by decide +kernel) (by decide +kernel) (by decide +kernel)
theorem gL_23 : GoodIn tbG (wsV RL 23 RX0 yX0_seek (wT yX0_seek cX0_seek 3 (some .int))) := tb_V (by decide +kernel) (by decide +kernel) (by decide +kernel) (by decide +kernel) (by decide +kernel)
theorem gL_27 : GoodIn tbG (wsV RL 27 RX0 yX0_candidate (wT yX0_candidate cX0_candidate 2 (some .int))) := tb_V (by decide +kernel) (by decide +kernel) (by decide +kernel) (by decide +kernel) (by decide +kernel)
theorem gL_30 : GoodIn tbG (wsV RL 30 RX0 yX0_at (wT yX0_at cX0_at 5 (some .int))) := tb_V (by decide +kernel) (by decide +kernel) (by decide +kernel) (by decide +kernel) (by decide +kernel)
theorem gL_33 : GoodIn tbG (wsV RL 33 RX0 yX0_begins (wT yX0_begins cX0_begins 4 (some .int))) := tb_V (by decide +kernel) (by decide +kernel) (by decide +kernel) (by decide +kernel) (by decide +kernel)
theorem gL_36 : GoodIn tbG (wsV RL 36 RX0 yX0_ends (wT yX0_ends cX0_ends 4 (some .int))) := tb_V (by decide +kernel) (by decide +kernel) (by decide +kernel) (by decide +kernel) (by decide +kernel)
theorem gL_39 : GoodIn tbG (wsV RL 39 RX0 yX0_mixed (wT yX0_mixed cX0_mixed 4 (some .int))) := tb_V (by decide +kernel) (by decide +kernel) (by decide +kernel) (by decide +kernel) (by decide +kernel)
theorem gL_42 : GoodIn tbG (wsV RL 42 RX0 yX0_many (wT yX0_many cX0_many 5 (some .int))) := tb_V (by decide +kernel) (by decide +kernel) (by decide +kernel) (by decide +kernel) (by decide +kernel)
theorem gL_45 : GoodIn tbG (wsV RL 45 RX0 yX0_letters (wT yX0_letters cX0_letters 5 (some .int))) := tb_V (by decide +kernel) (by decide +kernel) (by decide +kernel) (by decide +kernel) (by decide +kernel)
theorem gL_48 : GoodIn tbG (wsV RL 48 RX0 yX0_letter (wT yX0_letter cX0_letter 3 (some .int))) := tb_V (by decide +kernel) (by decide +kernel) (by decide +kernel) (by decide +kernel) (by decide +kernel)
theorem gL_51 : GoodIn tbG (wsV RL 51 RX0 yX0_tell (wT yX0_tell cX0_tell 3 (some .int))) := tb_V (by decide +kernel) (by decide +kernel) (by decide +kernel) (by decide +kernel) (by decide +kernel)
theorem gL_54 : GoodIn tbG (wsV RL 54 RX0 yX0_common (wT yX0_common cX0_common 5 (some .int))) := tb_V (by decide +kernel) (by decide +kernel) (by decide +kernel) (by decide +kernel) (by decide +kernel)
theorem gL_61 : GoodIn tbG (wsV RL 61 RX0 yX0_sign (wT yX0_sign cX0_sign 2 (some .boolean))) := tb_V (by decide +kernel) (by decide +kernel) (by decide +kernel) (by decide +kernel) (by decide +kernel)
theorem gL_65 : GoodIn tbG (wsV RL 65 RX1 yX1_sign (wT yX1_sign cX1_sign 2 (some .boolean))) := tb_V (by decide +kernel) (by decide +kernel) (by decide +kernel) (by decide +kernel) (by decide +kernel)
theorem gL_66 : GoodIn tbG (wsV RL 66 RX0 yX0_clear (wT yX0_clear cX0_clear 1 none)) := tb_V (by decide +kernel) (by decide +kernel) (by decide +kernel) (by decide +kernel) (by decide +kernel)
theorem gL_69 : GoodIn tbG (wsV RL 69 RX1 yX1_clear (wT yX1_clear cX1_clear 1 none)) := tb_V (by decide +kernel) (by decide +kernel) (by decide +kernel) (by decide +kernel) (by decide +kernel)
theorem gL_75 : GoodIn tbG (wsV RL 75 RX1 yX1_fold (wT yX1_fold cX1_fold 3 none)) := tb_V (by decide +kernel) (by decide +kernel) (by decide +kernel) (by decide +kernel) (by decide +kernel)
theorem gL_76 : GoodIn tbG (wsV RL 76 RX1 yX1_thrown (wT yX1_thrown cX1_thrown 1 (some .int))) := tb_V (by decide +kernel) (by decide +kernel) (by decide +kernel) (by decide +kernel) (by decide +kernel)
theorem gL_83 : GoodIn tbG (wsV RL 83 RX1 yX1_enter (wT yX1_enter cX1_enter 4 (some .int))) := tb_V (by decide +kernel) (by decide +kernel) (by decide +kernel) (by decide +kernel) (by decide +kernel)
theorem gL_84 : GoodIn tbG (wsV RL 84 RX0 yX0_bar (wT yX0_bar cX0_bar 4 (some .int))) := tb_V (by decide +kernel) (by decide +kernel) (by decide +kernel) (by decide +kernel) (by decide +kernel)
theorem gL_88 : GoodIn tbG (wsV RL 88 RX1 yX1_bar (wT yX1_bar cX1_bar 4 (some .int))) := tb_V (by decide +kernel) (by decide +kernel) (by decide +kernel) (by decide +kernel) (by decide +kernel)
theorem gL_92 : GoodIn tbG (wsV RL 92 RX1 yX1_merge (wT yX1_merge cX1_merge 10 (some .int))) := tb_V (by decide +kernel) (by decide +kernel) (by decide +kernel) (by decide +kernel) (by decide +kernel)
theorem gL_96 : GoodIn tbG (wsV RL 96 RX1 yX1_seek (wT yX1_seek cX1_seek 4 (some .int))) := tb_V (by decide +kernel) (by decide +kernel) (by decide +kernel) (by decide +kernel) (by decide +kernel)
theorem gL_99 : GoodIn tbG (wsV RL 99 RX1 yX1_candidate (wT yX1_candidate cX1_candidate 2 (some .int))) := tb_V (by decide +kernel) (by decide +kernel) (by decide +kernel) (by decide +kernel) (by decide +kernel)
theorem gL_102 : GoodIn tbG (wsV RL 102 RX1 yX1_at (wT yX1_at cX1_at 5 (some .int))) := tb_V (by decide +kernel) (by decide +kernel) (by decide +kernel) (by decide +kernel) (by decide +kernel)
theorem gL_105 : GoodIn tbG (wsV RL 105 RX1 yX1_begins (wT yX1_begins cX1_begins 2 (some .int))) := tb_V (by decide +kernel) (by decide +kernel) (by decide +kernel) (by decide +kernel) (by decide +kernel)
theorem gL_108 : GoodIn tbG (wsV RL 108 RX1 yX1_ends (wT yX1_ends cX1_ends 2 (some .int))) := tb_V (by decide +kernel) (by decide +kernel) (by decide +kernel) (by decide +kernel) (by decide +kernel)
theorem gL_111 : GoodIn tbG (wsV RL 111 RX1 yX1_mixed (wT yX1_mixed cX1_mixed 4 (some .int))) := tb_V (by decide +kernel) (by decide +kernel) (by decide +kernel) (by decide +kernel) (by decide +kernel)
theorem gL_114 : GoodIn tbG (wsV RL 114 RX1 yX1_many (wT yX1_many cX1_many 5 (some .int))) := tb_V (by decide +kernel) (by decide +kernel) (by decide +kernel) (by decide +kernel) (by decide +kernel)
theorem gL_117 : GoodIn tbG (wsV RL 117 RX1 yX1_letters (wT yX1_letters cX1_letters 6 (some .int))) := tb_V (by decide +kernel) (by decide +kernel) (by decide +kernel) (by decide +kernel) (by decide +kernel)
theorem gL_120 : GoodIn tbG (wsV RL 120 RX1 yX1_letter (wT yX1_letter cX1_letter 3 (some .int))) := tb_V (by decide +kernel) (by decide +kernel) (by decide +kernel) (by decide +kernel) (by decide +kernel)
theorem gL_123 : GoodIn tbG (wsV RL 123 RX1 yX1_tell (wT yX1_tell cX1_tell 3 (some .int))) := tb_V (by decide +kernel) (by decide +kernel) (by decide +kernel) (by decide +kernel) (by decide +kernel)
theorem gL_126 : GoodIn tbG (wsV RL 126 RX1 yX1_common (wT yX1_common cX1_common 6 (some .int))) := tb_V (by decide +kernel) (by decide +kernel) (by decide +kernel) (by decide +kernel) (by decide +kernel)
section BR
variable {p : Program} {l : Launch} {e : Env} {R : Room} {s : State} {m : MethodId} {args : Array Value} {below : List Frame} {meth : Method} {c : Code} {H : Heap} {locs : List Loc} {cells slots : Nat} {Q : State → Prop}
variable {cc : ByteArray} {pc nL : Nat} {ls : Array Slot} {rest : List Value} {own : String}
theorem n_bif_eq {b : Bool} {tgt : Nat} {off : Int} (S : CallFix p m c cc nL s args tbG own) (hdg : decode cc pc = .ok (.ifCond .eq off, 3)) (ht : (pc : Int) + off = (tgt : Int))
    (kt : b = false → W p l e R s m args below meth c H locs cells slots Q (F0 m tgt ls rest)) (kf : b = true → W p l e R s m args below meth c H locs cells slots Q (F0 m (pc + 3) ls rest)) : W p l e R s m args below meth c H locs cells slots Q (F0 m pc ls (.int (nI b.toNat) :: rest)) := by
  cases b with
  | false => exact lv_if_eq S.1 S.2.1 hdg ht (fun _ => kt rfl) (fun h => absurd (by decide) h)
  | true => exact lv_if_eq S.1 S.2.1 hdg ht (fun h => absurd h (by decide)) (fun _ => kf rfl)
theorem n_bif_ne {b : Bool} {tgt : Nat} {off : Int} (S : CallFix p m c cc nL s args tbG own) (hdg : decode cc pc = .ok (.ifCond .ne off, 3)) (ht : (pc : Int) + off = (tgt : Int))
    (kt : b = true → W p l e R s m args below meth c H locs cells slots Q (F0 m tgt ls rest)) (kf : b = false → W p l e R s m args below meth c H locs cells slots Q (F0 m (pc + 3) ls rest)) : W p l e R s m args below meth c H locs cells slots Q (F0 m pc ls (.int (nI b.toNat) :: rest)) := by
  cases b with
  | false => exact lv_if_ne S.1 S.2.1 hdg ht (fun h => absurd (by decide) h) (fun _ => kf rfl)
  | true => exact lv_if_ne S.1 S.2.1 hdg ht (fun _ => kt rfl) (fun h => absurd h (by decide))
theorem n_idec {i k x : Nat} {lv lv' : List (Nat × Value)} (S : CallFix p m c cc nL s args tbG own) (hdg : decode cc pc = .ok (.iinc i (-1), 3)) (h : lv_has ls nL lv) (hk : lv[k]? = some (i, .int (nI x))) (hx : 1 ≤ x) (hn : i < nL) (hl : (i, Value.int (nI (x - 1))) :: lv.filter (fun q => !(q.1 == i) && !(q.1 + 1 == i && q.2.category == 2)) = lv')
    (kk : ∀ ls : Array Slot, lv_has ls nL lv' → W p l e R s m args below meth c H locs cells slots Q (F0 m (pc + 3) ls rest)) : W p l e R s m args below meth c H locs cells slots Q (F0 m pc ls rest) := by
  obtain ⟨y, rfl⟩ : ∃ y, x = y + 1 := ⟨x - 1, by omega⟩
  exact lv_iinc (v := nI (y + 1 - 1)) S.1 S.2.1 hdg h hk (by rw [Nat.add_sub_cancel]; exact pk_m1 y) hn hl kk
/-- a place of a row of any numbers -/
theorem w_iald {D : va_G} {cl : List vw_C} {ws : va_W} {tys : List (ClassId × FieldType)} {a : Nat} (S : CallFix p m c cc nL s args tbG own) (hK : va_K D cl tys s) (hP : va_P D cl ws H) (q0 t0 : Nat) {cA : ClassId} {n : Nat} {f : Nat → Int32} (ha : ws[q0]? = some (a, .inl (cA, n, .inl f))) (ht : tys[t0]? = some (cA, .int)) (hdg : decode cc pc = .ok (.iaload, 1)) {j : Nat} (hn : n < 2 ^ 31) (hj : j < n)
    (kk : W p l e R s m args below meth c H locs cells slots Q (F0 m (pc + 1) ls (.int (f j) :: rest))) : W p l e R s m args below meth c H locs cells slots Q (F0 m pc ls (.int (nI j) :: .ref a :: rest)) := by
  refine va_iald S.1 S.2.1 hK hP q0 t0 ha ht (vp_in_nI hj hn) hdg ?_
  rw [nI_clamp (Nat.lt_trans hj hn)]
  exact kk
/-- stores: a natural number; any number; a flag -/
theorem n_iast {D : va_G} {cl : List vw_C} {ws : va_W} {tys : List (ClassId × FieldType)} {a : Nat} {A : Nat → Prop} {H0 : Heap} (S : CallFix p m c cc nL s args tbG own) (hK : va_K D cl tys s) (hP : va_P D cl ws H) (hD : va_D A ws) (hS : va_S A H0 H locs) (q0 t0 : Nat) {cA : ClassId} {n : Nat} {f : Nat → Nat} (ha : ws[q0]? = some (a, .inl (cA, n, .inl fun k => nI (f k)))) (ht : tys[t0]? = some (cA, .int)) (hdg : decode cc pc = .ok (.iastore, 1)) {j x : Nat} (hn : n < 2 ^ 31) (hj : j < n)
    (kk : ∀ (H1 : Heap) (locs1 : List Loc), va_P D cl (ws.set q0 (a, .inl (cA, n, .inl fun k => nI (va_up f j x k)))) H1 → va_D A (ws.set q0 (a, .inl (cA, n, .inl fun k => nI (va_up f j x k)))) → va_S A H0 H1 locs1 → W p l e R s m args below meth c H1 locs1 cells slots Q (F0 m (pc + 1) ls rest)) : W p l e R s m args below meth c H locs cells slots Q (F0 m pc ls (.int (nI x) :: .int (nI j) :: .ref a :: rest)) := by
  refine va_iast S.1 S.2.1 hK hP hD hS q0 t0 ha ht (vp_in_nI hj hn) hdg ?_
  rw [nI_clamp (Nat.lt_trans hj hn), up_nI]
  exact kk
theorem w_iast {D : va_G} {cl : List vw_C} {ws : va_W} {tys : List (ClassId × FieldType)} {a : Nat} {A : Nat → Prop} {H0 : Heap} (S : CallFix p m c cc nL s args tbG own) (hK : va_K D cl tys s) (hP : va_P D cl ws H) (hD : va_D A ws) (hS : va_S A H0 H locs) (q0 t0 : Nat) {cA : ClassId} {n : Nat} {f : Nat → Int32} (ha : ws[q0]? = some (a, .inl (cA, n, .inl f))) (ht : tys[t0]? = some (cA, .int)) (hdg : decode cc pc = .ok (.iastore, 1)) {j : Nat} {x : Int32} (hn : n < 2 ^ 31) (hj : j < n)
    (kk : ∀ (H1 : Heap) (locs1 : List Loc), va_P D cl (ws.set q0 (a, .inl (cA, n, .inl (upd f j x)))) H1 → va_D A (ws.set q0 (a, .inl (cA, n, .inl (upd f j x)))) → va_S A H0 H1 locs1 → W p l e R s m args below meth c H1 locs1 cells slots Q (F0 m (pc + 1) ls rest)) : W p l e R s m args below meth c H locs cells slots Q (F0 m pc ls (.int x :: .int (nI j) :: .ref a :: rest)) := by
  refine va_iast S.1 S.2.1 hK hP hD hS q0 t0 ha ht (vp_in_nI hj hn) hdg ?_
  rw [nI_clamp (Nat.lt_trans hj hn)]
  exact kk
end BR
