/-! ===== the class: what it throws ===== -/
set_option maxRecDepth 100000 in
theorem kX0_needLetterE (l : Launch) (hfl : l.flags = flags0) (u : Int32) (hu : isL u = false) : thr l yX0_needLetter cX0_needLetter 1 none 7 95 [.int u] (fun _ => True) := by
  refine thr_ofW RX0 (by decide) rfl (Nat.le_of_ble_eq_true rfl) ?_
  intro p e s m below meth c S hex hlk hB ht ls hl
  have hl : lv_has ls 1 [(0, .int u)] := hl
  refine lv_iload_n S.1 S.2.1 dX0_needLetter_0 rfl (lv_at hl 0 rfl) ?_
  refine rd_callS (As := [.int u]) (rest := []) S (kX0_isLetter l u) tr_blind (fun _ _ _ => trivial) gX0_48 hdX0_isLetter (by decide) hl.1 rfl (Nat.le_of_ble_eq_true rfl) dX0_needLetter_1 ⟨Nat.zero_le _, Nat.zero_le _⟩ ?_
  refine n_bif_ne (b := isL u) (tgt := 17) S dX0_needLetter_4 (by decide) (fun h4 => ?_) (fun h4 => ?_)
  · exact absurd h4 (by rw [hu]; decide)
  · exact thr_new S hfl hex hlk ht ht.2.1.1 hl.1 dX0_needLetter_7 dX0_needLetter_10 dX0_needLetter_11 dX0_needLetter_13 dX0_needLetter_16 (by decide)

set_option maxRecDepth 100000 in
theorem kX0_needListE (l : Launch) (hfl : l.flags = flags0) (u : Int32) (hu : isLi u = false) : thr l yX0_needList cX0_needList 1 none 7 95 [.int u] (fun _ => True) := by
  refine thr_ofW RX0 (by decide) rfl (Nat.le_of_ble_eq_true rfl) ?_
  intro p e s m below meth c S hex hlk hB ht ls hl
  have hl : lv_has ls 1 [(0, .int u)] := hl
  refine lv_iload_n S.1 S.2.1 dX0_needList_0 rfl (lv_at hl 0 rfl) ?_
  refine lv_if_lt (tgt := 9) S.1 S.2.1 dX0_needList_1 (by decide) (fun h1 => ?_) (fun h1 => ?_)
  · exact thr_new S hfl hex hlk ht ht.2.1.2.1 hl.1 dX0_needList_9 dX0_needList_12 dX0_needList_13 dX0_needList_15 dX0_needList_18 (by decide)
  · refine lv_iload_n S.1 S.2.1 dX0_needList_4 rfl (lv_at hl 0 rfl) ?_
    refine lv_iconst (v := (nI 4)) S.1 S.2.1 dX0_needList_5 (by decide) ?_
    refine lv_icmp_lt (tgt := 19) S.1 S.2.1 dX0_needList_6 (by decide) (fun h6 => ?_) (fun h6 => ?_)
    · exact absurd hu (by simp only [isLi, decide_eq_true (show nI 0 ≤ u from Int32.not_lt.mp h1), decide_eq_true h6]; decide)
    · exact thr_new S hfl hex hlk ht ht.2.1.2.1 hl.1 dX0_needList_9 dX0_needList_12 dX0_needList_13 dX0_needList_15 dX0_needList_18 (by decide)

set_option maxRecDepth 100000 in
theorem kX0_needWordE (l : Launch) (dC : Nat → ClassId) (dI : Nat → Nat → Nat) (cI cZ cJ : ClassId) (a : Nat → Nat) (n mw nf : Nat) (sg fo L le sc li ba ca st : Nat → Nat) (hfl : l.flags = flags0) (u : Int32) (hu : isW mw u = false) : thr l yX0_needWord cX0_needWord 2 none 7 95 [.ref (a 0), .int u] (rB dC dI cI cZ cJ (vX cI cZ a n mw nf sg fo L le sc li ba ca st)) := by
  refine thr_ofW RX0 (by decide) rfl (Nat.le_of_ble_eq_true rfl) ?_
  intro p e s m below meth c S hex hlk hB ht ls hl
  obtain ⟨hP, hK⟩ := hB
  have hl : lv_has ls 2 [(0, .ref (a 0)), (1, .int u)] := hl
  refine lv_iload_n S.1 S.2.1 dX0_needWord_0 rfl (lv_at hl 1 rfl) ?_
  refine lv_if_lt (tgt := 12) S.1 S.2.1 dX0_needWord_1 (by decide) (fun h1 => ?_) (fun h1 => ?_)
  · exact thr_new S hfl hex hlk ht ht.2.1.2.2.2 hl.1 dX0_needWord_12 dX0_needWord_15 dX0_needWord_16 dX0_needWord_18 dX0_needWord_21 (by decide)
  · refine lv_iload_n S.1 S.2.1 dX0_needWord_4 rfl (lv_at hl 1 rfl) ?_
    refine lv_aload_n S.1 S.2.1 dX0_needWord_5 rfl (lv_at hl 0 rfl) ?_
    refine fX0_wordCount (v := .int (nI mw)) S hK hP rfl rfl dX0_needWord_6 ?_
    refine lv_icmp_lt (tgt := 22) S.1 S.2.1 dX0_needWord_9 (by decide) (fun h9 => ?_) (fun h9 => ?_)
    · exact absurd hu (by simp only [isW, decide_eq_true (show nI 0 ≤ u from Int32.not_lt.mp h1), decide_eq_true h9]; decide)
    · exact thr_new S hfl hex hlk ht ht.2.1.2.2.2 hl.1 dX0_needWord_12 dX0_needWord_15 dX0_needWord_16 dX0_needWord_18 dX0_needWord_21 (by decide)

set_option maxRecDepth 100000 in
theorem kX0_candidateE (l : Launch) (dC : Nat → ClassId) (dI : Nat → Nat → Nat) (cI cZ cJ : ClassId) (a : Nat → Nat) (n mw nf : Nat) (sg fo L le sc li ba ca st : Nat → Nat) (hfl : l.flags = flags0) (x : Int32) (hx : x < 0 ∨ nI nf ≤ x) : thr l yX0_candidate cX0_candidate 2 (some .int) 7 95 [.ref (a 0), .int x] (rB dC dI cI cZ cJ (vX cI cZ a n mw nf sg fo L le sc li ba ca st)) := by
  refine thr_ofW RX0 (by decide) rfl (Nat.le_of_ble_eq_true rfl) ?_
  intro p e s m below meth c S hex hlk hB ht ls hl
  obtain ⟨hP, hK⟩ := hB
  have hl : lv_has ls 2 [(0, .ref (a 0)), (1, .int x)] := hl
  refine lv_iload_n S.1 S.2.1 dX0_candidate_0 rfl (lv_at hl 1 rfl) ?_
  refine lv_if_lt (tgt := 12) S.1 S.2.1 dX0_candidate_1 (by decide) (fun h1 => ?_) (fun h1 => ?_)
  · exact thr_new S hfl hex hlk ht ht.2.1.2.2.1 hl.1 dX0_candidate_12 dX0_candidate_15 dX0_candidate_16 dX0_candidate_18 dX0_candidate_21 (by decide)
  · refine lv_iload_n S.1 S.2.1 dX0_candidate_4 rfl (lv_at hl 1 rfl) ?_
    refine lv_aload_n S.1 S.2.1 dX0_candidate_5 rfl (lv_at hl 0 rfl) ?_
    refine fX0_candidateCount (v := .int (nI nf)) S hK hP rfl rfl dX0_candidate_6 ?_
    refine lv_icmp_lt (tgt := 22) S.1 S.2.1 dX0_candidate_9 (by decide) (fun h9 => ?_) (fun h9 => ?_)
    · exact absurd hx (fun q => q.elim h1 (fun q => absurd h9 (Int32.not_lt.mpr q)))
    · exact thr_new S hfl hex hlk ht ht.2.1.2.2.1 hl.1 dX0_candidate_12 dX0_candidate_15 dX0_candidate_16 dX0_candidate_18 dX0_candidate_21 (by decide)

set_option maxRecDepth 100000 in
theorem kX0_foldE1 (l : Launch) (dC : Nat → ClassId) (dI : Nat → Nat → Nat) (cI cZ cJ : ClassId) (a : Nat → Nat) (n mw nf : Nat) (sg fo L le sc li ba ca st : Nat → Nat) (hfl : l.flags = flags0) (u : Int32) (v : Int32) (hu : isL u = false) : thr l yX0_fold cX0_fold 3 none 8 115 [.ref (a 0), .int u, .int v] (rB dC dI cI cZ cJ (vX cI cZ a n mw nf sg fo L le sc li ba ca st)) := by
  refine thr_ofW RX0 (by decide) rfl (Nat.le_of_ble_eq_true rfl) ?_
  intro p e s m below meth c S hex hlk hB ht ls hl
  obtain ⟨hP, hK⟩ := hB
  have hl : lv_has ls 3 [(0, .ref (a 0)), (1, .int u), (2, .int v)] := hl
  refine lv_iload_n S.1 S.2.1 dX0_fold_0 rfl (lv_at hl 1 rfl) ?_
  exact thr_outS (As := [.int u]) (rest := []) S hex hlk ht (kX0_needLetterE l hfl u hu) (fun _ _ _ => trivial) gX0_52 hdX0_needLetter (by decide) hl.1 rfl (Nat.le_of_ble_eq_true rfl) dX0_fold_1

set_option maxRecDepth 100000 in
theorem kX0_foldE2 (l : Launch) (dC : Nat → ClassId) (dI : Nat → Nat → Nat) (cI cZ cJ : ClassId) (a : Nat → Nat) (n mw nf : Nat) (sg fo L le sc li ba ca st : Nat → Nat) (hfl : l.flags = flags0) (y : Nat) (v : Int32) (hy : 97 ≤ y ∧ y ≤ 122) (hv : isL v = false) : thr l yX0_fold cX0_fold 3 none 8 115 [.ref (a 0), .int (nI y), .int v] (rB dC dI cI cZ cJ (vX cI cZ a n mw nf sg fo L le sc li ba ca st)) := by
  refine thr_ofW RX0 (by decide) rfl (Nat.le_of_ble_eq_true rfl) ?_
  intro p e s m below meth c S hex hlk hB ht ls hl
  obtain ⟨hP, hK⟩ := hB
  have hl : lv_has ls 3 [(0, .ref (a 0)), (1, .int (nI y)), (2, .int v)] := hl
  refine lv_iload_n S.1 S.2.1 dX0_fold_0 rfl (lv_at hl 1 rfl) ?_
  refine rdv_callS (As := [.int (nI y)]) (rest := []) S (kX0_needLetter l y hy) tr_blind (fun _ _ _ => trivial) gX0_52 hdX0_needLetter (by decide) hl.1 rfl (Nat.le_of_ble_eq_true rfl) dX0_fold_1 ⟨Nat.zero_le _, Nat.zero_le _⟩ ?_
  refine lv_iload_n S.1 S.2.1 dX0_fold_4 rfl (lv_at hl 2 rfl) ?_
  exact thr_outS (As := [.int v]) (rest := []) S hex hlk ht (kX0_needLetterE l hfl v hv) (fun _ _ _ => trivial) gX0_52 hdX0_needLetter (by decide) hl.1 rfl (Nat.le_of_ble_eq_true rfl) dX0_fold_5

set_option maxRecDepth 100000 in
theorem kX0_enterE (l : Launch) (dC : Nat → ClassId) (dI : Nat → Nat → Nat) (cI cZ cJ : ClassId) (a : Nat → Nat) (n mw nf : Nat) (sg fo L le sc li ba ca st : Nat → Nat) (hfl : l.flags = flags0) (u : Int32) (x : Int32) (hu : isLi u = false) : thr l yX0_enter cX0_enter 4 (some .int) 8 115 [.ref (a 0), .int u, .int x] (rB dC dI cI cZ cJ (vX cI cZ a n mw nf sg fo L le sc li ba ca st)) := by
  refine thr_ofW RX0 (by decide) rfl (Nat.le_of_ble_eq_true rfl) ?_
  intro p e s m below meth c S hex hlk hB ht ls hl
  obtain ⟨hP, hK⟩ := hB
  have hl : lv_has ls 4 [(0, .ref (a 0)), (1, .int u), (2, .int x)] := hl
  refine lv_iload_n S.1 S.2.1 dX0_enter_0 rfl (lv_at hl 1 rfl) ?_
  exact thr_outS (As := [.int u]) (rest := []) S hex hlk ht (kX0_needListE l hfl u hu) (fun _ _ _ => trivial) gX0_56 hdX0_needList (by decide) hl.1 rfl (Nat.le_of_ble_eq_true rfl) dX0_enter_1

set_option maxRecDepth 100000 in
theorem kX0_seekE (l : Launch) (dC : Nat → ClassId) (dI : Nat → Nat → Nat) (cI cZ cJ : ClassId) (a : Nat → Nat) (n mw nf : Nat) (sg fo L le sc li ba ca st : Nat → Nat) (hfl : l.flags = flags0) (u : Int32) (hu : isLi u = false) : thr l yX0_seek cX0_seek 3 (some .int) 8 115 [.ref (a 0), .int u] (rB dC dI cI cZ cJ (vX cI cZ a n mw nf sg fo L le sc li ba ca st)) := by
  refine thr_ofW RX0 (by decide) rfl (Nat.le_of_ble_eq_true rfl) ?_
  intro p e s m below meth c S hex hlk hB ht ls hl
  obtain ⟨hP, hK⟩ := hB
  have hl : lv_has ls 3 [(0, .ref (a 0)), (1, .int u)] := hl
  refine lv_iload_n S.1 S.2.1 dX0_seek_0 rfl (lv_at hl 1 rfl) ?_
  exact thr_outS (As := [.int u]) (rest := []) S hex hlk ht (kX0_needListE l hfl u hu) (fun _ _ _ => trivial) gX0_56 hdX0_needList (by decide) hl.1 rfl (Nat.le_of_ble_eq_true rfl) dX0_seek_1

set_option maxRecDepth 100000 in
theorem kX0_beginsE (l : Launch) (dC : Nat → ClassId) (dI : Nat → Nat → Nat) (cI cZ cJ : ClassId) (a : Nat → Nat) (n mw nf : Nat) (sg fo L le sc li ba ca st : Nat → Nat) (hfl : l.flags = flags0) (u : Int32) (hu : isLi u = false) : thr l yX0_begins cX0_begins 4 (some .int) 8 115 [.ref (a 0), .int u] (rB dC dI cI cZ cJ (vX cI cZ a n mw nf sg fo L le sc li ba ca st)) := by
  refine thr_ofW RX0 (by decide) rfl (Nat.le_of_ble_eq_true rfl) ?_
  intro p e s m below meth c S hex hlk hB ht ls hl
  obtain ⟨hP, hK⟩ := hB
  have hl : lv_has ls 4 [(0, .ref (a 0)), (1, .int u)] := hl
  refine lv_iload_n S.1 S.2.1 dX0_begins_0 rfl (lv_at hl 1 rfl) ?_
  exact thr_outS (As := [.int u]) (rest := []) S hex hlk ht (kX0_needListE l hfl u hu) (fun _ _ _ => trivial) gX0_56 hdX0_needList (by decide) hl.1 rfl (Nat.le_of_ble_eq_true rfl) dX0_begins_1

set_option maxRecDepth 100000 in
theorem kX0_endsE (l : Launch) (dC : Nat → ClassId) (dI : Nat → Nat → Nat) (cI cZ cJ : ClassId) (a : Nat → Nat) (n mw nf : Nat) (sg fo L le sc li ba ca st : Nat → Nat) (hfl : l.flags = flags0) (u : Int32) (hu : isLi u = false) : thr l yX0_ends cX0_ends 4 (some .int) 8 115 [.ref (a 0), .int u] (rB dC dI cI cZ cJ (vX cI cZ a n mw nf sg fo L le sc li ba ca st)) := by
  refine thr_ofW RX0 (by decide) rfl (Nat.le_of_ble_eq_true rfl) ?_
  intro p e s m below meth c S hex hlk hB ht ls hl
  obtain ⟨hP, hK⟩ := hB
  have hl : lv_has ls 4 [(0, .ref (a 0)), (1, .int u)] := hl
  refine lv_iload_n S.1 S.2.1 dX0_ends_0 rfl (lv_at hl 1 rfl) ?_
  exact thr_outS (As := [.int u]) (rest := []) S hex hlk ht (kX0_needListE l hfl u hu) (fun _ _ _ => trivial) gX0_56 hdX0_needList (by decide) hl.1 rfl (Nat.le_of_ble_eq_true rfl) dX0_ends_1

set_option maxRecDepth 100000 in
theorem kX0_mixedE (l : Launch) (dC : Nat → ClassId) (dI : Nat → Nat → Nat) (cI cZ cJ : ClassId) (a : Nat → Nat) (n mw nf : Nat) (sg fo L le sc li ba ca st : Nat → Nat) (hfl : l.flags = flags0) (u : Int32) (hu : isLi u = false) : thr l yX0_mixed cX0_mixed 4 (some .int) 8 115 [.ref (a 0), .int u] (rB dC dI cI cZ cJ (vX cI cZ a n mw nf sg fo L le sc li ba ca st)) := by
  refine thr_ofW RX0 (by decide) rfl (Nat.le_of_ble_eq_true rfl) ?_
  intro p e s m below meth c S hex hlk hB ht ls hl
  obtain ⟨hP, hK⟩ := hB
  have hl : lv_has ls 4 [(0, .ref (a 0)), (1, .int u)] := hl
  refine lv_iload_n S.1 S.2.1 dX0_mixed_0 rfl (lv_at hl 1 rfl) ?_
  exact thr_outS (As := [.int u]) (rest := []) S hex hlk ht (kX0_needListE l hfl u hu) (fun _ _ _ => trivial) gX0_56 hdX0_needList (by decide) hl.1 rfl (Nat.le_of_ble_eq_true rfl) dX0_mixed_1

set_option maxRecDepth 100000 in
theorem kX0_manyE (l : Launch) (dC : Nat → ClassId) (dI : Nat → Nat → Nat) (cI cZ cJ : ClassId) (a : Nat → Nat) (n mw nf : Nat) (sg fo L le sc li ba ca st : Nat → Nat) (hfl : l.flags = flags0) (u : Int32) (x : Int32) (hu : isLi u = false) : thr l yX0_many cX0_many 5 (some .int) 8 115 [.ref (a 0), .int u, .int x] (rB dC dI cI cZ cJ (vX cI cZ a n mw nf sg fo L le sc li ba ca st)) := by
  refine thr_ofW RX0 (by decide) rfl (Nat.le_of_ble_eq_true rfl) ?_
  intro p e s m below meth c S hex hlk hB ht ls hl
  obtain ⟨hP, hK⟩ := hB
  have hl : lv_has ls 5 [(0, .ref (a 0)), (1, .int u), (2, .int x)] := hl
  refine lv_iload_n S.1 S.2.1 dX0_many_0 rfl (lv_at hl 1 rfl) ?_
  exact thr_outS (As := [.int u]) (rest := []) S hex hlk ht (kX0_needListE l hfl u hu) (fun _ _ _ => trivial) gX0_56 hdX0_needList (by decide) hl.1 rfl (Nat.le_of_ble_eq_true rfl) dX0_many_1

set_option maxRecDepth 100000 in
theorem kX0_commonE (l : Launch) (dC : Nat → ClassId) (dI : Nat → Nat → Nat) (cI cZ cJ : ClassId) (a : Nat → Nat) (n mw nf : Nat) (sg fo L le sc li ba ca st : Nat → Nat) (hfl : l.flags = flags0) (u : Int32) (hu : isLi u = false) : thr l yX0_common cX0_common 5 (some .int) 8 115 [.ref (a 0), .int u] (rB dC dI cI cZ cJ (vX cI cZ a n mw nf sg fo L le sc li ba ca st)) := by
  refine thr_ofW RX0 (by decide) rfl (Nat.le_of_ble_eq_true rfl) ?_
  intro p e s m below meth c S hex hlk hB ht ls hl
  obtain ⟨hP, hK⟩ := hB
  have hl : lv_has ls 5 [(0, .ref (a 0)), (1, .int u)] := hl
  refine lv_iload_n S.1 S.2.1 dX0_common_0 rfl (lv_at hl 1 rfl) ?_
  exact thr_outS (As := [.int u]) (rest := []) S hex hlk ht (kX0_needListE l hfl u hu) (fun _ _ _ => trivial) gX0_56 hdX0_needList (by decide) hl.1 rfl (Nat.le_of_ble_eq_true rfl) dX0_common_1

set_option maxRecDepth 100000 in
theorem kX0_atE (l : Launch) (dC : Nat → ClassId) (dI : Nat → Nat → Nat) (cI cZ cJ : ClassId) (a : Nat → Nat) (n mw nf : Nat) (sg fo L le sc li ba ca st : Nat → Nat) (hfl : l.flags = flags0) (x : Int32) (u : Int32) (hu : isL u = false) : thr l yX0_at cX0_at 5 (some .int) 8 115 [.ref (a 0), .int x, .int u] (rB dC dI cI cZ cJ (vX cI cZ a n mw nf sg fo L le sc li ba ca st)) := by
  refine thr_ofW RX0 (by decide) rfl (Nat.le_of_ble_eq_true rfl) ?_
  intro p e s m below meth c S hex hlk hB ht ls hl
  obtain ⟨hP, hK⟩ := hB
  have hl : lv_has ls 5 [(0, .ref (a 0)), (1, .int x), (2, .int u)] := hl
  refine lv_iload_n S.1 S.2.1 dX0_at_0 rfl (lv_at hl 2 rfl) ?_
  exact thr_outS (As := [.int u]) (rest := []) S hex hlk ht (kX0_needLetterE l hfl u hu) (fun _ _ _ => trivial) gX0_52 hdX0_needLetter (by decide) hl.1 rfl (Nat.le_of_ble_eq_true rfl) dX0_at_1

set_option maxRecDepth 100000 in
theorem kX0_letterE (l : Launch) (dC : Nat → ClassId) (dI : Nat → Nat → Nat) (cI cZ cJ : ClassId) (a : Nat → Nat) (n mw nf : Nat) (sg fo L le sc li ba ca st : Nat → Nat) (hfl : l.flags = flags0) (u : Int32) (x : Int32) (hu : isW mw u = false) : thr l yX0_letter cX0_letter 3 (some .int) 8 116 [.ref (a 0), .int u, .int x] (rB dC dI cI cZ cJ (vX cI cZ a n mw nf sg fo L le sc li ba ca st)) := by
  refine thr_ofW RX0 (by decide) rfl (Nat.le_of_ble_eq_true rfl) ?_
  intro p e s m below meth c S hex hlk hB ht ls hl
  obtain ⟨hP, hK⟩ := hB
  have hl : lv_has ls 3 [(0, .ref (a 0)), (1, .int u), (2, .int x)] := hl
  refine lv_aload_n S.1 S.2.1 dX0_letter_0 rfl (lv_at hl 0 rfl) ?_
  refine lv_iload_n S.1 S.2.1 dX0_letter_1 rfl (lv_at hl 1 rfl) ?_
  exact thr_outV (C := RX0) (As := [.int u]) (rest := []) S hex hlk ht (kX0_needWordE l dC dI cI cZ cJ a n mw nf sg fo L le sc li ba ca st hfl u hu) (fun U hU hW => ⟨by rw [hU]; exact hP, va_K.moved hW.alike hK⟩) (va_recv hK hP (ci := 0) (q0 := 0) rfl rfl) gX0_112 hdX0_needWord (by decide) hl.1 rfl (Nat.le_of_ble_eq_true rfl) dX0_letter_2

set_option maxRecDepth 100000 in
theorem kX0_tellE (l : Launch) (dC : Nat → ClassId) (dI : Nat → Nat → Nat) (cI cZ cJ : ClassId) (a : Nat → Nat) (n mw nf : Nat) (sg fo L le sc li ba ca st : Nat → Nat) (hfl : l.flags = flags0) (u : Int32) (x : Int32) (hu : isW mw u = false) : thr l yX0_tell cX0_tell 3 (some .int) 8 116 [.ref (a 0), .int u, .int x] (rB dC dI cI cZ cJ (vX cI cZ a n mw nf sg fo L le sc li ba ca st)) := by
  refine thr_ofW RX0 (by decide) rfl (Nat.le_of_ble_eq_true rfl) ?_
  intro p e s m below meth c S hex hlk hB ht ls hl
  obtain ⟨hP, hK⟩ := hB
  have hl : lv_has ls 3 [(0, .ref (a 0)), (1, .int u), (2, .int x)] := hl
  refine lv_aload_n S.1 S.2.1 dX0_tell_0 rfl (lv_at hl 0 rfl) ?_
  refine lv_iload_n S.1 S.2.1 dX0_tell_1 rfl (lv_at hl 1 rfl) ?_
  exact thr_outV (C := RX0) (As := [.int u]) (rest := []) S hex hlk ht (kX0_needWordE l dC dI cI cZ cJ a n mw nf sg fo L le sc li ba ca st hfl u hu) (fun U hU hW => ⟨by rw [hU]; exact hP, va_K.moved hW.alike hK⟩) (va_recv hK hP (ci := 0) (q0 := 0) rfl rfl) gX0_112 hdX0_needWord (by decide) hl.1 rfl (Nat.le_of_ble_eq_true rfl) dX0_tell_2

set_option maxRecDepth 100000 in
theorem kX0_lettersE1 (l : Launch) (dC : Nat → ClassId) (dI : Nat → Nat → Nat) (cI cZ cJ : ClassId) (a : Nat → Nat) (n mw nf : Nat) (sg fo L le sc li ba ca st : Nat → Nat) (hfl : l.flags = flags0) (u : Int32) (v : Int32) (hu : isLi u = false) : thr l yX0_letters cX0_letters 5 (some .int) 8 115 [.ref (a 0), .int u, .int v] (rB dC dI cI cZ cJ (vX cI cZ a n mw nf sg fo L le sc li ba ca st)) := by
  refine thr_ofW RX0 (by decide) rfl (Nat.le_of_ble_eq_true rfl) ?_
  intro p e s m below meth c S hex hlk hB ht ls hl
  obtain ⟨hP, hK⟩ := hB
  have hl : lv_has ls 5 [(0, .ref (a 0)), (1, .int u), (2, .int v)] := hl
  refine lv_iload_n S.1 S.2.1 dX0_letters_0 rfl (lv_at hl 1 rfl) ?_
  exact thr_outS (As := [.int u]) (rest := []) S hex hlk ht (kX0_needListE l hfl u hu) (fun _ _ _ => trivial) gX0_56 hdX0_needList (by decide) hl.1 rfl (Nat.le_of_ble_eq_true rfl) dX0_letters_1

set_option maxRecDepth 100000 in
theorem kX0_lettersE2 (l : Launch) (dC : Nat → ClassId) (dI : Nat → Nat → Nat) (cI cZ cJ : ClassId) (a : Nat → Nat) (n mw nf : Nat) (sg fo L le sc li ba ca st : Nat → Nat) (hfl : l.flags = flags0) (t : Nat) (v : Int32) (ht0 : t < 4) (hv : isL v = false) : thr l yX0_letters cX0_letters 5 (some .int) 8 115 [.ref (a 0), .int (nI t), .int v] (rB dC dI cI cZ cJ (vX cI cZ a n mw nf sg fo L le sc li ba ca st)) := by
  refine thr_ofW RX0 (by decide) rfl (Nat.le_of_ble_eq_true rfl) ?_
  intro p e s m below meth c S hex hlk hB ht ls hl
  obtain ⟨hP, hK⟩ := hB
  have hl : lv_has ls 5 [(0, .ref (a 0)), (1, .int (nI t)), (2, .int v)] := hl
  refine lv_iload_n S.1 S.2.1 dX0_letters_0 rfl (lv_at hl 1 rfl) ?_
  refine rdv_callS (As := [.int (nI t)]) (rest := []) S (kX0_needList l t ht0) tr_blind (fun _ _ _ => trivial) gX0_56 hdX0_needList (by decide) hl.1 rfl (Nat.le_of_ble_eq_true rfl) dX0_letters_1 ⟨Nat.zero_le _, Nat.zero_le _⟩ ?_
  refine lv_iload_n S.1 S.2.1 dX0_letters_4 rfl (lv_at hl 2 rfl) ?_
  exact thr_outS (As := [.int v]) (rest := []) S hex hlk ht (kX0_needLetterE l hfl v hv) (fun _ _ _ => trivial) gX0_52 hdX0_needLetter (by decide) hl.1 rfl (Nat.le_of_ble_eq_true rfl) dX0_letters_5

set_option maxRecDepth 100000 in
theorem kX0_mergeE1 (l : Launch) (dC : Nat → ClassId) (dI : Nat → Nat → Nat) (cI cZ cJ : ClassId) (a : Nat → Nat) (n mw nf : Nat) (sg fo L le sc li ba ca st : Nat → Nat) (hfl : l.flags = flags0) (x : Int32) (u : Int32) (v : Int32) (z : Int32) (hu : isLi u = false) : thr l yX0_merge cX0_merge 7 (some .int) 8 115 [.ref (a 0), .int x, .int u, .int v, .int z] (rB dC dI cI cZ cJ (vX cI cZ a n mw nf sg fo L le sc li ba ca st)) := by
  refine thr_ofW RX0 (by decide) rfl (Nat.le_of_ble_eq_true rfl) ?_
  intro p e s m below meth c S hex hlk hB ht ls hl
  obtain ⟨hP, hK⟩ := hB
  have hl : lv_has ls 7 [(0, .ref (a 0)), (1, .int x), (2, .int u), (3, .int v), (4, .int z)] := hl
  refine lv_iload_n S.1 S.2.1 dX0_merge_0 rfl (lv_at hl 2 rfl) ?_
  exact thr_outS (As := [.int u]) (rest := []) S hex hlk ht (kX0_needListE l hfl u hu) (fun _ _ _ => trivial) gX0_56 hdX0_needList (by decide) hl.1 rfl (Nat.le_of_ble_eq_true rfl) dX0_merge_1

set_option maxRecDepth 100000 in
theorem kX0_mergeE2 (l : Launch) (dC : Nat → ClassId) (dI : Nat → Nat → Nat) (cI cZ cJ : ClassId) (a : Nat → Nat) (n mw nf : Nat) (sg fo L le sc li ba ca st : Nat → Nat) (hfl : l.flags = flags0) (x : Int32) (t : Nat) (v : Int32) (z : Int32) (ht0 : t < 4) (hv : isLi v = false) : thr l yX0_merge cX0_merge 7 (some .int) 8 115 [.ref (a 0), .int x, .int (nI t), .int v, .int z] (rB dC dI cI cZ cJ (vX cI cZ a n mw nf sg fo L le sc li ba ca st)) := by
  refine thr_ofW RX0 (by decide) rfl (Nat.le_of_ble_eq_true rfl) ?_
  intro p e s m below meth c S hex hlk hB ht ls hl
  obtain ⟨hP, hK⟩ := hB
  have hl : lv_has ls 7 [(0, .ref (a 0)), (1, .int x), (2, .int (nI t)), (3, .int v), (4, .int z)] := hl
  refine lv_iload_n S.1 S.2.1 dX0_merge_0 rfl (lv_at hl 2 rfl) ?_
  refine rdv_callS (As := [.int (nI t)]) (rest := []) S (kX0_needList l t ht0) tr_blind (fun _ _ _ => trivial) gX0_56 hdX0_needList (by decide) hl.1 rfl (Nat.le_of_ble_eq_true rfl) dX0_merge_1 ⟨Nat.zero_le _, Nat.zero_le _⟩ ?_
  refine lv_iload_n S.1 S.2.1 dX0_merge_4 rfl (lv_at hl 3 rfl) ?_
  exact thr_outS (As := [.int v]) (rest := []) S hex hlk ht (kX0_needListE l hfl v hv) (fun _ _ _ => trivial) gX0_56 hdX0_needList (by decide) hl.1 rfl (Nat.le_of_ble_eq_true rfl) dX0_merge_5

set_option maxRecDepth 100000 in
theorem kX0_mergeE3 (l : Launch) (dC : Nat → ClassId) (dI : Nat → Nat → Nat) (cI cZ cJ : ClassId) (a : Nat → Nat) (n mw nf : Nat) (sg fo L le sc li ba ca st : Nat → Nat) (hfl : l.flags = flags0) (x : Int32) (t : Nat) (t2 : Nat) (z : Int32) (ht0 : t < 4) (ht2 : t2 < 4) (hz : isLi z = false) : thr l yX0_merge cX0_merge 7 (some .int) 8 115 [.ref (a 0), .int x, .int (nI t), .int (nI t2), .int z] (rB dC dI cI cZ cJ (vX cI cZ a n mw nf sg fo L le sc li ba ca st)) := by
  refine thr_ofW RX0 (by decide) rfl (Nat.le_of_ble_eq_true rfl) ?_
  intro p e s m below meth c S hex hlk hB ht ls hl
  obtain ⟨hP, hK⟩ := hB
  have hl : lv_has ls 7 [(0, .ref (a 0)), (1, .int x), (2, .int (nI t)), (3, .int (nI t2)), (4, .int z)] := hl
  refine lv_iload_n S.1 S.2.1 dX0_merge_0 rfl (lv_at hl 2 rfl) ?_
  refine rdv_callS (As := [.int (nI t)]) (rest := []) S (kX0_needList l t ht0) tr_blind (fun _ _ _ => trivial) gX0_56 hdX0_needList (by decide) hl.1 rfl (Nat.le_of_ble_eq_true rfl) dX0_merge_1 ⟨Nat.zero_le _, Nat.zero_le _⟩ ?_
  refine lv_iload_n S.1 S.2.1 dX0_merge_4 rfl (lv_at hl 3 rfl) ?_
  refine rdv_callS (As := [.int (nI t2)]) (rest := []) S (kX0_needList l t2 ht2) tr_blind (fun _ _ _ => trivial) gX0_56 hdX0_needList (by decide) hl.1 rfl (Nat.le_of_ble_eq_true rfl) dX0_merge_5 ⟨Nat.zero_le _, Nat.zero_le _⟩ ?_
  refine lv_iload S.1 S.2.1 dX0_merge_8 (lv_at hl 4 rfl) ?_
  exact thr_outS (As := [.int z]) (rest := []) S hex hlk ht (kX0_needListE l hfl z hz) (fun _ _ _ => trivial) gX0_56 hdX0_needList (by decide) hl.1 rfl (Nat.le_of_ble_eq_true rfl) dX0_merge_10
