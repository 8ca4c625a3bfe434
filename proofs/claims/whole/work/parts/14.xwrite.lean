/-! ===== the class: writers ===== -/
/-- the letters with the first i of the row as those of word mw -/
def adL (n mw i : Nat) (sg fo L : Nat → Nat) : Nat → Nat := fun k => if 15 * mw ≤ k ∧ k < 15 * mw + i then fsg sg fo (k - 15 * mw) else L k
theorem adL_0 {n mw : Nat} {sg fo L : Nat → Nat} : adL n mw 0 sg fo L = L := by
  funext k
  rw [adL, if_neg (by omega)]
theorem adL_s {n mw i : Nat} {sg fo L : Nat → Nat} : va_up (adL n mw i sg fo L) (15 * mw + i) (fsg sg fo i) = adL n mw (i + 1) sg fo L := by
  funext k
  by_cases h : k = 15 * mw + i
  · subst h
    rw [va_up_self, adL, if_pos (by omega), Nat.add_sub_cancel_left]
  · rw [va_up_ne _ _ h, adL, adL]
    by_cases q : 15 * mw ≤ k ∧ k < 15 * mw + i
    · rw [if_pos q, if_pos (by omega)]
    · rw [if_neg q, if_neg (by omega)]
set_option maxRecDepth 100000 in
theorem kX0_signF (l : Launch) (dC : Nat → ClassId) (dI : Nat → Nat → Nat) (cI cZ cJ : ClassId) (a : Nat → Nat) (n mw nf : Nat) (sg fo L le sc li ba ca st : Nat → Nat) (u : Int32) (hI : iv n mw nf sg fo L le sc li ba ca) (hu : n = 15 ∨ (isL u = false ∧ ¬ u = nI 63)) : rd l yX0_sign cX0_sign 2 (some .boolean) 1 20 [.ref (a 0), .int u] (rB dC dI cI cZ cJ (vX cI cZ a n mw nf sg fo L le sc li ba ca st)) (nI (0)) := by
  refine rd_ofW RX0 (by decide) rfl (Nat.le_of_ble_eq_true rfl) ?_
  intro p e s m below meth c S hr hlk hB ls hl
  obtain ⟨hP, hK⟩ := hB
  have hl : lv_has ls 2 [(0, .ref (a 0)), (1, .int u)] := hl
  obtain ⟨⟨hn, hm, hf⟩, ⟨hsg, hfo, hL, hle, hsc, hli, hba, hca⟩, hv1, hv2, hv3, hv4, hv5, hv6, hv7⟩ := id hI
  refine lv_aload_n S.1 S.2.1 dX0_sign_0 rfl (lv_at hl 0 rfl) ?_
  refine fX0_signCount (v := .int (nI n)) S hK hP rfl rfl dX0_sign_1 ?_
  refine lv_bipush (v := (nI 15)) S.1 S.2.1 dX0_sign_4 (by decide) ?_
  refine n_icmp_ge (x := n) (y := 15) (tgt := 22) S dX0_sign_6 (by decide) (by omega) (by omega) (fun h6 => ?_) (fun h6 => ?_)
  · refine lv_iconst (v := (nI 0)) S.1 S.2.1 dX0_sign_22 (by decide) ?_
    exact rd_ret S hr hlk (rfl) (rfl) dX0_sign_23
  · refine lv_iload_n S.1 S.2.1 dX0_sign_9 rfl (lv_at hl 1 rfl) ?_
    refine rd_callS (As := [.int u]) (rest := []) S (kX0_isLetter l u) tr_blind (fun _ _ _ => trivial) gX0_48 hdX0_isLetter (by decide) hl.1 rfl (Nat.le_of_ble_eq_true rfl) dX0_sign_10 ⟨Nat.zero_le _, Nat.zero_le _⟩ ?_
    refine n_bif_ne (b := isL u) (tgt := 24) S dX0_sign_13 (by decide) (fun h13 => ?_) (fun h13 => ?_)
    · exact absurd h13 (by rcases hu with q | q; exact absurd q (by omega); rw [q.1]; decide)
    · refine lv_iload_n S.1 S.2.1 dX0_sign_16 rfl (lv_at hl 1 rfl) ?_
      refine lv_bipush (v := (nI 63)) S.1 S.2.1 dX0_sign_17 (by decide) ?_
      refine lv_icmp_eq (tgt := 24) S.1 S.2.1 dX0_sign_19 (by decide) (fun h19 => ?_) (fun h19 => ?_)
      · exact absurd h19 (by rcases hu with q | q; exact absurd q (by omega); exact q.2)
      · refine lv_iconst (v := (nI 0)) S.1 S.2.1 dX0_sign_22 (by decide) ?_
        exact rd_ret S hr hlk (rfl) (rfl) dX0_sign_23

set_option maxRecDepth 100000 in
set_option maxHeartbeats 1000000 in
theorem kX0_signT (l : Launch) (dC : Nat → ClassId) (dI : Nat → Nat → Nat) (cI cZ cJ : ClassId) (a : Nat → Nat) (n mw nf : Nat) (sg fo L le sc li ba ca st : Nat → Nat) (j : Nat) (hI : iv n mw nf sg fo L le sc li ba ca) (hj : j = 63 ∨ (97 ≤ j ∧ j ≤ 122)) (hn5 : n < 15) : wr l yX0_sign cX0_sign 2 (some .boolean) 1 20 [.ref (a 0), .int (nI j)] dC dI cI cZ cJ (vX cI cZ a n mw nf sg fo L le sc li ba ca st) (vX cI cZ a (n + 1) mw nf (va_up sg n j) fo L le sc li ba ca st) (some (.int (nI (1)))) := by
  refine wr_ofW RX0 (by decide) rfl (Nat.le_of_ble_eq_true rfl) ?_
  intro p e s m below meth c S hr hlk hK hP hD hS ls hl
  have hl : lv_has ls 2 [(0, .ref (a 0)), (1, .int (nI j))] := hl
  obtain ⟨⟨hn, hm, hf⟩, ⟨hsg, hfo, hL, hle, hsc, hli, hba, hca⟩, hv1, hv2, hv3, hv4, hv5, hv6, hv7⟩ := id hI
  refine lv_aload_n S.1 S.2.1 dX0_sign_0 rfl (lv_at hl 0 rfl) ?_
  refine fX0_signCount (v := .int (nI n)) S hK hP rfl rfl dX0_sign_1 ?_
  refine lv_bipush (v := (nI 15)) S.1 S.2.1 dX0_sign_4 (by decide) ?_
  refine n_icmp_ge (x := n) (y := 15) (tgt := 22) S dX0_sign_6 (by decide) (by omega) (by omega) (fun h6 => ?_) (fun h6 => ?_)
  · exact absurd h6 (by omega)
  · refine lv_iload_n S.1 S.2.1 dX0_sign_9 rfl (lv_at hl 1 rfl) ?_
    refine rd_callS (As := [.int (nI j)]) (rest := []) S (kX0_isLetter l ((nI j))) tr_blind (fun _ _ _ => trivial) gX0_48 hdX0_isLetter (by decide) hl.1 rfl (Nat.le_of_ble_eq_true rfl) dX0_sign_10 ⟨Nat.zero_le _, Nat.zero_le _⟩ ?_
    rw [isL_n (by omega)]
    refine n_bif_ne (b := (decide (97 ≤ j) && decide (j < 123))) (tgt := 24) S dX0_sign_13 (by decide) (fun h13 => ?_) (fun h13 => ?_)
    · refine lv_aload_n S.1 S.2.1 dX0_sign_24 rfl (lv_at hl 0 rfl) ?_
      refine fX0_signs (v := .ref (a 1)) S hK hP rfl rfl dX0_sign_25 ?_
      refine lv_aload_n S.1 S.2.1 dX0_sign_28 rfl (lv_at hl 0 rfl) ?_
      refine fX0_signCount (v := .int (nI n)) S hK hP rfl rfl dX0_sign_29 ?_
      refine lv_iload_n S.1 S.2.1 dX0_sign_32 rfl (lv_at hl 1 rfl) ?_
      refine n_iast S hK hP hD hS 1 0 rfl rfl dX0_sign_33 (j := n) (x := j) (by decide) (by omega) (fun H locs hP hD hS => ?_)
      have hP : va_P (dC, dI) vcl (vX cI cZ a n mw nf (va_up sg n j) fo L le sc li ba ca st) H := hP
      have hD : va_D (wF (vX cI cZ a n mw nf sg fo L le sc li ba ca st)) (vX cI cZ a n mw nf (va_up sg n j) fo L le sc li ba ca st) := hD
      refine lv_aload_n S.1 S.2.1 dX0_sign_34 rfl (lv_at hl 0 rfl) ?_
      refine lv_dup S.1 S.2.1 dX0_sign_35 rfl ?_
      refine fX0_signCount (v := .int (nI n)) S hK hP rfl rfl dX0_sign_36 ?_
      refine lv_iconst (v := (nI 1)) S.1 S.2.1 dX0_sign_39 (by decide) ?_
      refine n_iadd (x := n) (y := 1) S dX0_sign_40 ?_
      refine pX0_signCount S hK hP hD hS rfl (Nat.le_of_ble_eq_true rfl) dX0_sign_41 (fun H locs hP hD hS => ?_)
      have hP : va_P (dC, dI) vcl (vX cI cZ a (n + 1) mw nf (va_up sg n j) fo L le sc li ba ca st) H := hP
      have hD : va_D (wF (vX cI cZ a n mw nf sg fo L le sc li ba ca st)) (vX cI cZ a (n + 1) mw nf (va_up sg n j) fo L le sc li ba ca st) := hD
      refine lv_iconst (v := (nI 1)) S.1 S.2.1 dX0_sign_44 (by decide) ?_
      exact wr_ret S hr hlk (rfl) (rfl) hP (rfl) hS dX0_sign_45
    · refine lv_iload_n S.1 S.2.1 dX0_sign_16 rfl (lv_at hl 1 rfl) ?_
      refine lv_bipush (v := (nI 63)) S.1 S.2.1 dX0_sign_17 (by decide) ?_
      refine n_icmp_eq (x := j) (y := 63) (tgt := 24) S dX0_sign_19 (by decide) (by omega) (by omega) (fun h19 => ?_) (fun h19 => ?_)
      · refine lv_aload_n S.1 S.2.1 dX0_sign_24 rfl (lv_at hl 0 rfl) ?_
        refine fX0_signs (v := .ref (a 1)) S hK hP rfl rfl dX0_sign_25 ?_
        refine lv_aload_n S.1 S.2.1 dX0_sign_28 rfl (lv_at hl 0 rfl) ?_
        refine fX0_signCount (v := .int (nI n)) S hK hP rfl rfl dX0_sign_29 ?_
        refine lv_iload_n S.1 S.2.1 dX0_sign_32 rfl (lv_at hl 1 rfl) ?_
        refine n_iast S hK hP hD hS 1 0 rfl rfl dX0_sign_33 (j := n) (x := j) (by decide) (by omega) (fun H locs hP hD hS => ?_)
        have hP : va_P (dC, dI) vcl (vX cI cZ a n mw nf (va_up sg n j) fo L le sc li ba ca st) H := hP
        have hD : va_D (wF (vX cI cZ a n mw nf sg fo L le sc li ba ca st)) (vX cI cZ a n mw nf (va_up sg n j) fo L le sc li ba ca st) := hD
        refine lv_aload_n S.1 S.2.1 dX0_sign_34 rfl (lv_at hl 0 rfl) ?_
        refine lv_dup S.1 S.2.1 dX0_sign_35 rfl ?_
        refine fX0_signCount (v := .int (nI n)) S hK hP rfl rfl dX0_sign_36 ?_
        refine lv_iconst (v := (nI 1)) S.1 S.2.1 dX0_sign_39 (by decide) ?_
        refine n_iadd (x := n) (y := 1) S dX0_sign_40 ?_
        refine pX0_signCount S hK hP hD hS rfl (Nat.le_of_ble_eq_true rfl) dX0_sign_41 (fun H locs hP hD hS => ?_)
        have hP : va_P (dC, dI) vcl (vX cI cZ a (n + 1) mw nf (va_up sg n j) fo L le sc li ba ca st) H := hP
        have hD : va_D (wF (vX cI cZ a n mw nf sg fo L le sc li ba ca st)) (vX cI cZ a (n + 1) mw nf (va_up sg n j) fo L le sc li ba ca st) := hD
        refine lv_iconst (v := (nI 1)) S.1 S.2.1 dX0_sign_44 (by decide) ?_
        exact wr_ret S hr hlk (rfl) (rfl) hP (rfl) hS dX0_sign_45
      · exact absurd hj (by simp only [Bool.and_eq_false_iff, decide_eq_false_iff_not] at h13; omega)

set_option maxRecDepth 100000 in
set_option maxHeartbeats 1000000 in
theorem kX0_clear (l : Launch) (dC : Nat → ClassId) (dI : Nat → Nat → Nat) (cI cZ cJ : ClassId) (a : Nat → Nat) (n mw nf : Nat) (sg fo L le sc li ba ca st : Nat → Nat) (hI : iv n mw nf sg fo L le sc li ba ca) : wr l yX0_clear cX0_clear 1 none 0 0 [.ref (a 0)] dC dI cI cZ cJ (vX cI cZ a n mw nf sg fo L le sc li ba ca st) (vX cI cZ a 0 mw nf sg fo L le sc li ba ca st) none := by
  refine wr_ofW RX0 (by decide) rfl (Nat.le_of_ble_eq_true rfl) ?_
  intro p e s m below meth c S hr hlk hK hP hD hS ls hl
  have hl : lv_has ls 1 [(0, .ref (a 0))] := hl
  obtain ⟨⟨hn, hm, hf⟩, ⟨hsg, hfo, hL, hle, hsc, hli, hba, hca⟩, hv1, hv2, hv3, hv4, hv5, hv6, hv7⟩ := id hI
  refine lv_aload_n S.1 S.2.1 dX0_clear_0 rfl (lv_at hl 0 rfl) ?_
  refine lv_iconst (v := (nI 0)) S.1 S.2.1 dX0_clear_1 (by decide) ?_
  refine pX0_signCount S hK hP hD hS rfl (Nat.le_of_ble_eq_true rfl) dX0_clear_2 (fun H locs hP hD hS => ?_)
  have hP : va_P (dC, dI) vcl (vX cI cZ a 0 mw nf sg fo L le sc li ba ca st) H := hP
  have hD : va_D (wF (vX cI cZ a n mw nf sg fo L le sc li ba ca st)) (vX cI cZ a 0 mw nf sg fo L le sc li ba ca st) := hD
  exact wr_retv S hr hlk hP (rfl) hS dX0_clear_5

set_option maxRecDepth 100000 in
set_option maxHeartbeats 1000000 in
theorem kX0_fold (l : Launch) (dC : Nat → ClassId) (dI : Nat → Nat → Nat) (cI cZ cJ : ClassId) (a : Nat → Nat) (n mw nf : Nat) (sg fo L le sc li ba ca st : Nat → Nat) (y : Nat) (z : Nat) (hI : iv n mw nf sg fo L le sc li ba ca) (hy : 97 ≤ y ∧ y ≤ 122) (hz : 97 ≤ z ∧ z ≤ 122) : wr l yX0_fold cX0_fold 3 none 2 40 [.ref (a 0), .int (nI y), .int (nI z)] dC dI cI cZ cJ (vX cI cZ a n mw nf sg fo L le sc li ba ca st) (vX cI cZ a n mw nf sg (va_up fo (y - 97) z) L le sc li ba ca st) none := by
  refine wr_ofW RX0 (by decide) rfl (Nat.le_of_ble_eq_true rfl) ?_
  intro p e s m below meth c S hr hlk hK hP hD hS ls hl
  have hl : lv_has ls 3 [(0, .ref (a 0)), (1, .int (nI y)), (2, .int (nI z))] := hl
  obtain ⟨⟨hn, hm, hf⟩, ⟨hsg, hfo, hL, hle, hsc, hli, hba, hca⟩, hv1, hv2, hv3, hv4, hv5, hv6, hv7⟩ := id hI
  refine lv_iload_n S.1 S.2.1 dX0_fold_0 rfl (lv_at hl 1 rfl) ?_
  refine rdv_callS (As := [.int (nI y)]) (rest := []) S (kX0_needLetter l y hy) tr_blind (fun _ _ _ => trivial) gX0_52 hdX0_needLetter (by decide) hl.1 rfl (Nat.le_of_ble_eq_true rfl) dX0_fold_1 ⟨Nat.zero_le _, Nat.zero_le _⟩ ?_
  refine lv_iload_n S.1 S.2.1 dX0_fold_4 rfl (lv_at hl 2 rfl) ?_
  refine rdv_callS (As := [.int (nI z)]) (rest := []) S (kX0_needLetter l z hz) tr_blind (fun _ _ _ => trivial) gX0_52 hdX0_needLetter (by decide) hl.1 rfl (Nat.le_of_ble_eq_true rfl) dX0_fold_5 ⟨Nat.zero_le _, Nat.zero_le _⟩ ?_
  refine lv_aload_n S.1 S.2.1 dX0_fold_8 rfl (lv_at hl 0 rfl) ?_
  refine fX0_folding (v := .ref (a 2)) S hK hP rfl rfl dX0_fold_9 ?_
  refine lv_iload_n S.1 S.2.1 dX0_fold_12 rfl (lv_at hl 1 rfl) ?_
  refine lv_bipush (v := (nI 97)) S.1 S.2.1 dX0_fold_13 (by decide) ?_
  refine n_isub (x := y) (y := 97) S dX0_fold_15 (by omega) ?_
  refine lv_iload_n S.1 S.2.1 dX0_fold_16 rfl (lv_at hl 2 rfl) ?_
  refine n_iast S hK hP hD hS 2 0 rfl rfl dX0_fold_17 (j := y - 97) (x := z) (by decide) (by omega) (fun H locs hP hD hS => ?_)
  have hP : va_P (dC, dI) vcl (vX cI cZ a n mw nf sg (va_up fo (y - 97) z) L le sc li ba ca st) H := hP
  have hD : va_D (wF (vX cI cZ a n mw nf sg fo L le sc li ba ca st)) (vX cI cZ a n mw nf sg (va_up fo (y - 97) z) L le sc li ba ca st) := hD
  exact wr_retv S hr hlk hP (rfl) hS dX0_fold_18

set_option maxRecDepth 100000 in
set_option maxHeartbeats 1000000 in
theorem lX0_addWordOfRow_7 (l : Launch) (dC : Nat → ClassId) (dI : Nat → Nat → Nat) (cI cZ cJ : ClassId) (a : Nat → Nat) (n mw nf : Nat) (sg fo L le sc li ba ca st : Nat → Nat) (hI : iv n mw nf sg fo L le sc li ba ca) (hmw : mw < 250)  {p : Program} {e : Env} {s : State} {m : MethodId} {below : List Frame} {meth : Method} {c : Code} (S : CallFix p m c cX0_addWordOfRow 3 s ([.ref (a 0)] : List Value).toArray tbG RX0) (hr : meth.sig.returnType = (some .int)) (hlk : meth.locks = false) (hK : va_K (dC, dI) vcl (vty cI cZ cJ) s) :
    ∀ (fuel : Nat) (i : Nat), n - i < fuel → i ≤ n → ∀ (H : Heap) (locs : List Loc), va_P (dC, dI) vcl (vX cI cZ a n mw nf sg fo (adL n mw i sg fo L) le sc li ba ca st) H → va_D (wF (vX cI cZ a n mw nf sg fo L le sc li ba ca st)) (vX cI cZ a n mw nf sg fo (adL n mw i sg fo L) le sc li ba ca st) → va_S (wF (vX cI cZ a n mw nf sg fo L le sc li ba ca st)) s.heap H locs → ∀ ls : Array Slot, lv_has ls 3 [(0, .ref (a 0)), (1, .int (nI mw)), (2, .int (nI i))] → W p l e ({ frames := 2, cells := 0, slots := 0, locals := 42 } : Room) s m ([.ref (a 0)] : List Value).toArray below meth c H locs 0 0 (MQ below (Qw dC dI (vX cI cZ a n mw nf sg fo L le sc li ba ca st) (vX cI cZ a n (mw + 1) nf sg fo (adL n mw n sg fo L) (va_up le mw n) sc li ba ca st) (some (.int (nI (mw))))) ([.ref (a 0)] : List Value).toArray s 0 0 (wF (vX cI cZ a n mw nf sg fo L le sc li ba ca st))) (F0 m 7 ls []) := by
  obtain ⟨⟨hn, hm, hf⟩, ⟨hsg, hfo, hL, hle, hsc, hli, hba, hca⟩, hv1, hv2, hv3, hv4, hv5, hv6, hv7⟩ := id hI
  intro fuel
  induction fuel with
  | zero =>
    intro i hq
    exact absurd hq (Nat.not_lt_zero _)
  | succ fuel ih =>
    intro i hq hi H locs hP hD hS ls hl
    refine lv_iload_n S.1 S.2.1 dX0_addWordOfRow_7 rfl (lv_at hl 2 rfl) ?_
    refine lv_aload_n S.1 S.2.1 dX0_addWordOfRow_8 rfl (lv_at hl 0 rfl) ?_
    refine fX0_signCount (v := .int (nI n)) S hK hP rfl rfl dX0_addWordOfRow_9 ?_
    refine n_icmp_ge (x := i) (y := n) (tgt := 37) S dX0_addWordOfRow_12 (by decide) (by omega) (by omega) (fun h12 => ?_) (fun h12 => ?_)
    · refine lv_aload_n S.1 S.2.1 dX0_addWordOfRow_37 rfl (lv_at hl 0 rfl) ?_
      refine fX0_wordLengths (v := .ref (a 4)) S hK hP rfl rfl dX0_addWordOfRow_38 ?_
      refine lv_iload_n S.1 S.2.1 dX0_addWordOfRow_41 rfl (lv_at hl 1 rfl) ?_
      refine lv_aload_n S.1 S.2.1 dX0_addWordOfRow_42 rfl (lv_at hl 0 rfl) ?_
      refine fX0_signCount (v := .int (nI n)) S hK hP rfl rfl dX0_addWordOfRow_43 ?_
      refine n_iast S hK hP hD hS 4 0 rfl rfl dX0_addWordOfRow_46 (j := mw) (x := n) (by decide) (by omega) (fun H locs hP hD hS => ?_)
      have hP : va_P (dC, dI) vcl (vX cI cZ a n mw nf sg fo (adL n mw i sg fo L) (va_up le mw n) sc li ba ca st) H := hP
      have hD : va_D (wF (vX cI cZ a n mw nf sg fo L le sc li ba ca st)) (vX cI cZ a n mw nf sg fo (adL n mw i sg fo L) (va_up le mw n) sc li ba ca st) := hD
      refine lv_aload_n S.1 S.2.1 dX0_addWordOfRow_47 rfl (lv_at hl 0 rfl) ?_
      refine lv_dup S.1 S.2.1 dX0_addWordOfRow_48 rfl ?_
      refine fX0_wordCount (v := .int (nI mw)) S hK hP rfl rfl dX0_addWordOfRow_49 ?_
      refine lv_iconst (v := (nI 1)) S.1 S.2.1 dX0_addWordOfRow_52 (by decide) ?_
      refine n_iadd (x := mw) (y := 1) S dX0_addWordOfRow_53 ?_
      refine pX0_wordCount S hK hP hD hS rfl (Nat.le_of_ble_eq_true rfl) dX0_addWordOfRow_54 (fun H locs hP hD hS => ?_)
      have hP : va_P (dC, dI) vcl (vX cI cZ a n (mw + 1) nf sg fo (adL n mw i sg fo L) (va_up le mw n) sc li ba ca st) H := hP
      have hD : va_D (wF (vX cI cZ a n mw nf sg fo L le sc li ba ca st)) (vX cI cZ a n (mw + 1) nf sg fo (adL n mw i sg fo L) (va_up le mw n) sc li ba ca st) := hD
      refine lv_iload_n S.1 S.2.1 dX0_addWordOfRow_57 rfl (lv_at hl 1 rfl) ?_
      exact wr_ret S hr hlk (rfl) (rfl) hP (by rw [show i = n by omega]) hS dX0_addWordOfRow_58
    · refine lv_aload_n S.1 S.2.1 dX0_addWordOfRow_15 rfl (lv_at hl 0 rfl) ?_
      refine fX0_wordLetters (v := .ref (a 3)) S hK hP rfl rfl dX0_addWordOfRow_16 ?_
      refine lv_iload_n S.1 S.2.1 dX0_addWordOfRow_19 rfl (lv_at hl 1 rfl) ?_
      refine lv_bipush (v := (nI 15)) S.1 S.2.1 dX0_addWordOfRow_20 (by decide) ?_
      refine n_imul (x := mw) (y := 15) S dX0_addWordOfRow_22 ?_
      refine lv_iload_n S.1 S.2.1 dX0_addWordOfRow_23 rfl (lv_at hl 2 rfl) ?_
      refine n_iadd (x := mw * 15) (y := i) S dX0_addWordOfRow_24 ?_
      refine lv_aload_n S.1 S.2.1 dX0_addWordOfRow_25 rfl (lv_at hl 0 rfl) ?_
      refine lv_iload_n S.1 S.2.1 dX0_addWordOfRow_26 rfl (lv_at hl 2 rfl) ?_
      refine rd_callV (C := RX0) (As := [.int (nI i)]) (rest := [.int (nI ((mw * 15) + i)), .ref (a 3)]) S (kX0_foldedSign l dC dI cI cZ cJ a n mw nf sg fo (adL n mw i sg fo L) le sc li ba ca st i (iv_r hI) (by omega)) rB_blind (fun U hU hW => ⟨by rw [hU]; exact hP, va_K.moved hW.alike hK⟩) (va_recv hK hP (ci := 0) (q0 := 0) rfl rfl) gX0_127 hdX0_foldedSign (by decide) hl.1 rfl (Nat.le_of_ble_eq_true rfl) dX0_addWordOfRow_27 ⟨Nat.zero_le _, Nat.zero_le _⟩ ?_
      refine n_iast S hK hP hD hS 3 0 rfl rfl dX0_addWordOfRow_30 (j := (mw * 15) + i) (x := fsg sg fo i) (by decide) (by omega) (fun H locs hP hD hS => ?_)
      have hP : va_P (dC, dI) vcl (vX cI cZ a n mw nf sg fo (va_up (adL n mw i sg fo L) ((mw * 15) + i) (fsg sg fo i)) le sc li ba ca st) H := hP
      have hD : va_D (wF (vX cI cZ a n mw nf sg fo L le sc li ba ca st)) (vX cI cZ a n mw nf sg fo (va_up (adL n mw i sg fo L) ((mw * 15) + i) (fsg sg fo i)) le sc li ba ca st) := hD
      refine n_iinc (lv' := [(2, .int (nI (i + 1))), (0, .ref (a 0)), (1, .int (nI mw))]) (x := i) (k := 2) S dX0_addWordOfRow_31 hl rfl (by decide) rfl (fun ls hl => ?_)
      refine lv_goto (tgt := 7) S.1 S.2.1 dX0_addWordOfRow_34 (by decide) ?_
      have e0 : vX cI cZ a n mw nf sg fo (va_up (adL n mw i sg fo L) ((mw * 15) + i) (fsg sg fo i)) le sc li ba ca st = vX cI cZ a n mw nf sg fo (adL n mw (i + 1) sg fo L) le sc li ba ca st := (by rw [← adL_s, Nat.mul_comm mw 15])
      exact ih (i + 1) (by omega) (by omega) _ _ (by rw [← e0]; exact hP) (by rw [← e0]; exact hD) hS ls (lv_sub hl [1, 2, 0] rfl)
set_option maxRecDepth 100000 in
set_option maxHeartbeats 1000000 in
theorem kX0_addWordOfRow (l : Launch) (dC : Nat → ClassId) (dI : Nat → Nat → Nat) (cI cZ cJ : ClassId) (a : Nat → Nat) (n mw nf : Nat) (sg fo L le sc li ba ca st : Nat → Nat) (hI : iv n mw nf sg fo L le sc li ba ca) (hmw : mw < 250) : wr l yX0_addWordOfRow cX0_addWordOfRow 3 (some .int) 2 42 [.ref (a 0)] dC dI cI cZ cJ (vX cI cZ a n mw nf sg fo L le sc li ba ca st) (vX cI cZ a n (mw + 1) nf sg fo (adL n mw n sg fo L) (va_up le mw n) sc li ba ca st) (some (.int (nI (mw)))) := by
  refine wr_ofW RX0 (by decide) rfl (Nat.le_of_ble_eq_true rfl) ?_
  intro p e s m below meth c S hr hlk hK hP hD hS ls hl
  have hl : lv_has ls 3 [(0, .ref (a 0))] := hl
  obtain ⟨⟨hn, hm, hf⟩, ⟨hsg, hfo, hL, hle, hsc, hli, hba, hca⟩, hv1, hv2, hv3, hv4, hv5, hv6, hv7⟩ := id hI
  refine lv_aload_n S.1 S.2.1 dX0_addWordOfRow_0 rfl (lv_at hl 0 rfl) ?_
  refine fX0_wordCount (v := .int (nI mw)) S hK hP rfl rfl dX0_addWordOfRow_1 ?_
  refine lv_istore_n (lv' := [(1, .int (nI mw)), (0, .ref (a 0))]) S.1 S.2.1 dX0_addWordOfRow_4 rfl hl (by decide) rfl (fun ls hl => ?_)
  refine lv_iconst (v := (nI 0)) S.1 S.2.1 dX0_addWordOfRow_5 (by decide) ?_
  refine lv_istore_n (lv' := [(2, .int (nI 0)), (1, .int (nI mw)), (0, .ref (a 0))]) S.1 S.2.1 dX0_addWordOfRow_6 rfl hl (by decide) rfl (fun ls hl => ?_)
  have e0 : vX cI cZ a n mw nf sg fo L le sc li ba ca st = vX cI cZ a n mw nf sg fo (adL n mw 0 sg fo L) le sc li ba ca st := (by rw [adL_0])
  exact lX0_addWordOfRow_7 l dC dI cI cZ cJ a n mw nf sg fo L le sc li ba ca st hI hmw S hr hlk hK _ 0 (Nat.lt_succ_self _) (by omega) _ _ (by rw [← e0]; exact hP) (by rw [← e0]; exact hD) hS ls (lv_sub hl [2, 1, 0] rfl)
