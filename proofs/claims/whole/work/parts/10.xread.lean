/-! ===== the class: its readers ===== -/
/-- the first word that P holds of, or -1 -/
def wof (mw : Nat) (P : Nat → Bool) : Int32 := match (List.range mw).find? P with
  | some k => nI k
  | none => -1
theorem wof_at {mw i : Nat} {P : Nat → Bool} (hi : i < mw) (h : ∀ j, j < i → P j = false) (hp : P i = true) : wof mw P = nI i := by
  have e1 : (List.range mw).find? P = some i := by
    rw [List.find?_range_eq_some]
    refine ⟨hp, by simpa using hi, fun j hj => by simp [h j hj]⟩
  rw [wof, e1]
theorem wof_no {mw : Nat} {P : Nat → Bool} (h : ∀ j, j < mw → P j = false) : wof mw P = -1 := by
  have e1 : (List.range mw).find? P = none := by
    rw [List.find?_eq_none]
    intro x hx
    simp [h x (by simpa using hx)]
  rw [wof, e1]
/-- which words a list has behind a merge -/
def cho (hw : Nat) (o q : Bool) : Bool := if hw = 0 then o || q else if hw = 1 then o && q else o && !q
set_option maxRecDepth 100000 in
theorem kX0_isLetter (l : Launch) (u : Int32) : rd l yX0_isLetter cX0_isLetter 1 (some .boolean) 0 0 [.int u] (fun _ => True) (nI (isL u).toNat) := by
  refine rd_ofW RX0 (by decide) rfl (Nat.le_of_ble_eq_true rfl) ?_
  intro p e s m below meth c S hr hlk hB ls hl
  have hl : lv_has ls 1 [(0, .int u)] := hl
  refine lv_iload_n S.1 S.2.1 dX0_isLetter_0 rfl (lv_at hl 0 rfl) ?_
  refine lv_bipush (v := (nI 97)) S.1 S.2.1 dX0_isLetter_1 (by decide) ?_
  refine lv_icmp_lt (tgt := 16) S.1 S.2.1 dX0_isLetter_3 (by decide) (fun h3 => ?_) (fun h3 => ?_)
  · refine lv_iconst (v := (nI 0)) S.1 S.2.1 dX0_isLetter_16 (by decide) ?_
    exact rd_ret S hr hlk (rfl) (by first | (simp only [isL, decide_eq_true (Int32.not_lt.mp h3), decide_eq_true (Int32.not_le.mp h9)]; rfl) | (simp only [isL, decide_eq_false (Int32.not_lt.mpr h9), Bool.and_false]; rfl) | (simp only [isL, decide_eq_false (Int32.not_le.mpr h3), Bool.false_and]; rfl)) dX0_isLetter_17
  · refine lv_iload_n S.1 S.2.1 dX0_isLetter_6 rfl (lv_at hl 0 rfl) ?_
    refine lv_bipush (v := (nI 123)) S.1 S.2.1 dX0_isLetter_7 (by decide) ?_
    refine lv_icmp_ge (tgt := 16) S.1 S.2.1 dX0_isLetter_9 (by decide) (fun h9 => ?_) (fun h9 => ?_)
    · refine lv_iconst (v := (nI 0)) S.1 S.2.1 dX0_isLetter_16 (by decide) ?_
      exact rd_ret S hr hlk (rfl) (by first | (simp only [isL, decide_eq_true (Int32.not_lt.mp h3), decide_eq_true (Int32.not_le.mp h9)]; rfl) | (simp only [isL, decide_eq_false (Int32.not_lt.mpr h9), Bool.and_false]; rfl) | (simp only [isL, decide_eq_false (Int32.not_le.mpr h3), Bool.false_and]; rfl)) dX0_isLetter_17
    · refine lv_iconst (v := (nI 1)) S.1 S.2.1 dX0_isLetter_12 (by decide) ?_
      refine lv_goto (tgt := 17) S.1 S.2.1 dX0_isLetter_13 (by decide) ?_
      exact rd_ret S hr hlk (rfl) (by first | (simp only [isL, decide_eq_true (Int32.not_lt.mp h3), decide_eq_true (Int32.not_le.mp h9)]; rfl) | (simp only [isL, decide_eq_false (Int32.not_lt.mpr h9), Bool.and_false]; rfl) | (simp only [isL, decide_eq_false (Int32.not_le.mpr h3), Bool.false_and]; rfl)) dX0_isLetter_17

set_option maxRecDepth 100000 in
theorem kX0_foldedSign (l : Launch) (dC : Nat → ClassId) (dI : Nat → Nat → Nat) (cI cZ cJ : ClassId) (a : Nat → Nat) (n mw nf : Nat) (sg fo L le sc li ba ca st : Nat → Nat) (i : Nat) (hR : ivr n sg fo) (hi : i < n) : rd l yX0_foldedSign cX0_foldedSign 3 (some .int) 1 20 [.ref (a 0), .int (nI i)] (rB dC dI cI cZ cJ (vX cI cZ a n mw nf sg fo L le sc li ba ca st)) (nI (fsg sg fo i)) := by
  refine rd_ofW RX0 (by decide) rfl (Nat.le_of_ble_eq_true rfl) ?_
  intro p e s m below meth c S hr hlk hB ls hl
  obtain ⟨hP, hK⟩ := hB
  have hl : lv_has ls 3 [(0, .ref (a 0)), (1, .int (nI i))] := hl
  obtain ⟨hn, hsg, hfo, hv1, hv2⟩ := id hR
  refine lv_aload_n S.1 S.2.1 dX0_foldedSign_0 rfl (lv_at hl 0 rfl) ?_
  refine fX0_signs (v := .ref (a 1)) S hK hP rfl rfl dX0_foldedSign_1 ?_
  refine lv_iload_n S.1 S.2.1 dX0_foldedSign_4 rfl (lv_at hl 1 rfl) ?_
  refine n_iald S hK hP 1 0 rfl rfl dX0_foldedSign_5 (j := i) (by decide) (by omega) ?_
  have b5 := hsg i
  refine lv_istore_n (lv' := [(2, .int (nI (sg i))), (0, .ref (a 0)), (1, .int (nI i))]) S.1 S.2.1 dX0_foldedSign_6 rfl hl (by decide) rfl (fun ls hl => ?_)
  refine lv_iload_n S.1 S.2.1 dX0_foldedSign_7 rfl (lv_at hl 0 rfl) ?_
  refine rd_callS (As := [.int (nI (sg i))]) (rest := []) S (kX0_isLetter l ((nI (sg i)))) tr_blind (fun _ _ _ => trivial) gX0_48 hdX0_isLetter (by decide) hl.1 rfl (Nat.le_of_ble_eq_true rfl) dX0_foldedSign_8 ⟨Nat.zero_le _, Nat.zero_le _⟩ ?_
  rw [isL_n (by omega)]
  have h1 := hv1 i hi
  refine n_bif_eq (b := (decide (97 ≤ sg i) && decide (sg i < 123))) (tgt := 26) S dX0_foldedSign_11 (by decide) (fun h11 => ?_) (fun h11 => ?_)
  · refine lv_bipush (v := (nI 63)) S.1 S.2.1 dX0_foldedSign_26 (by decide) ?_
    exact rd_ret S hr hlk (rfl) (by first | (have h2 : 97 ≤ sg i := by (simp only [Bool.and_eq_true, decide_eq_true_eq] at h11; exact h11.1)); rw [fsg, if_neg (by omega)] | (rw [fsg, if_pos]; simp only [Bool.and_eq_false_iff, decide_eq_false_iff_not] at h11; omega)) dX0_foldedSign_28
  · refine lv_aload_n S.1 S.2.1 dX0_foldedSign_14 rfl (lv_at hl 1 rfl) ?_
    refine fX0_folding (v := .ref (a 2)) S hK hP rfl rfl dX0_foldedSign_15 ?_
    refine lv_iload_n S.1 S.2.1 dX0_foldedSign_18 rfl (lv_at hl 0 rfl) ?_
    have h2 : 97 ≤ sg i := by simp only [Bool.and_eq_true, decide_eq_true_eq] at h11; exact h11.1
    refine lv_bipush (v := (nI 97)) S.1 S.2.1 dX0_foldedSign_19 (by decide) ?_
    refine n_isub (x := sg i) (y := 97) S dX0_foldedSign_21 (by omega) ?_
    refine n_iald S hK hP 2 0 rfl rfl dX0_foldedSign_22 (j := (sg i) - 97) (by decide) (by omega) ?_
    have b22 := hfo ((sg i) - 97)
    refine lv_goto (tgt := 28) S.1 S.2.1 dX0_foldedSign_23 (by decide) ?_
    exact rd_ret S hr hlk (rfl) (by first | (have h2 : 97 ≤ sg i := by (simp only [Bool.and_eq_true, decide_eq_true_eq] at h11; exact h11.1)); rw [fsg, if_neg (by omega)] | (rw [fsg, if_pos]; simp only [Bool.and_eq_false_iff, decide_eq_false_iff_not] at h11; omega)) dX0_foldedSign_28

set_option maxRecDepth 100000 in
theorem kX0_letterOrNone (l : Launch) (dC : Nat → ClassId) (dI : Nat → Nat → Nat) (cI cZ cJ : ClassId) (a : Nat → Nat) (n mw nf : Nat) (sg fo L le sc li ba ca st : Nat → Nat) (w : Nat) (x : Int32) (hI : iv n mw nf sg fo L le sc li ba ca) (hw : w < 250) : rd l yX0_letterOrNone cX0_letterOrNone 3 (some .int) 0 0 [.ref (a 0), .int (nI w), .int x] (rB dC dI cI cZ cJ (vX cI cZ a n mw nf sg fo L le sc li ba ca st)) (lon L le w x) := by
  refine rd_ofW RX0 (by decide) rfl (Nat.le_of_ble_eq_true rfl) ?_
  intro p e s m below meth c S hr hlk hB ls hl
  obtain ⟨hP, hK⟩ := hB
  have hl : lv_has ls 3 [(0, .ref (a 0)), (1, .int (nI w)), (2, .int x)] := hl
  obtain ⟨⟨hn, hm, hf⟩, ⟨hsg, hfo, hL, hle, hsc, hli, hba, hca⟩, hv1, hv2, hv3, hv4, hv5, hv6, hv7⟩ := id hI
  refine lv_iload_n S.1 S.2.1 dX0_letterOrNone_0 rfl (lv_at hl 2 rfl) ?_
  refine lv_if_lt (tgt := 14) S.1 S.2.1 dX0_letterOrNone_1 (by decide) (fun h1 => ?_) (fun h1 => ?_)
  · refine lv_iconst (v := -1) S.1 S.2.1 dX0_letterOrNone_14 (by decide) ?_
    exact rd_ret S hr hlk (rfl) (by rw [lon, if_pos (by first | exact Or.inr (Int32.not_lt.mp h11) | exact Or.inl h1)]) dX0_letterOrNone_15
  · refine lv_iload_n S.1 S.2.1 dX0_letterOrNone_4 rfl (lv_at hl 2 rfl) ?_
    refine lv_aload_n S.1 S.2.1 dX0_letterOrNone_5 rfl (lv_at hl 0 rfl) ?_
    refine fX0_wordLengths (v := .ref (a 4)) S hK hP rfl rfl dX0_letterOrNone_6 ?_
    refine lv_iload_n S.1 S.2.1 dX0_letterOrNone_9 rfl (lv_at hl 1 rfl) ?_
    refine n_iald S hK hP 4 0 rfl rfl dX0_letterOrNone_10 (j := w) (by decide) (by omega) ?_
    have b10 := hle w
    refine lv_icmp_lt (tgt := 16) S.1 S.2.1 dX0_letterOrNone_11 (by decide) (fun h11 => ?_) (fun h11 => ?_)
    · obtain ⟨j, hj, rfl⟩ := nI_of h1
      have h2 : j < le w := (nI_ltI hj (by omega)).mp h11
      refine lv_aload_n S.1 S.2.1 dX0_letterOrNone_16 rfl (lv_at hl 0 rfl) ?_
      refine fX0_wordLetters (v := .ref (a 3)) S hK hP rfl rfl dX0_letterOrNone_17 ?_
      refine lv_iload_n S.1 S.2.1 dX0_letterOrNone_20 rfl (lv_at hl 1 rfl) ?_
      refine lv_bipush (v := (nI 15)) S.1 S.2.1 dX0_letterOrNone_21 (by decide) ?_
      refine n_imul (x := w) (y := 15) S dX0_letterOrNone_23 ?_
      refine lv_iload_n S.1 S.2.1 dX0_letterOrNone_24 rfl (lv_at hl 2 rfl) ?_
      refine n_iadd (x := w * 15) (y := j) S dX0_letterOrNone_25 ?_
      refine n_iald S hK hP 3 0 rfl rfl dX0_letterOrNone_26 (j := w * 15 + j) (by decide) (by omega) ?_
      have b26 := hL (w * 15 + j)
      exact rd_ret S hr hlk (rfl) (by rw [lon_in h2 (hle w), Nat.mul_comm w 15]) dX0_letterOrNone_27
    · refine lv_iconst (v := -1) S.1 S.2.1 dX0_letterOrNone_14 (by decide) ?_
      exact rd_ret S hr hlk (rfl) (by rw [lon, if_pos (by first | exact Or.inr (Int32.not_lt.mp h11) | exact Or.inl h1)]) dX0_letterOrNone_15

set_option maxRecDepth 100000 in
theorem lX0_hasRowAt_23 (l : Launch) (dC : Nat → ClassId) (dI : Nat → Nat → Nat) (cI cZ cJ : ClassId) (a : Nat → Nat) (n mw nf : Nat) (sg fo L le sc li ba ca st : Nat → Nat) (w : Nat) (f : Nat) (hI : iv n mw nf sg fo L le sc li ba ca) (hw : w < mw) (hf0 : f ≤ 15)  {p : Program} {e : Env} {s : State} {m : MethodId} {below : List Frame} {meth : Method} {c : Code} (S : CallFix p m c cX0_hasRowAt 5 s ([.ref (a 0), .int (nI w), .int (nI f)] : List Value).toArray tbG RX0) (hr : meth.sig.returnType = (some .boolean)) (hlk : meth.locks = false) (hK : va_K (dC, dI) vcl (vty cI cZ cJ) s) (hP : va_P (dC, dI) vcl (vX cI cZ a n mw nf sg fo L le sc li ba ca st) s.heap) :
    ∀ (fuel : Nat) (i : Nat), n - i < fuel → f + n ≤ le w → i ≤ n → (∀ j, j < i → fsg sg fo j = 63 ∨ fsg sg fo j = L (15 * w + (f + j))) → ∀ ls : Array Slot, lv_has ls 5 [(0, .ref (a 0)), (1, .int (nI w)), (2, .int (nI f)), (3, .int (nI i))] → W p l e ({ frames := 2, cells := 0, slots := 0, locals := 42 } : Room) s m ([.ref (a 0), .int (nI w), .int (nI f)] : List Value).toArray below meth c s.heap [] 0 0 (MQ below (QcRead (nI ((decide (f + n ≤ le w) && mat n sg fo L w f)).toNat)) [.ref (a 0), .int (nI w), .int (nI f)].toArray s 0 0 (fun _ => False)) (F0 m 23 ls []) := by
  obtain ⟨⟨hn, hm, hf⟩, ⟨hsg, hfo, hL, hle, hsc, hli, hba, hca⟩, hv1, hv2, hv3, hv4, hv5, hv6, hv7⟩ := id hI
  intro fuel
  induction fuel with
  | zero =>
    intro i hq
    exact absurd hq (Nat.not_lt_zero _)
  | succ fuel ih =>
    intro i hq h16 hi hq1 ls hl
    have hlew := hle w
    refine lv_iload_n S.1 S.2.1 dX0_hasRowAt_23 rfl (lv_at hl 3 rfl) ?_
    refine lv_aload_n S.1 S.2.1 dX0_hasRowAt_24 rfl (lv_at hl 0 rfl) ?_
    refine fX0_signCount (v := .int (nI n)) S hK hP rfl rfl dX0_hasRowAt_25 ?_
    refine n_icmp_ge (x := i) (y := n) (tgt := 66) S dX0_hasRowAt_28 (by decide) (by omega) (by omega) (fun h28 => ?_) (fun h28 => ?_)
    · refine lv_iconst (v := (nI 1)) S.1 S.2.1 dX0_hasRowAt_66 (by decide) ?_
      exact rd_ret S hr hlk (rfl) (by rw [decide_eq_true h16, mat, decide_eq_true (fun j hj => hq1 j (by omega))]; rfl) dX0_hasRowAt_67
    · refine lv_aload_n S.1 S.2.1 dX0_hasRowAt_31 rfl (lv_at hl 0 rfl) ?_
      refine lv_iload_n S.1 S.2.1 dX0_hasRowAt_32 rfl (lv_at hl 3 rfl) ?_
      refine rd_callV (C := RX0) (As := [.int (nI i)]) (rest := []) S (kX0_foldedSign l dC dI cI cZ cJ a n mw nf sg fo L le sc li ba ca st i (iv_r hI) (by omega)) rB_blind (fun U hU hW => ⟨by rw [hU]; exact hP, va_K.moved hW.alike hK⟩) (va_recv hK hP (ci := 0) (q0 := 0) rfl rfl) gX0_127 hdX0_foldedSign (by decide) hl.1 rfl (Nat.le_of_ble_eq_true rfl) dX0_hasRowAt_33 ⟨Nat.zero_le _, Nat.zero_le _⟩ ?_
      have b33 := fsg_le hI i
      refine lv_istore (lv' := [(4, .int (nI (fsg sg fo i))), (0, .ref (a 0)), (1, .int (nI w)), (2, .int (nI f)), (3, .int (nI i))]) S.1 S.2.1 dX0_hasRowAt_36 hl (by decide) rfl (fun ls hl => ?_)
      refine lv_iload S.1 S.2.1 dX0_hasRowAt_38 (lv_at hl 0 rfl) ?_
      refine lv_bipush (v := (nI 63)) S.1 S.2.1 dX0_hasRowAt_40 (by decide) ?_
      refine n_icmp_eq (x := fsg sg fo i) (y := 63) (tgt := 60) S dX0_hasRowAt_42 (by decide) (by omega) (by omega) (fun h42 => ?_) (fun h42 => ?_)
      · refine n_iinc (lv' := [(3, .int (nI (i + 1))), (4, .int (nI (fsg sg fo i))), (0, .ref (a 0)), (1, .int (nI w)), (2, .int (nI f))]) (x := i) (k := 4) S dX0_hasRowAt_60 hl rfl (by decide) rfl (fun ls hl => ?_)
        refine lv_goto (tgt := 23) S.1 S.2.1 dX0_hasRowAt_63 (by decide) ?_
        exact ih (i + 1) (by omega) h16 (by omega) (lt_s hq1 (by omega)) ls (lv_sub hl [2, 3, 4, 0] rfl)
      · refine lv_iload S.1 S.2.1 dX0_hasRowAt_45 (lv_at hl 0 rfl) ?_
        refine lv_aload_n S.1 S.2.1 dX0_hasRowAt_47 rfl (lv_at hl 1 rfl) ?_
        refine lv_iload_n S.1 S.2.1 dX0_hasRowAt_48 rfl (lv_at hl 2 rfl) ?_
        refine lv_iload_n S.1 S.2.1 dX0_hasRowAt_49 rfl (lv_at hl 3 rfl) ?_
        refine lv_iload_n S.1 S.2.1 dX0_hasRowAt_50 rfl (lv_at hl 4 rfl) ?_
        refine n_iadd (x := f) (y := i) S dX0_hasRowAt_51 ?_
        refine rd_callV (C := RX0) (As := [.int (nI w), .int (nI (f + i))]) (rest := [.int (nI (fsg sg fo i))]) S (kX0_letterOrNone l dC dI cI cZ cJ a n mw nf sg fo L le sc li ba ca st w (nI (f + i)) hI (by omega)) rB_blind (fun U hU hW => ⟨by rw [hU]; exact hP, va_K.moved hW.alike hK⟩) (va_recv hK hP (ci := 0) (q0 := 0) rfl rfl) gX0_100 hdX0_letterOrNone (by decide) hl.1 rfl (Nat.le_of_ble_eq_true rfl) dX0_hasRowAt_52 ⟨Nat.zero_le _, Nat.zero_le _⟩ ?_
        rw [lon_in (by omega) (hle w)]
        have b52 := hL (15 * w + (f + i))
        refine n_icmp_eq (x := fsg sg fo i) (y := L (15 * w + (f + i))) (tgt := 60) S dX0_hasRowAt_55 (by decide) (by omega) (by omega) (fun h55 => ?_) (fun h55 => ?_)
        · refine n_iinc (lv' := [(3, .int (nI (i + 1))), (4, .int (nI (fsg sg fo i))), (0, .ref (a 0)), (1, .int (nI w)), (2, .int (nI f))]) (x := i) (k := 4) S dX0_hasRowAt_60 hl rfl (by decide) rfl (fun ls hl => ?_)
          refine lv_goto (tgt := 23) S.1 S.2.1 dX0_hasRowAt_63 (by decide) ?_
          exact ih (i + 1) (by omega) h16 (by omega) (lt_s hq1 (by omega)) ls (lv_sub hl [2, 3, 4, 0] rfl)
        · refine lv_iconst (v := (nI 0)) S.1 S.2.1 dX0_hasRowAt_58 (by decide) ?_
          exact rd_ret S hr hlk (rfl) (by rw [decide_eq_true h16, mat, decide_eq_false (fun q => by have := q i (by omega); omega)]; rfl) dX0_hasRowAt_59
set_option maxRecDepth 100000 in
theorem kX0_hasRowAt (l : Launch) (dC : Nat → ClassId) (dI : Nat → Nat → Nat) (cI cZ cJ : ClassId) (a : Nat → Nat) (n mw nf : Nat) (sg fo L le sc li ba ca st : Nat → Nat) (w : Nat) (f : Nat) (hI : iv n mw nf sg fo L le sc li ba ca) (hw : w < mw) (hf0 : f ≤ 15) : rd l yX0_hasRowAt cX0_hasRowAt 5 (some .boolean) 2 42 [.ref (a 0), .int (nI w), .int (nI f)] (rB dC dI cI cZ cJ (vX cI cZ a n mw nf sg fo L le sc li ba ca st)) (nI ((decide (f + n ≤ le w) && mat n sg fo L w f)).toNat) := by
  refine rd_ofW RX0 (by decide) rfl (Nat.le_of_ble_eq_true rfl) ?_
  intro p e s m below meth c S hr hlk hB ls hl
  obtain ⟨hP, hK⟩ := hB
  have hl : lv_has ls 5 [(0, .ref (a 0)), (1, .int (nI w)), (2, .int (nI f))] := hl
  obtain ⟨⟨hn, hm, hf⟩, ⟨hsg, hfo, hL, hle, hsc, hli, hba, hca⟩, hv1, hv2, hv3, hv4, hv5, hv6, hv7⟩ := id hI
  refine lv_iload_n S.1 S.2.1 dX0_hasRowAt_0 rfl (lv_at hl 2 rfl) ?_
  refine n_if_lt (x := f) (tgt := 19) S dX0_hasRowAt_1 (by decide) (by omega) ?_
  refine lv_iload_n S.1 S.2.1 dX0_hasRowAt_4 rfl (lv_at hl 2 rfl) ?_
  refine lv_aload_n S.1 S.2.1 dX0_hasRowAt_5 rfl (lv_at hl 0 rfl) ?_
  refine fX0_signCount (v := .int (nI n)) S hK hP rfl rfl dX0_hasRowAt_6 ?_
  refine n_iadd (x := f) (y := n) S dX0_hasRowAt_9 ?_
  refine lv_aload_n S.1 S.2.1 dX0_hasRowAt_10 rfl (lv_at hl 0 rfl) ?_
  refine fX0_wordLengths (v := .ref (a 4)) S hK hP rfl rfl dX0_hasRowAt_11 ?_
  refine lv_iload_n S.1 S.2.1 dX0_hasRowAt_14 rfl (lv_at hl 1 rfl) ?_
  refine n_iald S hK hP 4 0 rfl rfl dX0_hasRowAt_15 (j := w) (by decide) (by omega) ?_
  have b15 := hle w
  refine n_icmp_le (x := f + n) (y := le w) (tgt := 21) S dX0_hasRowAt_16 (by decide) (by omega) (by omega) (fun h16 => ?_) (fun h16 => ?_)
  · refine lv_iconst (v := (nI 0)) S.1 S.2.1 dX0_hasRowAt_21 (by decide) ?_
    refine lv_istore_n (lv' := [(3, .int (nI 0)), (0, .ref (a 0)), (1, .int (nI w)), (2, .int (nI f))]) S.1 S.2.1 dX0_hasRowAt_22 rfl hl (by decide) rfl (fun ls hl => ?_)
    exact lX0_hasRowAt_23 l dC dI cI cZ cJ a n mw nf sg fo L le sc li ba ca st w f hI hw hf0 S hr hlk hK hP _ 0 (Nat.lt_succ_self _) h16 (by omega) (fun j hj => absurd hj (Nat.not_lt_zero j)) ls (lv_sub hl [1, 2, 3, 0] rfl)
  · refine lv_iconst (v := (nI 0)) S.1 S.2.1 dX0_hasRowAt_19 (by decide) ?_
    exact rd_ret S hr hlk (rfl) (by rw [decide_eq_false (by omega)]; rfl) dX0_hasRowAt_20

set_option maxRecDepth 100000 in
theorem kX0_hasRowAtN (l : Launch) (dC : Nat → ClassId) (dI : Nat → Nat → Nat) (cI cZ cJ : ClassId) (a : Nat → Nat) (n mw nf : Nat) (sg fo L le sc li ba ca st : Nat → Nat) (w : Nat) (x : Int32) (hI : iv n mw nf sg fo L le sc li ba ca) (hx : x < 0) : rd l yX0_hasRowAt cX0_hasRowAt 5 (some .boolean) 0 0 [.ref (a 0), .int (nI w), .int x] (rB dC dI cI cZ cJ (vX cI cZ a n mw nf sg fo L le sc li ba ca st)) (nI (0)) := by
  refine rd_ofW RX0 (by decide) rfl (Nat.le_of_ble_eq_true rfl) ?_
  intro p e s m below meth c S hr hlk hB ls hl
  obtain ⟨hP, hK⟩ := hB
  have hl : lv_has ls 5 [(0, .ref (a 0)), (1, .int (nI w)), (2, .int x)] := hl
  obtain ⟨⟨hn, hm, hf⟩, ⟨hsg, hfo, hL, hle, hsc, hli, hba, hca⟩, hv1, hv2, hv3, hv4, hv5, hv6, hv7⟩ := id hI
  refine lv_iload_n S.1 S.2.1 dX0_hasRowAt_0 rfl (lv_at hl 2 rfl) ?_
  refine lv_if_lt (tgt := 19) S.1 S.2.1 dX0_hasRowAt_1 (by decide) (fun h1 => ?_) (fun h1 => ?_)
  · refine lv_iconst (v := (nI 0)) S.1 S.2.1 dX0_hasRowAt_19 (by decide) ?_
    exact rd_ret S hr hlk (rfl) (rfl) dX0_hasRowAt_20
  · exact absurd hx h1

set_option maxRecDepth 100000 in
theorem kX0_fits (l : Launch) (dC : Nat → ClassId) (dI : Nat → Nat → Nat) (cI cZ cJ : ClassId) (a : Nat → Nat) (n mw nf : Nat) (sg fo L le sc li ba ca st : Nat → Nat) (w : Nat) (hI : iv n mw nf sg fo L le sc li ba ca) (hw : w < mw) : rd l yX0_fits cX0_fits 2 (some .boolean) 3 66 [.ref (a 0), .int (nI w)] (rB dC dI cI cZ cJ (vX cI cZ a n mw nf sg fo L le sc li ba ca st)) (nI (fit n sg fo L le w).toNat) := by
  refine rd_ofW RX0 (by decide) rfl (Nat.le_of_ble_eq_true rfl) ?_
  intro p e s m below meth c S hr hlk hB ls hl
  obtain ⟨hP, hK⟩ := hB
  have hl : lv_has ls 2 [(0, .ref (a 0)), (1, .int (nI w))] := hl
  obtain ⟨⟨hn, hm, hf⟩, ⟨hsg, hfo, hL, hle, hsc, hli, hba, hca⟩, hv1, hv2, hv3, hv4, hv5, hv6, hv7⟩ := id hI
  refine lv_aload_n S.1 S.2.1 dX0_fits_0 rfl (lv_at hl 0 rfl) ?_
  refine fX0_wordLengths (v := .ref (a 4)) S hK hP rfl rfl dX0_fits_1 ?_
  refine lv_iload_n S.1 S.2.1 dX0_fits_4 rfl (lv_at hl 1 rfl) ?_
  refine n_iald S hK hP 4 0 rfl rfl dX0_fits_5 (j := w) (by decide) (by omega) ?_
  have b5 := hle w
  refine lv_aload_n S.1 S.2.1 dX0_fits_6 rfl (lv_at hl 0 rfl) ?_
  refine fX0_signCount (v := .int (nI n)) S hK hP rfl rfl dX0_fits_7 ?_
  refine n_icmp_ne (x := le w) (y := n) (tgt := 26) S dX0_fits_10 (by decide) (by omega) (by omega) (fun h10 => ?_) (fun h10 => ?_)
  · refine lv_iconst (v := (nI 0)) S.1 S.2.1 dX0_fits_26 (by decide) ?_
    exact rd_ret S hr hlk (rfl) (by first | simp [fit, h10, h19] | simp [fit, h10]) dX0_fits_27
  · refine lv_aload_n S.1 S.2.1 dX0_fits_13 rfl (lv_at hl 0 rfl) ?_
    refine lv_iload_n S.1 S.2.1 dX0_fits_14 rfl (lv_at hl 1 rfl) ?_
    refine lv_iconst (v := (nI 0)) S.1 S.2.1 dX0_fits_15 (by decide) ?_
    refine rd_callV (C := RX0) (As := [.int (nI w), .int (nI 0)]) (rest := []) S (kX0_hasRowAt l dC dI cI cZ cJ a n mw nf sg fo L le sc li ba ca st w 0 hI (by omega) (by omega)) rB_blind (fun U hU hW => ⟨by rw [hU]; exact hP, va_K.moved hW.alike hK⟩) (va_recv hK hP (ci := 0) (q0 := 0) rfl rfl) gX0_103 hdX0_hasRowAt (by decide) hl.1 rfl (Nat.le_of_ble_eq_true rfl) dX0_fits_16 ⟨Nat.zero_le _, Nat.zero_le _⟩ ?_
    rw [show decide (0 + n ≤ le w) = true from decide_eq_true (by omega), Bool.true_and]
    refine n_bif_eq (b := mat n sg fo L w 0) (tgt := 26) S dX0_fits_19 (by decide) (fun h19 => ?_) (fun h19 => ?_)
    · refine lv_iconst (v := (nI 0)) S.1 S.2.1 dX0_fits_26 (by decide) ?_
      exact rd_ret S hr hlk (rfl) (by first | simp [fit, h10, h19] | simp [fit, h10]) dX0_fits_27
    · refine lv_iconst (v := (nI 1)) S.1 S.2.1 dX0_fits_22 (by decide) ?_
      refine lv_goto (tgt := 27) S.1 S.2.1 dX0_fits_23 (by decide) ?_
      exact rd_ret S hr hlk (rfl) (by first | simp [fit, h10, h19] | simp [fit, h10]) dX0_fits_27

set_option maxRecDepth 100000 in
theorem lX0_wordOfRow_2 (l : Launch) (dC : Nat → ClassId) (dI : Nat → Nat → Nat) (cI cZ cJ : ClassId) (a : Nat → Nat) (n mw nf : Nat) (sg fo L le sc li ba ca st : Nat → Nat) (hI : iv n mw nf sg fo L le sc li ba ca)  {p : Program} {e : Env} {s : State} {m : MethodId} {below : List Frame} {meth : Method} {c : Code} (S : CallFix p m c cX0_wordOfRow 2 s ([.ref (a 0)] : List Value).toArray tbG RX0) (hr : meth.sig.returnType = (some .int)) (hlk : meth.locks = false) (hK : va_K (dC, dI) vcl (vty cI cZ cJ) s) (hP : va_P (dC, dI) vcl (vX cI cZ a n mw nf sg fo L le sc li ba ca st) s.heap) :
    ∀ (fuel : Nat) (i : Nat), mw - i < fuel → i ≤ mw → (∀ j, j < i → fit n sg fo L le j = false) → ∀ ls : Array Slot, lv_has ls 2 [(0, .ref (a 0)), (1, .int (nI i))] → W p l e ({ frames := 4, cells := 0, slots := 0, locals := 87 } : Room) s m ([.ref (a 0)] : List Value).toArray below meth c s.heap [] 0 0 (MQ below (QcRead (wof mw (fit n sg fo L le))) [.ref (a 0)].toArray s 0 0 (fun _ => False)) (F0 m 2 ls []) := by
  obtain ⟨⟨hn, hm, hf⟩, ⟨hsg, hfo, hL, hle, hsc, hli, hba, hca⟩, hv1, hv2, hv3, hv4, hv5, hv6, hv7⟩ := id hI
  intro fuel
  induction fuel with
  | zero =>
    intro i hq
    exact absurd hq (Nat.not_lt_zero _)
  | succ fuel ih =>
    intro i hq hi hq1 ls hl
    refine lv_iload_n S.1 S.2.1 dX0_wordOfRow_2 rfl (lv_at hl 1 rfl) ?_
    refine lv_aload_n S.1 S.2.1 dX0_wordOfRow_3 rfl (lv_at hl 0 rfl) ?_
    refine fX0_wordCount (v := .int (nI mw)) S hK hP rfl rfl dX0_wordOfRow_4 ?_
    refine n_icmp_ge (x := i) (y := mw) (tgt := 26) S dX0_wordOfRow_7 (by decide) (by omega) (by omega) (fun h7 => ?_) (fun h7 => ?_)
    · refine lv_iconst (v := -1) S.1 S.2.1 dX0_wordOfRow_26 (by decide) ?_
      exact rd_ret S hr hlk (rfl) ((wof_no (fun j hj => hq1 j (by omega))).symm) dX0_wordOfRow_27
    · refine lv_aload_n S.1 S.2.1 dX0_wordOfRow_10 rfl (lv_at hl 0 rfl) ?_
      refine lv_iload_n S.1 S.2.1 dX0_wordOfRow_11 rfl (lv_at hl 1 rfl) ?_
      refine rd_callV (C := RX0) (As := [.int (nI i)]) (rest := []) S (kX0_fits l dC dI cI cZ cJ a n mw nf sg fo L le sc li ba ca st i hI (by omega)) rB_blind (fun U hU hW => ⟨by rw [hU]; exact hP, va_K.moved hW.alike hK⟩) (va_recv hK hP (ci := 0) (q0 := 0) rfl rfl) gX0_76 hdX0_fits (by decide) hl.1 rfl (Nat.le_of_ble_eq_true rfl) dX0_wordOfRow_12 ⟨Nat.zero_le _, Nat.zero_le _⟩ ?_
      refine n_bif_eq (b := fit n sg fo L le i) (tgt := 20) S dX0_wordOfRow_15 (by decide) (fun h15 => ?_) (fun h15 => ?_)
      · refine n_iinc (lv' := [(1, .int (nI (i + 1))), (0, .ref (a 0))]) (x := i) (k := 1) S dX0_wordOfRow_20 hl rfl (by decide) rfl (fun ls hl => ?_)
        refine lv_goto (tgt := 2) S.1 S.2.1 dX0_wordOfRow_23 (by decide) ?_
        exact ih (i + 1) (by omega) (by omega) (lt_s hq1 h15) ls (lv_sub hl [1, 0] rfl)
      · refine lv_iload_n S.1 S.2.1 dX0_wordOfRow_18 rfl (lv_at hl 1 rfl) ?_
        exact rd_ret S hr hlk (rfl) ((wof_at (by omega) hq1 h15).symm) dX0_wordOfRow_19
set_option maxRecDepth 100000 in
theorem kX0_wordOfRow (l : Launch) (dC : Nat → ClassId) (dI : Nat → Nat → Nat) (cI cZ cJ : ClassId) (a : Nat → Nat) (n mw nf : Nat) (sg fo L le sc li ba ca st : Nat → Nat) (hI : iv n mw nf sg fo L le sc li ba ca) : rd l yX0_wordOfRow cX0_wordOfRow 2 (some .int) 4 87 [.ref (a 0)] (rB dC dI cI cZ cJ (vX cI cZ a n mw nf sg fo L le sc li ba ca st)) (wof mw (fit n sg fo L le)) := by
  refine rd_ofW RX0 (by decide) rfl (Nat.le_of_ble_eq_true rfl) ?_
  intro p e s m below meth c S hr hlk hB ls hl
  obtain ⟨hP, hK⟩ := hB
  have hl : lv_has ls 2 [(0, .ref (a 0))] := hl
  obtain ⟨⟨hn, hm, hf⟩, ⟨hsg, hfo, hL, hle, hsc, hli, hba, hca⟩, hv1, hv2, hv3, hv4, hv5, hv6, hv7⟩ := id hI
  refine lv_iconst (v := (nI 0)) S.1 S.2.1 dX0_wordOfRow_0 (by decide) ?_
  refine lv_istore_n (lv' := [(1, .int (nI 0)), (0, .ref (a 0))]) S.1 S.2.1 dX0_wordOfRow_1 rfl hl (by decide) rfl (fun ls hl => ?_)
  exact lX0_wordOfRow_2 l dC dI cI cZ cJ a n mw nf sg fo L le sc li ba ca st hI S hr hlk hK hP _ 0 (Nat.lt_succ_self _) (by omega) (fun j hj => absurd hj (Nat.not_lt_zero j)) ls (lv_sub hl [1, 0] rfl)

set_option maxRecDepth 100000 in
theorem lX0_rowHasBlank_2 (l : Launch) (dC : Nat → ClassId) (dI : Nat → Nat → Nat) (cI cZ cJ : ClassId) (a : Nat → Nat) (n mw nf : Nat) (sg fo L le sc li ba ca st : Nat → Nat) (hI : iv n mw nf sg fo L le sc li ba ca)  {p : Program} {e : Env} {s : State} {m : MethodId} {below : List Frame} {meth : Method} {c : Code} (S : CallFix p m c cX0_rowHasBlank 2 s ([.ref (a 0)] : List Value).toArray tbG RX0) (hr : meth.sig.returnType = (some .boolean)) (hlk : meth.locks = false) (hK : va_K (dC, dI) vcl (vty cI cZ cJ) s) (hP : va_P (dC, dI) vcl (vX cI cZ a n mw nf sg fo L le sc li ba ca st) s.heap) :
    ∀ (fuel : Nat) (i : Nat), n - i < fuel → i ≤ n → (∀ j, j < i → sg j ≠ 63) → ∀ ls : Array Slot, lv_has ls 2 [(0, .ref (a 0)), (1, .int (nI i))] → W p l e ({ frames := 0, cells := 0, slots := 0, locals := 0 } : Room) s m ([.ref (a 0)] : List Value).toArray below meth c s.heap [] 0 0 (MQ below (QcRead (nI (hbl n sg).toNat)) [.ref (a 0)].toArray s 0 0 (fun _ => False)) (F0 m 2 ls []) := by
  obtain ⟨⟨hn, hm, hf⟩, ⟨hsg, hfo, hL, hle, hsc, hli, hba, hca⟩, hv1, hv2, hv3, hv4, hv5, hv6, hv7⟩ := id hI
  intro fuel
  induction fuel with
  | zero =>
    intro i hq
    exact absurd hq (Nat.not_lt_zero _)
  | succ fuel ih =>
    intro i hq hi hq1 ls hl
    refine lv_iload_n S.1 S.2.1 dX0_rowHasBlank_2 rfl (lv_at hl 1 rfl) ?_
    refine lv_aload_n S.1 S.2.1 dX0_rowHasBlank_3 rfl (lv_at hl 0 rfl) ?_
    refine fX0_signCount (v := .int (nI n)) S hK hP rfl rfl dX0_rowHasBlank_4 ?_
    refine n_icmp_ge (x := i) (y := n) (tgt := 29) S dX0_rowHasBlank_7 (by decide) (by omega) (by omega) (fun h7 => ?_) (fun h7 => ?_)
    · refine lv_iconst (v := (nI 0)) S.1 S.2.1 dX0_rowHasBlank_29 (by decide) ?_
      exact rd_ret S hr hlk (rfl) (by rw [hbl, decide_eq_false (fun ⟨j, a, b⟩ => hq1 j (by omega) b)]; rfl) dX0_rowHasBlank_30
    · refine lv_aload_n S.1 S.2.1 dX0_rowHasBlank_10 rfl (lv_at hl 0 rfl) ?_
      refine fX0_signs (v := .ref (a 1)) S hK hP rfl rfl dX0_rowHasBlank_11 ?_
      refine lv_iload_n S.1 S.2.1 dX0_rowHasBlank_14 rfl (lv_at hl 1 rfl) ?_
      refine n_iald S hK hP 1 0 rfl rfl dX0_rowHasBlank_15 (j := i) (by decide) (by omega) ?_
      have b15 := hsg i
      refine lv_bipush (v := (nI 63)) S.1 S.2.1 dX0_rowHasBlank_16 (by decide) ?_
      refine n_icmp_ne (x := sg i) (y := 63) (tgt := 23) S dX0_rowHasBlank_18 (by decide) (by omega) (by omega) (fun h18 => ?_) (fun h18 => ?_)
      · refine n_iinc (lv' := [(1, .int (nI (i + 1))), (0, .ref (a 0))]) (x := i) (k := 1) S dX0_rowHasBlank_23 hl rfl (by decide) rfl (fun ls hl => ?_)
        refine lv_goto (tgt := 2) S.1 S.2.1 dX0_rowHasBlank_26 (by decide) ?_
        exact ih (i + 1) (by omega) (by omega) (lt_s hq1 h18) ls (lv_sub hl [1, 0] rfl)
      · refine lv_iconst (v := (nI 1)) S.1 S.2.1 dX0_rowHasBlank_21 (by decide) ?_
        exact rd_ret S hr hlk (rfl) (by rw [hbl, decide_eq_true ⟨i, by omega, h18⟩]; rfl) dX0_rowHasBlank_22
set_option maxRecDepth 100000 in
theorem kX0_rowHasBlank (l : Launch) (dC : Nat → ClassId) (dI : Nat → Nat → Nat) (cI cZ cJ : ClassId) (a : Nat → Nat) (n mw nf : Nat) (sg fo L le sc li ba ca st : Nat → Nat) (hI : iv n mw nf sg fo L le sc li ba ca) : rd l yX0_rowHasBlank cX0_rowHasBlank 2 (some .boolean) 0 0 [.ref (a 0)] (rB dC dI cI cZ cJ (vX cI cZ a n mw nf sg fo L le sc li ba ca st)) (nI (hbl n sg).toNat) := by
  refine rd_ofW RX0 (by decide) rfl (Nat.le_of_ble_eq_true rfl) ?_
  intro p e s m below meth c S hr hlk hB ls hl
  obtain ⟨hP, hK⟩ := hB
  have hl : lv_has ls 2 [(0, .ref (a 0))] := hl
  obtain ⟨⟨hn, hm, hf⟩, ⟨hsg, hfo, hL, hle, hsc, hli, hba, hca⟩, hv1, hv2, hv3, hv4, hv5, hv6, hv7⟩ := id hI
  refine lv_iconst (v := (nI 0)) S.1 S.2.1 dX0_rowHasBlank_0 (by decide) ?_
  refine lv_istore_n (lv' := [(1, .int (nI 0)), (0, .ref (a 0))]) S.1 S.2.1 dX0_rowHasBlank_1 rfl hl (by decide) rfl (fun ls hl => ?_)
  exact lX0_rowHasBlank_2 l dC dI cI cZ cJ a n mw nf sg fo L le sc li ba ca st hI S hr hlk hK hP _ 0 (Nat.lt_succ_self _) (by omega) (fun j hj => absurd hj (Nat.not_lt_zero j)) ls (lv_sub hl [1, 0] rfl)

set_option maxRecDepth 100000 in
theorem kX0_isOf (l : Launch) (dC : Nat → ClassId) (dI : Nat → Nat → Nat) (cI cZ cJ : ClassId) (a : Nat → Nat) (n mw nf : Nat) (sg fo L le sc li ba ca st : Nat → Nat) (w : Nat) (t : Nat) (hI : iv n mw nf sg fo L le sc li ba ca) (hw : w < 250) (ht : t < 4) : rd l yX0_isOf cX0_isOf 3 (some .boolean) 0 0 [.ref (a 0), .int (nI w), .int (nI t)] (rB dC dI cI cZ cJ (vX cI cZ a n mw nf sg fo L le sc li ba ca st)) (nI (inl li w t).toNat) := by
  refine rd_ofW RX0 (by decide) rfl (Nat.le_of_ble_eq_true rfl) ?_
  intro p e s m below meth c S hr hlk hB ls hl
  obtain ⟨hP, hK⟩ := hB
  have hl : lv_has ls 3 [(0, .ref (a 0)), (1, .int (nI w)), (2, .int (nI t))] := hl
  obtain ⟨⟨hn, hm, hf⟩, ⟨hsg, hfo, hL, hle, hsc, hli, hba, hca⟩, hv1, hv2, hv3, hv4, hv5, hv6, hv7⟩ := id hI
  refine lv_aload_n S.1 S.2.1 dX0_isOf_0 rfl (lv_at hl 0 rfl) ?_
  refine fX0_wordListBits (v := .ref (a 6)) S hK hP rfl rfl dX0_isOf_1 ?_
  refine lv_iload_n S.1 S.2.1 dX0_isOf_4 rfl (lv_at hl 1 rfl) ?_
  refine n_iald S hK hP 6 0 rfl rfl dX0_isOf_5 (j := w) (by decide) (by omega) ?_
  have b5 := hli w
  refine lv_iconst (v := (nI 1)) S.1 S.2.1 dX0_isOf_6 (by decide) ?_
  refine lv_iload_n S.1 S.2.1 dX0_isOf_7 rfl (lv_at hl 2 rfl) ?_
  refine lv_ishl S.1 S.2.1 dX0_isOf_8 ?_
  refine lv_iand S.1 S.2.1 dX0_isOf_9 ?_
  have hb := (tb_lt (li w) (by omega) t ht).1
  refine lv_if_eq (tgt := 17) S.1 S.2.1 dX0_isOf_10 (by decide) (fun h10 => ?_) (fun h10 => ?_)
  · refine lv_iconst (v := (nI 0)) S.1 S.2.1 dX0_isOf_17 (by decide) ?_
    exact rd_ret S hr hlk (rfl) (by first | (rw [inl, hb.mp h10]; rfl) | (rw [inl, show (li w).testBit t = true from by cases hc : (li w).testBit t with | false => exact absurd (hb.mpr hc) h10 | true => rfl]; rfl)) dX0_isOf_18
  · refine lv_iconst (v := (nI 1)) S.1 S.2.1 dX0_isOf_13 (by decide) ?_
    refine lv_goto (tgt := 18) S.1 S.2.1 dX0_isOf_14 (by decide) ?_
    exact rd_ret S hr hlk (rfl) (by first | (rw [inl, hb.mp h10]; rfl) | (rw [inl, show (li w).testBit t = true from by cases hc : (li w).testBit t with | false => exact absurd (hb.mpr hc) h10 | true => rfl]; rfl)) dX0_isOf_18

set_option maxRecDepth 100000 in
theorem kX0_isFreeIn (l : Launch) (dC : Nat → ClassId) (dI : Nat → Nat → Nat) (cI cZ cJ : ClassId) (a : Nat → Nat) (n mw nf : Nat) (sg fo L le sc li ba ca st : Nat → Nat) (w : Nat) (t : Nat) (hI : iv n mw nf sg fo L le sc li ba ca) (hw : w < 250) (ht : t < 4) : rd l yX0_isFreeIn cX0_isFreeIn 3 (some .boolean) 1 22 [.ref (a 0), .int (nI w), .int (nI t)] (rB dC dI cI cZ cJ (vX cI cZ a n mw nf sg fo L le sc li ba ca st)) (nI (fre li ba t w).toNat) := by
  refine rd_ofW RX0 (by decide) rfl (Nat.le_of_ble_eq_true rfl) ?_
  intro p e s m below meth c S hr hlk hB ls hl
  obtain ⟨hP, hK⟩ := hB
  have hl : lv_has ls 3 [(0, .ref (a 0)), (1, .int (nI w)), (2, .int (nI t))] := hl
  obtain ⟨⟨hn, hm, hf⟩, ⟨hsg, hfo, hL, hle, hsc, hli, hba, hca⟩, hv1, hv2, hv3, hv4, hv5, hv6, hv7⟩ := id hI
  refine lv_aload_n S.1 S.2.1 dX0_isFreeIn_0 rfl (lv_at hl 0 rfl) ?_
  refine lv_iload_n S.1 S.2.1 dX0_isFreeIn_1 rfl (lv_at hl 1 rfl) ?_
  refine lv_iload_n S.1 S.2.1 dX0_isFreeIn_2 rfl (lv_at hl 2 rfl) ?_
  refine rd_callV (C := RX0) (As := [.int (nI w), .int (nI t)]) (rest := []) S (kX0_isOf l dC dI cI cZ cJ a n mw nf sg fo L le sc li ba ca st w t hI (by omega) (by omega)) rB_blind (fun U hU hW => ⟨by rw [hU]; exact hP, va_K.moved hW.alike hK⟩) (va_recv hK hP (ci := 0) (q0 := 0) rfl rfl) gX0_79 hdX0_isOf (by decide) hl.1 rfl (Nat.le_of_ble_eq_true rfl) dX0_isFreeIn_3 ⟨Nat.zero_le _, Nat.zero_le _⟩ ?_
  refine n_bif_eq (b := inl li w t) (tgt := 22) S dX0_isFreeIn_6 (by decide) (fun h6 => ?_) (fun h6 => ?_)
  · refine lv_iconst (v := (nI 0)) S.1 S.2.1 dX0_isFreeIn_22 (by decide) ?_
    exact rd_ret S hr hlk (rfl) (by first | simp [fre, h6, h15] | simp [fre, h6]) dX0_isFreeIn_23
  · refine lv_aload_n S.1 S.2.1 dX0_isFreeIn_9 rfl (lv_at hl 0 rfl) ?_
    refine fX0_wordBarred (v := .ref (a 7)) S hK hP rfl rfl dX0_isFreeIn_10 ?_
    refine lv_iload_n S.1 S.2.1 dX0_isFreeIn_13 rfl (lv_at hl 1 rfl) ?_
    refine n_zald S hK hP 7 1 rfl rfl dX0_isFreeIn_14 (j := w) (by decide) (by omega) ?_
    have b14 := hba w
    refine n_if_ne (x := ba w) (tgt := 22) S dX0_isFreeIn_15 (by decide) (by omega) (fun h15 => ?_) (fun h15 => ?_)
    · refine lv_iconst (v := (nI 0)) S.1 S.2.1 dX0_isFreeIn_22 (by decide) ?_
      exact rd_ret S hr hlk (rfl) (by first | simp [fre, h6, h15] | simp [fre, h6]) dX0_isFreeIn_23
    · refine lv_iconst (v := (nI 1)) S.1 S.2.1 dX0_isFreeIn_18 (by decide) ?_
      refine lv_goto (tgt := 23) S.1 S.2.1 dX0_isFreeIn_19 (by decide) ?_
      exact rd_ret S hr hlk (rfl) (by first | simp [fre, h6, h15] | simp [fre, h6]) dX0_isFreeIn_23

set_option maxRecDepth 100000 in
theorem kX0_isChosen (l : Launch) (hw : Nat) (o : Bool) (q : Bool) (hh : hw < 3) : rd l yX0_isChosen cX0_isChosen 3 (some .boolean) 0 0 [.int (nI hw), .int (nI o.toNat), .int (nI q.toNat)] (fun _ => True) (nI (cho hw o q).toNat) := by
  refine rd_ofW RX0 (by decide) rfl (Nat.le_of_ble_eq_true rfl) ?_
  intro p e s m below meth c S hr hlk hB ls hl
  have hl : lv_has ls 3 [(0, .int (nI hw)), (1, .int (nI (o).toNat)), (2, .int (nI (q).toNat))] := hl
  refine lv_iload_n S.1 S.2.1 dX0_isChosen_0 rfl (lv_at hl 0 rfl) ?_
  refine n_if_ne (x := hw) (tgt := 18) S dX0_isChosen_1 (by decide) (by omega) (fun h1 => ?_) (fun h1 => ?_)
  · refine lv_iload_n S.1 S.2.1 dX0_isChosen_18 rfl (lv_at hl 0 rfl) ?_
    refine lv_iconst (v := (nI 1)) S.1 S.2.1 dX0_isChosen_19 (by decide) ?_
    refine n_icmp_ne (x := hw) (y := 1) (tgt := 37) S dX0_isChosen_20 (by decide) (by omega) (by omega) (fun h20 => ?_) (fun h20 => ?_)
    · refine lv_iload_n S.1 S.2.1 dX0_isChosen_37 rfl (lv_at hl 1 rfl) ?_
      refine n_bif_eq (b := o) (tgt := 49) S dX0_isChosen_38 (by decide) (fun h38 => ?_) (fun h38 => ?_)
      · refine lv_iconst (v := (nI 0)) S.1 S.2.1 dX0_isChosen_49 (by decide) ?_
        exact rd_ret S hr hlk (rfl) (by first | simp [cho, h1, h20, h38, h42] | simp [cho, h1, h20, h38]) dX0_isChosen_50
      · refine lv_iload_n S.1 S.2.1 dX0_isChosen_41 rfl (lv_at hl 2 rfl) ?_
        refine n_bif_ne (b := q) (tgt := 49) S dX0_isChosen_42 (by decide) (fun h42 => ?_) (fun h42 => ?_)
        · refine lv_iconst (v := (nI 0)) S.1 S.2.1 dX0_isChosen_49 (by decide) ?_
          exact rd_ret S hr hlk (rfl) (by first | simp [cho, h1, h20, h38, h42] | simp [cho, h1, h20, h38]) dX0_isChosen_50
        · refine lv_iconst (v := (nI 1)) S.1 S.2.1 dX0_isChosen_45 (by decide) ?_
          refine lv_goto (tgt := 50) S.1 S.2.1 dX0_isChosen_46 (by decide) ?_
          exact rd_ret S hr hlk (rfl) (by first | simp [cho, h1, h20, h38, h42] | simp [cho, h1, h20, h38]) dX0_isChosen_50
    · refine lv_iload_n S.1 S.2.1 dX0_isChosen_23 rfl (lv_at hl 1 rfl) ?_
      refine n_bif_eq (b := o) (tgt := 35) S dX0_isChosen_24 (by decide) (fun h24 => ?_) (fun h24 => ?_)
      · refine lv_iconst (v := (nI 0)) S.1 S.2.1 dX0_isChosen_35 (by decide) ?_
        exact rd_ret S hr hlk (rfl) (by first | simp [cho, h1, h20, h24, h28] | simp [cho, h1, h20, h24]) dX0_isChosen_36
      · refine lv_iload_n S.1 S.2.1 dX0_isChosen_27 rfl (lv_at hl 2 rfl) ?_
        refine n_bif_eq (b := q) (tgt := 35) S dX0_isChosen_28 (by decide) (fun h28 => ?_) (fun h28 => ?_)
        · refine lv_iconst (v := (nI 0)) S.1 S.2.1 dX0_isChosen_35 (by decide) ?_
          exact rd_ret S hr hlk (rfl) (by first | simp [cho, h1, h20, h24, h28] | simp [cho, h1, h20, h24]) dX0_isChosen_36
        · refine lv_iconst (v := (nI 1)) S.1 S.2.1 dX0_isChosen_31 (by decide) ?_
          refine lv_goto (tgt := 36) S.1 S.2.1 dX0_isChosen_32 (by decide) ?_
          exact rd_ret S hr hlk (rfl) (by first | simp [cho, h1, h20, h24, h28] | simp [cho, h1, h20, h24]) dX0_isChosen_36
  · refine lv_iload_n S.1 S.2.1 dX0_isChosen_4 rfl (lv_at hl 1 rfl) ?_
    refine n_bif_ne (b := o) (tgt := 12) S dX0_isChosen_5 (by decide) (fun h5 => ?_) (fun h5 => ?_)
    · refine lv_iconst (v := (nI 1)) S.1 S.2.1 dX0_isChosen_12 (by decide) ?_
      refine lv_goto (tgt := 17) S.1 S.2.1 dX0_isChosen_13 (by decide) ?_
      exact rd_ret S hr hlk (rfl) (by first | simp [cho, h1, h5, h9] | simp [cho, h1, h5]) dX0_isChosen_17
    · refine lv_iload_n S.1 S.2.1 dX0_isChosen_8 rfl (lv_at hl 2 rfl) ?_
      refine n_bif_eq (b := q) (tgt := 16) S dX0_isChosen_9 (by decide) (fun h9 => ?_) (fun h9 => ?_)
      · refine lv_iconst (v := (nI 0)) S.1 S.2.1 dX0_isChosen_16 (by decide) ?_
        exact rd_ret S hr hlk (rfl) (by first | simp [cho, h1, h5, h9] | simp [cho, h1, h5]) dX0_isChosen_17
      · refine lv_iconst (v := (nI 1)) S.1 S.2.1 dX0_isChosen_12 (by decide) ?_
        refine lv_goto (tgt := 17) S.1 S.2.1 dX0_isChosen_13 (by decide) ?_
        exact rd_ret S hr hlk (rfl) (by first | simp [cho, h1, h5, h9] | simp [cho, h1, h5]) dX0_isChosen_17
