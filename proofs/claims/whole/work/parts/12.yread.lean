/-! ===== the reference: its readers ===== -/
theorem lt123 {u : Int32} (h : u ≤ nI 122) : u < nI 123 := by
  have a := Int32.le_iff_toInt_le.mp h
  rw [show (nI 122).toInt = 122 by decide] at a
  rw [Int32.lt_iff_toInt_lt, show (nI 123).toInt = 123 by decide]
  omega
theorem le122 {u : Int32} (h : u < nI 123) : u ≤ nI 122 := by
  have a := Int32.lt_iff_toInt_lt.mp h
  rw [show (nI 123).toInt = 123 by decide] at a
  rw [Int32.le_iff_toInt_le, show (nI 122).toInt = 122 by decide]
  omega
def isW (mw : Nat) (u : Int32) : Bool := decide (nI 0 ≤ u) && decide (u < nI mw)
theorem isW_t {mw : Nat} {u : Int32} (hm : mw < 2 ^ 31) (h : isW mw u = true) : ∃ j : Nat, j < mw ∧ u = nI j := by
  simp only [isW, Bool.and_eq_true, decide_eq_true_eq] at h
  obtain ⟨j, hj, rfl⟩ := nI_of (Int32.not_lt.mpr (show (0 : Int32) ≤ u from h.1))
  exact ⟨j, (nI_ltI hj hm).mp h.2, rfl⟩
theorem isW_n {mw j : Nat} (hm : mw < 2 ^ 31) (h : j < mw) : isW mw (nI j) = true := by
  simp only [isW, Bool.and_eq_true, decide_eq_true_eq]
  exact ⟨nI_le (Nat.zero_le j) (by omega), nI_lt h hm⟩
theorem isLi_n {j : Nat} (h : j < 4) : isLi (nI j) = true := by
  simp only [isLi, Bool.and_eq_true, decide_eq_true_eq]
  exact ⟨nI_le (Nat.zero_le j) (by omega), nI_lt h (by decide)⟩
theorem isL_i {j : Nat} (h : 97 ≤ j ∧ j ≤ 122) : isL (nI j) = true := by
  rw [isL_n (by omega), decide_eq_true h.1, decide_eq_true (by omega)]; rfl
set_option maxRecDepth 100000 in
theorem kX1_thrown (l : Launch) (dC : Nat → ClassId) (dI : Nat → Nat → Nat) (cI cZ cJ : ClassId) (a : Nat → Nat) (th n mw nf : Nat) (sg fo L le sc li ba ca : Nat → Nat) (wa : Nat → Int32) : rd l yX1_thrown cX1_thrown 1 (some .int) 0 0 [.ref (a 0)] (rB dC dI cI cZ cJ (vY cI cZ a th n mw nf sg fo L le sc li ba ca wa)) (nI (th)) := by
  refine rd_ofW RX1 (by decide) rfl (Nat.le_of_ble_eq_true rfl) ?_
  intro p e s m below meth c S hr hlk hB ls hl
  obtain ⟨hP, hK⟩ := hB
  have hl : lv_has ls 1 [(0, .ref (a 0))] := hl
  refine lv_aload_n S.1 S.2.1 dX1_thrown_0 rfl (lv_at hl 0 rfl) ?_
  refine fX1_thrown (v := .int (nI th)) S hK hP rfl rfl dX1_thrown_1 ?_
  exact rd_ret S hr hlk (rfl) (rfl) dX1_thrown_4

set_option maxRecDepth 100000 in
theorem kX1_isLetter (l : Launch) (u : Int32) : rd l yX1_isLetter cX1_isLetter 1 (some .boolean) 0 0 [.int u] (fun _ => True) (nI (isL u).toNat) := by
  refine rd_ofW RX1 (by decide) rfl (Nat.le_of_ble_eq_true rfl) ?_
  intro p e s m below meth c S hr hlk hB ls hl
  have hl : lv_has ls 1 [(0, .int u)] := hl
  refine lv_iload_n S.1 S.2.1 dX1_isLetter_0 rfl (lv_at hl 0 rfl) ?_
  refine lv_bipush (v := (nI 97)) S.1 S.2.1 dX1_isLetter_1 (by decide) ?_
  refine lv_icmp_lt (tgt := 16) S.1 S.2.1 dX1_isLetter_3 (by decide) (fun h3 => ?_) (fun h3 => ?_)
  · refine lv_iconst (v := (nI 0)) S.1 S.2.1 dX1_isLetter_16 (by decide) ?_
    exact rd_ret S hr hlk (rfl) (by first | (simp only [isL, decide_eq_true (Int32.not_lt.mp h3), decide_eq_true (lt123 (Int32.not_lt.mp h9))]; rfl) | (simp only [isL, decide_eq_false (fun q => absurd h9 (Int32.not_lt.mpr (le122 q))), Bool.and_false]; rfl) | (simp only [isL, decide_eq_false (Int32.not_le.mpr h3), Bool.false_and]; rfl)) dX1_isLetter_17
  · refine lv_iload_n S.1 S.2.1 dX1_isLetter_6 rfl (lv_at hl 0 rfl) ?_
    refine lv_bipush (v := (nI 122)) S.1 S.2.1 dX1_isLetter_7 (by decide) ?_
    refine lv_icmp_gt (tgt := 16) S.1 S.2.1 dX1_isLetter_9 (by decide) (fun h9 => ?_) (fun h9 => ?_)
    · refine lv_iconst (v := (nI 0)) S.1 S.2.1 dX1_isLetter_16 (by decide) ?_
      exact rd_ret S hr hlk (rfl) (by first | (simp only [isL, decide_eq_true (Int32.not_lt.mp h3), decide_eq_true (lt123 (Int32.not_lt.mp h9))]; rfl) | (simp only [isL, decide_eq_false (fun q => absurd h9 (Int32.not_lt.mpr (le122 q))), Bool.and_false]; rfl) | (simp only [isL, decide_eq_false (Int32.not_le.mpr h3), Bool.false_and]; rfl)) dX1_isLetter_17
    · refine lv_iconst (v := (nI 1)) S.1 S.2.1 dX1_isLetter_12 (by decide) ?_
      refine lv_goto (tgt := 17) S.1 S.2.1 dX1_isLetter_13 (by decide) ?_
      exact rd_ret S hr hlk (rfl) (by first | (simp only [isL, decide_eq_true (Int32.not_lt.mp h3), decide_eq_true (lt123 (Int32.not_lt.mp h9))]; rfl) | (simp only [isL, decide_eq_false (fun q => absurd h9 (Int32.not_lt.mpr (le122 q))), Bool.and_false]; rfl) | (simp only [isL, decide_eq_false (Int32.not_le.mpr h3), Bool.false_and]; rfl)) dX1_isLetter_17

set_option maxRecDepth 100000 in
theorem kX1_isList (l : Launch) (u : Int32) : rd l yX1_isList cX1_isList 1 (some .boolean) 0 0 [.int u] (fun _ => True) (nI (isLi u).toNat) := by
  refine rd_ofW RX1 (by decide) rfl (Nat.le_of_ble_eq_true rfl) ?_
  intro p e s m below meth c S hr hlk hB ls hl
  have hl : lv_has ls 1 [(0, .int u)] := hl
  refine lv_iload_n S.1 S.2.1 dX1_isList_0 rfl (lv_at hl 0 rfl) ?_
  refine lv_if_lt (tgt := 13) S.1 S.2.1 dX1_isList_1 (by decide) (fun h1 => ?_) (fun h1 => ?_)
  · refine lv_iconst (v := (nI 0)) S.1 S.2.1 dX1_isList_13 (by decide) ?_
    exact rd_ret S hr hlk (rfl) (by first | (simp only [isLi, decide_eq_true (show nI 0 ≤ u from Int32.not_lt.mp h1), decide_eq_true (Int32.not_le.mp h6)]; rfl) | (simp only [isLi, decide_eq_false (Int32.not_lt.mpr h6), Bool.and_false]; rfl) | (simp only [isLi, decide_eq_false (show ¬ nI 0 ≤ u from Int32.not_le.mpr h1), Bool.false_and]; rfl)) dX1_isList_14
  · refine lv_iload_n S.1 S.2.1 dX1_isList_4 rfl (lv_at hl 0 rfl) ?_
    refine lv_iconst (v := (nI 4)) S.1 S.2.1 dX1_isList_5 (by decide) ?_
    refine lv_icmp_ge (tgt := 13) S.1 S.2.1 dX1_isList_6 (by decide) (fun h6 => ?_) (fun h6 => ?_)
    · refine lv_iconst (v := (nI 0)) S.1 S.2.1 dX1_isList_13 (by decide) ?_
      exact rd_ret S hr hlk (rfl) (by first | (simp only [isLi, decide_eq_true (show nI 0 ≤ u from Int32.not_lt.mp h1), decide_eq_true (Int32.not_le.mp h6)]; rfl) | (simp only [isLi, decide_eq_false (Int32.not_lt.mpr h6), Bool.and_false]; rfl) | (simp only [isLi, decide_eq_false (show ¬ nI 0 ≤ u from Int32.not_le.mpr h1), Bool.false_and]; rfl)) dX1_isList_14
    · refine lv_iconst (v := (nI 1)) S.1 S.2.1 dX1_isList_9 (by decide) ?_
      refine lv_goto (tgt := 14) S.1 S.2.1 dX1_isList_10 (by decide) ?_
      exact rd_ret S hr hlk (rfl) (by first | (simp only [isLi, decide_eq_true (show nI 0 ≤ u from Int32.not_lt.mp h1), decide_eq_true (Int32.not_le.mp h6)]; rfl) | (simp only [isLi, decide_eq_false (Int32.not_lt.mpr h6), Bool.and_false]; rfl) | (simp only [isLi, decide_eq_false (show ¬ nI 0 ≤ u from Int32.not_le.mpr h1), Bool.false_and]; rfl)) dX1_isList_14

set_option maxRecDepth 100000 in
theorem kX1_isWord (l : Launch) (dC : Nat → ClassId) (dI : Nat → Nat → Nat) (cI cZ cJ : ClassId) (a : Nat → Nat) (th n mw nf : Nat) (sg fo L le sc li ba ca : Nat → Nat) (wa : Nat → Int32) (u : Int32) : rd l yX1_isWord cX1_isWord 2 (some .boolean) 0 0 [.ref (a 0), .int u] (rB dC dI cI cZ cJ (vY cI cZ a th n mw nf sg fo L le sc li ba ca wa)) (nI (isW mw u).toNat) := by
  refine rd_ofW RX1 (by decide) rfl (Nat.le_of_ble_eq_true rfl) ?_
  intro p e s m below meth c S hr hlk hB ls hl
  obtain ⟨hP, hK⟩ := hB
  have hl : lv_has ls 2 [(0, .ref (a 0)), (1, .int u)] := hl
  refine lv_iload_n S.1 S.2.1 dX1_isWord_0 rfl (lv_at hl 1 rfl) ?_
  refine lv_if_lt (tgt := 16) S.1 S.2.1 dX1_isWord_1 (by decide) (fun h1 => ?_) (fun h1 => ?_)
  · refine lv_iconst (v := (nI 0)) S.1 S.2.1 dX1_isWord_16 (by decide) ?_
    exact rd_ret S hr hlk (rfl) (by first | (simp only [isW, decide_eq_true (show nI 0 ≤ u from Int32.not_lt.mp h1), decide_eq_true (Int32.not_le.mp h9)]; rfl) | (simp only [isW, decide_eq_false (Int32.not_lt.mpr h9), Bool.and_false]; rfl) | (simp only [isW, decide_eq_false (show ¬ nI 0 ≤ u from Int32.not_le.mpr h1), Bool.false_and]; rfl)) dX1_isWord_17
  · refine lv_iload_n S.1 S.2.1 dX1_isWord_4 rfl (lv_at hl 1 rfl) ?_
    refine lv_aload_n S.1 S.2.1 dX1_isWord_5 rfl (lv_at hl 0 rfl) ?_
    refine fX1_many (v := .int (nI mw)) S hK hP rfl rfl dX1_isWord_6 ?_
    refine lv_icmp_ge (tgt := 16) S.1 S.2.1 dX1_isWord_9 (by decide) (fun h9 => ?_) (fun h9 => ?_)
    · refine lv_iconst (v := (nI 0)) S.1 S.2.1 dX1_isWord_16 (by decide) ?_
      exact rd_ret S hr hlk (rfl) (by first | (simp only [isW, decide_eq_true (show nI 0 ≤ u from Int32.not_lt.mp h1), decide_eq_true (Int32.not_le.mp h9)]; rfl) | (simp only [isW, decide_eq_false (Int32.not_lt.mpr h9), Bool.and_false]; rfl) | (simp only [isW, decide_eq_false (show ¬ nI 0 ≤ u from Int32.not_le.mpr h1), Bool.false_and]; rfl)) dX1_isWord_17
    · refine lv_iconst (v := (nI 1)) S.1 S.2.1 dX1_isWord_12 (by decide) ?_
      refine lv_goto (tgt := 17) S.1 S.2.1 dX1_isWord_13 (by decide) ?_
      exact rd_ret S hr hlk (rfl) (by first | (simp only [isW, decide_eq_true (show nI 0 ≤ u from Int32.not_lt.mp h1), decide_eq_true (Int32.not_le.mp h9)]; rfl) | (simp only [isW, decide_eq_false (Int32.not_lt.mpr h9), Bool.and_false]; rfl) | (simp only [isW, decide_eq_false (show ¬ nI 0 ≤ u from Int32.not_le.mpr h1), Bool.false_and]; rfl)) dX1_isWord_17

set_option maxRecDepth 100000 in
theorem kX1_signAt (l : Launch) (dC : Nat → ClassId) (dI : Nat → Nat → Nat) (cI cZ cJ : ClassId) (a : Nat → Nat) (th n mw nf : Nat) (sg fo L le sc li ba ca : Nat → Nat) (wa : Nat → Int32) (i : Nat) (hR : ivr n sg fo) (hi : i < n) : rd l yX1_signAt cX1_signAt 2 (some .int) 0 0 [.ref (a 0), .int (nI i)] (rB dC dI cI cZ cJ (vY cI cZ a th n mw nf sg fo L le sc li ba ca wa)) (nI (fsg sg fo i)) := by
  refine rd_ofW RX1 (by decide) rfl (Nat.le_of_ble_eq_true rfl) ?_
  intro p e s m below meth c S hr hlk hB ls hl
  obtain ⟨hP, hK⟩ := hB
  have hl : lv_has ls 2 [(0, .ref (a 0)), (1, .int (nI i))] := hl
  obtain ⟨hn, hsg, hfo, hv1, hv2⟩ := id hR
  refine lv_aload_n S.1 S.2.1 dX1_signAt_0 rfl (lv_at hl 0 rfl) ?_
  refine fX1_row (v := .ref (a 1)) S hK hP rfl rfl dX1_signAt_1 ?_
  refine lv_iload_n S.1 S.2.1 dX1_signAt_4 rfl (lv_at hl 1 rfl) ?_
  refine n_iald S hK hP 1 0 rfl rfl dX1_signAt_5 (j := i) (by decide) (by omega) ?_
  have b5 := hsg i
  refine lv_bipush (v := (nI 63)) S.1 S.2.1 dX1_signAt_6 (by decide) ?_
  refine n_icmp_ne (x := sg i) (y := 63) (tgt := 16) S dX1_signAt_8 (by decide) (by omega) (by omega) (fun h8 => ?_) (fun h8 => ?_)
  · refine lv_aload_n S.1 S.2.1 dX1_signAt_16 rfl (lv_at hl 0 rfl) ?_
    refine fX1_folds (v := .ref (a 2)) S hK hP rfl rfl dX1_signAt_17 ?_
    refine lv_aload_n S.1 S.2.1 dX1_signAt_20 rfl (lv_at hl 0 rfl) ?_
    refine fX1_row (v := .ref (a 1)) S hK hP rfl rfl dX1_signAt_21 ?_
    refine lv_iload_n S.1 S.2.1 dX1_signAt_24 rfl (lv_at hl 1 rfl) ?_
    refine n_iald S hK hP 1 0 rfl rfl dX1_signAt_25 (j := i) (by decide) (by omega) ?_
    have b25 := hsg i
    refine lv_bipush (v := (nI 97)) S.1 S.2.1 dX1_signAt_26 (by decide) ?_
    have h1 := hv1 i hi
    refine n_isub (x := sg i) (y := 97) S dX1_signAt_28 (by omega) ?_
    refine n_iald S hK hP 2 0 rfl rfl dX1_signAt_29 (j := (sg i) - 97) (by decide) (by omega) ?_
    have b29 := hfo ((sg i) - 97)
    exact rd_ret S hr hlk (rfl) (by first | (rw [fsg, if_pos h8]; done) | (rw [fsg, if_neg h8]; done)) dX1_signAt_30
  · refine lv_bipush (v := (nI 63)) S.1 S.2.1 dX1_signAt_11 (by decide) ?_
    refine lv_goto (tgt := 30) S.1 S.2.1 dX1_signAt_13 (by decide) ?_
    exact rd_ret S hr hlk (rfl) (by first | (rw [fsg, if_pos h8]; done) | (rw [fsg, if_neg h8]; done)) dX1_signAt_30

set_option maxRecDepth 100000 in
theorem kX1_letterAt (l : Launch) (dC : Nat → ClassId) (dI : Nat → Nat → Nat) (cI cZ cJ : ClassId) (a : Nat → Nat) (th n mw nf : Nat) (sg fo L le sc li ba ca : Nat → Nat) (wa : Nat → Int32) (w : Nat) (i : Nat) (hI : iv n mw nf sg fo L le sc li ba ca) (hw : w < 250) (hi : i < 15) : rd l yX1_letterAt cX1_letterAt 3 (some .int) 0 0 [.ref (a 0), .int (nI w), .int (nI i)] (rB dC dI cI cZ cJ (vY cI cZ a th n mw nf sg fo L le sc li ba ca wa)) (nI (L (15 * w + i))) := by
  refine rd_ofW RX1 (by decide) rfl (Nat.le_of_ble_eq_true rfl) ?_
  intro p e s m below meth c S hr hlk hB ls hl
  obtain ⟨hP, hK⟩ := hB
  have hl : lv_has ls 3 [(0, .ref (a 0)), (1, .int (nI w)), (2, .int (nI i))] := hl
  obtain ⟨⟨hn, hm, hf⟩, ⟨hsg, hfo, hL, hle, hsc, hli, hba, hca⟩, hv1, hv2, hv3, hv4, hv5, hv6, hv7⟩ := id hI
  refine lv_aload_n S.1 S.2.1 dX1_letterAt_0 rfl (lv_at hl 0 rfl) ?_
  refine fX1_letters (v := .ref (a 3)) S hK hP rfl rfl dX1_letterAt_1 ?_
  refine lv_bipush (v := (nI 15)) S.1 S.2.1 dX1_letterAt_4 (by decide) ?_
  refine lv_iload_n S.1 S.2.1 dX1_letterAt_6 rfl (lv_at hl 1 rfl) ?_
  refine n_imul (x := 15) (y := w) S dX1_letterAt_7 ?_
  refine lv_iload_n S.1 S.2.1 dX1_letterAt_8 rfl (lv_at hl 2 rfl) ?_
  refine n_iadd (x := 15 * w) (y := i) S dX1_letterAt_9 ?_
  refine n_iald S hK hP 3 0 rfl rfl dX1_letterAt_10 (j := (15 * w) + i) (by decide) (by omega) ?_
  have b10 := hL ((15 * w) + i)
  exact rd_ret S hr hlk (rfl) (rfl) dX1_letterAt_11

set_option maxRecDepth 100000 in
theorem lX1_hasBlank_2 (l : Launch) (dC : Nat → ClassId) (dI : Nat → Nat → Nat) (cI cZ cJ : ClassId) (a : Nat → Nat) (th n mw nf : Nat) (sg fo L le sc li ba ca : Nat → Nat) (wa : Nat → Int32) (hI : iv n mw nf sg fo L le sc li ba ca)  {p : Program} {e : Env} {s : State} {m : MethodId} {below : List Frame} {meth : Method} {c : Code} (S : CallFix p m c cX1_hasBlank 2 s ([.ref (a 0)] : List Value).toArray tbG RX1) (hr : meth.sig.returnType = (some .boolean)) (hlk : meth.locks = false) (hK : va_K (dC, dI) vcl (vty cI cZ cJ) s) (hP : va_P (dC, dI) vcl (vY cI cZ a th n mw nf sg fo L le sc li ba ca wa) s.heap) :
    ∀ (fuel : Nat) (i : Nat), n - i < fuel → i ≤ n → (∀ j, j < i → sg j ≠ 63) → ∀ ls : Array Slot, lv_has ls 2 [(0, .ref (a 0)), (1, .int (nI i))] → W p l e ({ frames := 0, cells := 0, slots := 0, locals := 0 } : Room) s m ([.ref (a 0)] : List Value).toArray below meth c s.heap [] 0 0 (MQ below (QcRead (nI (hbl n sg).toNat)) [.ref (a 0)].toArray s 0 0 (fun _ => False)) (F0 m 2 ls []) := by
  obtain ⟨⟨hn, hm, hf⟩, ⟨hsg, hfo, hL, hle, hsc, hli, hba, hca⟩, hv1, hv2, hv3, hv4, hv5, hv6, hv7⟩ := id hI
  intro fuel
  induction fuel with
  | zero =>
    intro i hq
    exact absurd hq (Nat.not_lt_zero _)
  | succ fuel ih =>
    intro i hq hi hq1 ls hl
    refine lv_iload_n S.1 S.2.1 dX1_hasBlank_2 rfl (lv_at hl 1 rfl) ?_
    refine lv_aload_n S.1 S.2.1 dX1_hasBlank_3 rfl (lv_at hl 0 rfl) ?_
    refine fX1_size (v := .int (nI n)) S hK hP rfl rfl dX1_hasBlank_4 ?_
    refine n_icmp_ge (x := i) (y := n) (tgt := 29) S dX1_hasBlank_7 (by decide) (by omega) (by omega) (fun h7 => ?_) (fun h7 => ?_)
    · refine lv_iconst (v := (nI 0)) S.1 S.2.1 dX1_hasBlank_29 (by decide) ?_
      exact rd_ret S hr hlk (rfl) (by rw [hbl, decide_eq_false (fun ⟨j, a, b⟩ => hq1 j (by omega) b)]; rfl) dX1_hasBlank_30
    · refine lv_aload_n S.1 S.2.1 dX1_hasBlank_10 rfl (lv_at hl 0 rfl) ?_
      refine fX1_row (v := .ref (a 1)) S hK hP rfl rfl dX1_hasBlank_11 ?_
      refine lv_iload_n S.1 S.2.1 dX1_hasBlank_14 rfl (lv_at hl 1 rfl) ?_
      refine n_iald S hK hP 1 0 rfl rfl dX1_hasBlank_15 (j := i) (by decide) (by omega) ?_
      have b15 := hsg i
      refine lv_bipush (v := (nI 63)) S.1 S.2.1 dX1_hasBlank_16 (by decide) ?_
      refine n_icmp_ne (x := sg i) (y := 63) (tgt := 23) S dX1_hasBlank_18 (by decide) (by omega) (by omega) (fun h18 => ?_) (fun h18 => ?_)
      · refine n_iinc (lv' := [(1, .int (nI (i + 1))), (0, .ref (a 0))]) (x := i) (k := 1) S dX1_hasBlank_23 hl rfl (by decide) rfl (fun ls hl => ?_)
        refine lv_goto (tgt := 2) S.1 S.2.1 dX1_hasBlank_26 (by decide) ?_
        exact ih (i + 1) (by omega) (by omega) (lt_s hq1 h18) ls (lv_sub hl [1, 0] rfl)
      · refine lv_iconst (v := (nI 1)) S.1 S.2.1 dX1_hasBlank_21 (by decide) ?_
        exact rd_ret S hr hlk (rfl) (by rw [hbl, decide_eq_true ⟨i, by omega, h18⟩]; rfl) dX1_hasBlank_22
set_option maxRecDepth 100000 in
theorem kX1_hasBlank (l : Launch) (dC : Nat → ClassId) (dI : Nat → Nat → Nat) (cI cZ cJ : ClassId) (a : Nat → Nat) (th n mw nf : Nat) (sg fo L le sc li ba ca : Nat → Nat) (wa : Nat → Int32) (hI : iv n mw nf sg fo L le sc li ba ca) : rd l yX1_hasBlank cX1_hasBlank 2 (some .boolean) 0 0 [.ref (a 0)] (rB dC dI cI cZ cJ (vY cI cZ a th n mw nf sg fo L le sc li ba ca wa)) (nI (hbl n sg).toNat) := by
  refine rd_ofW RX1 (by decide) rfl (Nat.le_of_ble_eq_true rfl) ?_
  intro p e s m below meth c S hr hlk hB ls hl
  obtain ⟨hP, hK⟩ := hB
  have hl : lv_has ls 2 [(0, .ref (a 0))] := hl
  obtain ⟨⟨hn, hm, hf⟩, ⟨hsg, hfo, hL, hle, hsc, hli, hba, hca⟩, hv1, hv2, hv3, hv4, hv5, hv6, hv7⟩ := id hI
  refine lv_iconst (v := (nI 0)) S.1 S.2.1 dX1_hasBlank_0 (by decide) ?_
  refine lv_istore_n (lv' := [(1, .int (nI 0)), (0, .ref (a 0))]) S.1 S.2.1 dX1_hasBlank_1 rfl hl (by decide) rfl (fun ls hl => ?_)
  exact lX1_hasBlank_2 l dC dI cI cZ cJ a th n mw nf sg fo L le sc li ba ca wa hI S hr hlk hK hP _ 0 (Nat.lt_succ_self _) (by omega) (fun j hj => absurd hj (Nat.not_lt_zero j)) ls (lv_sub hl [1, 0] rfl)

set_option maxRecDepth 100000 in
theorem lX1_isAt_2 (l : Launch) (dC : Nat → ClassId) (dI : Nat → Nat → Nat) (cI cZ cJ : ClassId) (a : Nat → Nat) (th n mw nf : Nat) (sg fo L le sc li ba ca : Nat → Nat) (wa : Nat → Int32) (w : Nat) (f : Nat) (hI : iv n mw nf sg fo L le sc li ba ca) (hw : w < 250) (hf0 : f + n ≤ 15)  {p : Program} {e : Env} {s : State} {m : MethodId} {below : List Frame} {meth : Method} {c : Code} (S : CallFix p m c cX1_isAt 4 s ([.ref (a 0), .int (nI w), .int (nI f)] : List Value).toArray tbG RX1) (hr : meth.sig.returnType = (some .boolean)) (hlk : meth.locks = false) (hK : va_K (dC, dI) vcl (vty cI cZ cJ) s) (hP : va_P (dC, dI) vcl (vY cI cZ a th n mw nf sg fo L le sc li ba ca wa) s.heap) :
    ∀ (fuel : Nat) (i : Nat), n - i < fuel → i ≤ n → (∀ j, j < i → fsg sg fo j = 63 ∨ fsg sg fo j = L (15 * w + (f + j))) → ∀ ls : Array Slot, lv_has ls 4 [(0, .ref (a 0)), (1, .int (nI w)), (2, .int (nI f)), (3, .int (nI i))] → W p l e ({ frames := 1, cells := 0, slots := 0, locals := 22 } : Room) s m ([.ref (a 0), .int (nI w), .int (nI f)] : List Value).toArray below meth c s.heap [] 0 0 (MQ below (QcRead (nI (mat n sg fo L w f).toNat)) [.ref (a 0), .int (nI w), .int (nI f)].toArray s 0 0 (fun _ => False)) (F0 m 2 ls []) := by
  obtain ⟨⟨hn, hm, hf⟩, ⟨hsg, hfo, hL, hle, hsc, hli, hba, hca⟩, hv1, hv2, hv3, hv4, hv5, hv6, hv7⟩ := id hI
  intro fuel
  induction fuel with
  | zero =>
    intro i hq
    exact absurd hq (Nat.not_lt_zero _)
  | succ fuel ih =>
    intro i hq hi hq1 ls hl
    refine lv_iload_n S.1 S.2.1 dX1_isAt_2 rfl (lv_at hl 3 rfl) ?_
    refine lv_aload_n S.1 S.2.1 dX1_isAt_3 rfl (lv_at hl 0 rfl) ?_
    refine fX1_size (v := .int (nI n)) S hK hP rfl rfl dX1_isAt_4 ?_
    refine n_icmp_ge (x := i) (y := n) (tgt := 44) S dX1_isAt_7 (by decide) (by omega) (by omega) (fun h7 => ?_) (fun h7 => ?_)
    · refine lv_iconst (v := (nI 1)) S.1 S.2.1 dX1_isAt_44 (by decide) ?_
      exact rd_ret S hr hlk (rfl) (by rw [mat, decide_eq_true (fun j hj => hq1 j (by omega))]; rfl) dX1_isAt_45
    · refine lv_aload_n S.1 S.2.1 dX1_isAt_10 rfl (lv_at hl 0 rfl) ?_
      refine lv_iload_n S.1 S.2.1 dX1_isAt_11 rfl (lv_at hl 3 rfl) ?_
      refine rd_callV (C := RX1) (As := [.int (nI i)]) (rest := []) S (kX1_signAt l dC dI cI cZ cJ a th n mw nf sg fo L le sc li ba ca wa i (iv_r hI) (by omega)) rB_blind (fun U hU hW => ⟨by rw [hU]; exact hP, va_K.moved hW.alike hK⟩) (va_recv hK hP (ci := 1) (q0 := 0) rfl rfl) gX1_56 hdX1_signAt (by decide) hl.1 rfl (Nat.le_of_ble_eq_true rfl) dX1_isAt_12 ⟨Nat.zero_le _, Nat.zero_le _⟩ ?_
      have b12 := fsg_le hI i
      refine lv_bipush (v := (nI 63)) S.1 S.2.1 dX1_isAt_15 (by decide) ?_
      refine n_icmp_eq (x := fsg sg fo i) (y := 63) (tgt := 38) S dX1_isAt_17 (by decide) (by omega) (by omega) (fun h17 => ?_) (fun h17 => ?_)
      · refine n_iinc (lv' := [(3, .int (nI (i + 1))), (0, .ref (a 0)), (1, .int (nI w)), (2, .int (nI f))]) (x := i) (k := 3) S dX1_isAt_38 hl rfl (by decide) rfl (fun ls hl => ?_)
        refine lv_goto (tgt := 2) S.1 S.2.1 dX1_isAt_41 (by decide) ?_
        exact ih (i + 1) (by omega) (by omega) (lt_s hq1 (by omega)) ls (lv_sub hl [1, 2, 3, 0] rfl)
      · refine lv_aload_n S.1 S.2.1 dX1_isAt_20 rfl (lv_at hl 0 rfl) ?_
        refine lv_iload_n S.1 S.2.1 dX1_isAt_21 rfl (lv_at hl 3 rfl) ?_
        refine rd_callV (C := RX1) (As := [.int (nI i)]) (rest := []) S (kX1_signAt l dC dI cI cZ cJ a th n mw nf sg fo L le sc li ba ca wa i (iv_r hI) (by omega)) rB_blind (fun U hU hW => ⟨by rw [hU]; exact hP, va_K.moved hW.alike hK⟩) (va_recv hK hP (ci := 1) (q0 := 0) rfl rfl) gX1_56 hdX1_signAt (by decide) hl.1 rfl (Nat.le_of_ble_eq_true rfl) dX1_isAt_22 ⟨Nat.zero_le _, Nat.zero_le _⟩ ?_
        refine lv_aload_n S.1 S.2.1 dX1_isAt_25 rfl (lv_at hl 0 rfl) ?_
        refine lv_iload_n S.1 S.2.1 dX1_isAt_26 rfl (lv_at hl 1 rfl) ?_
        refine lv_iload_n S.1 S.2.1 dX1_isAt_27 rfl (lv_at hl 2 rfl) ?_
        refine lv_iload_n S.1 S.2.1 dX1_isAt_28 rfl (lv_at hl 3 rfl) ?_
        refine n_iadd (x := f) (y := i) S dX1_isAt_29 ?_
        refine rd_callV (C := RX1) (As := [.int (nI w), .int (nI (f + i))]) (rest := [.int (nI (fsg sg fo i))]) S (kX1_letterAt l dC dI cI cZ cJ a th n mw nf sg fo L le sc li ba ca wa w (f + i) hI (by omega) (by omega)) rB_blind (fun U hU hW => ⟨by rw [hU]; exact hP, va_K.moved hW.alike hK⟩) (va_recv hK hP (ci := 1) (q0 := 0) rfl rfl) gX1_60 hdX1_letterAt (by decide) hl.1 rfl (Nat.le_of_ble_eq_true rfl) dX1_isAt_30 ⟨Nat.zero_le _, Nat.zero_le _⟩ ?_
        have b30 := hL (15 * w + (f + i))
        refine n_icmp_eq (x := fsg sg fo i) (y := L (15 * w + (f + i))) (tgt := 38) S dX1_isAt_33 (by decide) (by omega) (by omega) (fun h33 => ?_) (fun h33 => ?_)
        · refine n_iinc (lv' := [(3, .int (nI (i + 1))), (0, .ref (a 0)), (1, .int (nI w)), (2, .int (nI f))]) (x := i) (k := 3) S dX1_isAt_38 hl rfl (by decide) rfl (fun ls hl => ?_)
          refine lv_goto (tgt := 2) S.1 S.2.1 dX1_isAt_41 (by decide) ?_
          exact ih (i + 1) (by omega) (by omega) (lt_s hq1 (by omega)) ls (lv_sub hl [1, 2, 3, 0] rfl)
        · refine lv_iconst (v := (nI 0)) S.1 S.2.1 dX1_isAt_36 (by decide) ?_
          exact rd_ret S hr hlk (rfl) (by rw [mat, decide_eq_false (fun q => by have := q i (by omega); omega)]; rfl) dX1_isAt_37
set_option maxRecDepth 100000 in
theorem kX1_isAt (l : Launch) (dC : Nat → ClassId) (dI : Nat → Nat → Nat) (cI cZ cJ : ClassId) (a : Nat → Nat) (th n mw nf : Nat) (sg fo L le sc li ba ca : Nat → Nat) (wa : Nat → Int32) (w : Nat) (f : Nat) (hI : iv n mw nf sg fo L le sc li ba ca) (hw : w < 250) (hf0 : f + n ≤ 15) : rd l yX1_isAt cX1_isAt 4 (some .boolean) 1 22 [.ref (a 0), .int (nI w), .int (nI f)] (rB dC dI cI cZ cJ (vY cI cZ a th n mw nf sg fo L le sc li ba ca wa)) (nI (mat n sg fo L w f).toNat) := by
  refine rd_ofW RX1 (by decide) rfl (Nat.le_of_ble_eq_true rfl) ?_
  intro p e s m below meth c S hr hlk hB ls hl
  obtain ⟨hP, hK⟩ := hB
  have hl : lv_has ls 4 [(0, .ref (a 0)), (1, .int (nI w)), (2, .int (nI f))] := hl
  obtain ⟨⟨hn, hm, hf⟩, ⟨hsg, hfo, hL, hle, hsc, hli, hba, hca⟩, hv1, hv2, hv3, hv4, hv5, hv6, hv7⟩ := id hI
  refine lv_iconst (v := (nI 0)) S.1 S.2.1 dX1_isAt_0 (by decide) ?_
  refine lv_istore_n (lv' := [(3, .int (nI 0)), (0, .ref (a 0)), (1, .int (nI w)), (2, .int (nI f))]) S.1 S.2.1 dX1_isAt_1 rfl hl (by decide) rfl (fun ls hl => ?_)
  exact lX1_isAt_2 l dC dI cI cZ cJ a th n mw nf sg fo L le sc li ba ca wa w f hI hw hf0 S hr hlk hK hP _ 0 (Nat.lt_succ_self _) (by omega) (fun j hj => absurd hj (Nat.not_lt_zero j)) ls (lv_sub hl [1, 2, 3, 0] rfl)

set_option maxRecDepth 100000 in
theorem kX1_fits (l : Launch) (dC : Nat → ClassId) (dI : Nat → Nat → Nat) (cI cZ cJ : ClassId) (a : Nat → Nat) (th n mw nf : Nat) (sg fo L le sc li ba ca : Nat → Nat) (wa : Nat → Int32) (w : Nat) (hI : iv n mw nf sg fo L le sc li ba ca) (hw : w < 250) : rd l yX1_fits cX1_fits 2 (some .boolean) 2 45 [.ref (a 0), .int (nI w)] (rB dC dI cI cZ cJ (vY cI cZ a th n mw nf sg fo L le sc li ba ca wa)) (nI (fit n sg fo L le w).toNat) := by
  refine rd_ofW RX1 (by decide) rfl (Nat.le_of_ble_eq_true rfl) ?_
  intro p e s m below meth c S hr hlk hB ls hl
  obtain ⟨hP, hK⟩ := hB
  have hl : lv_has ls 2 [(0, .ref (a 0)), (1, .int (nI w))] := hl
  obtain ⟨⟨hn, hm, hf⟩, ⟨hsg, hfo, hL, hle, hsc, hli, hba, hca⟩, hv1, hv2, hv3, hv4, hv5, hv6, hv7⟩ := id hI
  refine lv_aload_n S.1 S.2.1 dX1_fits_0 rfl (lv_at hl 0 rfl) ?_
  refine fX1_lengths (v := .ref (a 4)) S hK hP rfl rfl dX1_fits_1 ?_
  refine lv_iload_n S.1 S.2.1 dX1_fits_4 rfl (lv_at hl 1 rfl) ?_
  refine n_iald S hK hP 4 0 rfl rfl dX1_fits_5 (j := w) (by decide) (by omega) ?_
  have b5 := hle w
  refine lv_aload_n S.1 S.2.1 dX1_fits_6 rfl (lv_at hl 0 rfl) ?_
  refine fX1_size (v := .int (nI n)) S hK hP rfl rfl dX1_fits_7 ?_
  refine n_icmp_ne (x := le w) (y := n) (tgt := 26) S dX1_fits_10 (by decide) (by omega) (by omega) (fun h10 => ?_) (fun h10 => ?_)
  · refine lv_iconst (v := (nI 0)) S.1 S.2.1 dX1_fits_26 (by decide) ?_
    exact rd_ret S hr hlk (rfl) (by first | simp [fit, h10, h19] | simp [fit, h10]) dX1_fits_27
  · refine lv_aload_n S.1 S.2.1 dX1_fits_13 rfl (lv_at hl 0 rfl) ?_
    refine lv_iload_n S.1 S.2.1 dX1_fits_14 rfl (lv_at hl 1 rfl) ?_
    refine lv_iconst (v := (nI 0)) S.1 S.2.1 dX1_fits_15 (by decide) ?_
    refine rd_callV (C := RX1) (As := [.int (nI w), .int (nI 0)]) (rest := []) S (kX1_isAt l dC dI cI cZ cJ a th n mw nf sg fo L le sc li ba ca wa w 0 hI (by omega) (by omega)) rB_blind (fun U hU hW => ⟨by rw [hU]; exact hP, va_K.moved hW.alike hK⟩) (va_recv hK hP (ci := 1) (q0 := 0) rfl rfl) gX1_64 hdX1_isAt (by decide) hl.1 rfl (Nat.le_of_ble_eq_true rfl) dX1_fits_16 ⟨Nat.zero_le _, Nat.zero_le _⟩ ?_
    refine n_bif_eq (b := mat n sg fo L w 0) (tgt := 26) S dX1_fits_19 (by decide) (fun h19 => ?_) (fun h19 => ?_)
    · refine lv_iconst (v := (nI 0)) S.1 S.2.1 dX1_fits_26 (by decide) ?_
      exact rd_ret S hr hlk (rfl) (by first | simp [fit, h10, h19] | simp [fit, h10]) dX1_fits_27
    · refine lv_iconst (v := (nI 1)) S.1 S.2.1 dX1_fits_22 (by decide) ?_
      refine lv_goto (tgt := 27) S.1 S.2.1 dX1_fits_23 (by decide) ?_
      exact rd_ret S hr hlk (rfl) (by first | simp [fit, h10, h19] | simp [fit, h10]) dX1_fits_27

set_option maxRecDepth 100000 in
theorem kX1_isIn (l : Launch) (dC : Nat → ClassId) (dI : Nat → Nat → Nat) (cI cZ cJ : ClassId) (a : Nat → Nat) (th n mw nf : Nat) (sg fo L le sc li ba ca : Nat → Nat) (wa : Nat → Int32) (w : Nat) (t : Nat) (hI : iv n mw nf sg fo L le sc li ba ca) (hw : w < 250) (ht : t < 4) : rd l yX1_isIn cX1_isIn 3 (some .boolean) 0 0 [.ref (a 0), .int (nI w), .int (nI t)] (rB dC dI cI cZ cJ (vY cI cZ a th n mw nf sg fo L le sc li ba ca wa)) (nI (inl li w t).toNat) := by
  refine rd_ofW RX1 (by decide) rfl (Nat.le_of_ble_eq_true rfl) ?_
  intro p e s m below meth c S hr hlk hB ls hl
  obtain ⟨hP, hK⟩ := hB
  have hl : lv_has ls 3 [(0, .ref (a 0)), (1, .int (nI w)), (2, .int (nI t))] := hl
  obtain ⟨⟨hn, hm, hf⟩, ⟨hsg, hfo, hL, hle, hsc, hli, hba, hca⟩, hv1, hv2, hv3, hv4, hv5, hv6, hv7⟩ := id hI
  refine lv_aload_n S.1 S.2.1 dX1_isIn_0 rfl (lv_at hl 0 rfl) ?_
  refine fX1_lists (v := .ref (a 6)) S hK hP rfl rfl dX1_isIn_1 ?_
  refine lv_iload_n S.1 S.2.1 dX1_isIn_4 rfl (lv_at hl 1 rfl) ?_
  refine n_iald S hK hP 6 0 rfl rfl dX1_isIn_5 (j := w) (by decide) (by omega) ?_
  have b5 := hli w
  refine lv_iload_n S.1 S.2.1 dX1_isIn_6 rfl (lv_at hl 2 rfl) ?_
  refine lv_ishr S.1 S.2.1 dX1_isIn_7 ?_
  refine lv_iconst (v := (nI 1)) S.1 S.2.1 dX1_isIn_8 (by decide) ?_
  refine lv_iand S.1 S.2.1 dX1_isIn_9 ?_
  refine lv_iconst (v := (nI 1)) S.1 S.2.1 dX1_isIn_10 (by decide) ?_
  have hb : nI (li w) >>> (nI t &&& 31) &&& nI 1 = nI ((li w).testBit t).toNat := (tb_lt (li w) (by omega) t ht).2.1
  rw [hb]
  refine n_icmp_ne (x := ((li w).testBit t).toNat) (y := 1) (tgt := 18) S dX1_isIn_11 (by decide) (by cases (li w).testBit t <;> decide) (by omega) (fun h11 => ?_) (fun h11 => ?_)
  · refine lv_iconst (v := (nI 0)) S.1 S.2.1 dX1_isIn_18 (by decide) ?_
    exact rd_ret S hr hlk (rfl) (by cases hc : (li w).testBit t <;> rw [hc] at h11 <;> first | exact absurd h11 (by decide) | (rw [inl, hc]; rfl)) dX1_isIn_19
  · refine lv_iconst (v := (nI 1)) S.1 S.2.1 dX1_isIn_14 (by decide) ?_
    refine lv_goto (tgt := 19) S.1 S.2.1 dX1_isIn_15 (by decide) ?_
    exact rd_ret S hr hlk (rfl) (by cases hc : (li w).testBit t <;> rw [hc] at h11 <;> first | exact absurd h11 (by decide) | (rw [inl, hc]; rfl)) dX1_isIn_19

set_option maxRecDepth 100000 in
theorem lX1_isAhead_38 (l : Launch) (dC : Nat → ClassId) (dI : Nat → Nat → Nat) (cI cZ cJ : ClassId) (a : Nat → Nat) (th n mw nf : Nat) (sg fo L le sc li ba ca : Nat → Nat) (wa : Nat → Int32) (w : Nat) (v : Nat) (hI : iv n mw nf sg fo L le sc li ba ca) (hw : w < 250) (hvv : v < 250)  {p : Program} {e : Env} {s : State} {m : MethodId} {below : List Frame} {meth : Method} {c : Code} (S : CallFix p m c cX1_isAhead 4 s ([.ref (a 0), .int (nI w), .int (nI v)] : List Value).toArray tbG RX1) (hr : meth.sig.returnType = (some .boolean)) (hlk : meth.locks = false) (hK : va_K (dC, dI) vcl (vty cI cZ cJ) s) (hP : va_P (dC, dI) vcl (vY cI cZ a th n mw nf sg fo L le sc li ba ca wa) s.heap) :
    ∀ (fuel : Nat) (i : Nat), 15 - i < fuel → sc w = sc v → i ≤ 15 → (∀ j, j < i → L (15 * w + j) = L (15 * v + j)) → ∀ ls : Array Slot, lv_has ls 4 [(0, .ref (a 0)), (1, .int (nI w)), (2, .int (nI v)), (3, .int (nI i))] → W p l e ({ frames := 1, cells := 0, slots := 0, locals := 22 } : Room) s m ([.ref (a 0), .int (nI w), .int (nI v)] : List Value).toArray below meth c s.heap [] 0 0 (MQ below (QcRead (nI (ahd L sc w v).toNat)) [.ref (a 0), .int (nI w), .int (nI v)].toArray s 0 0 (fun _ => False)) (F0 m 38 ls []) := by
  obtain ⟨⟨hn, hm, hf⟩, ⟨hsg, hfo, hL, hle, hsc, hli, hba, hca⟩, hv1, hv2, hv3, hv4, hv5, hv6, hv7⟩ := id hI
  intro fuel
  induction fuel with
  | zero =>
    intro i hq
    exact absurd hq (Nat.not_lt_zero _)
  | succ fuel ih =>
    intro i hq h12 hi hq1 ls hl
    refine lv_iload_n S.1 S.2.1 dX1_isAhead_38 rfl (lv_at hl 3 rfl) ?_
    refine lv_bipush (v := (nI 15)) S.1 S.2.1 dX1_isAhead_39 (by decide) ?_
    refine n_icmp_ge (x := i) (y := 15) (tgt := 86) S dX1_isAhead_41 (by decide) (by omega) (by omega) (fun h41 => ?_) (fun h41 => ?_)
    · refine lv_iconst (v := (nI 0)) S.1 S.2.1 dX1_isAhead_86 (by decide) ?_
      exact rd_ret S hr hlk (rfl) (by rw [ahd, if_pos h12, lcp_at (i := i) (by omega) hq1 (Or.inl (by omega)), decide_eq_false (show ¬ i < 15 by omega)]; rfl) dX1_isAhead_87
    · refine lv_aload_n S.1 S.2.1 dX1_isAhead_44 rfl (lv_at hl 0 rfl) ?_
      refine lv_iload_n S.1 S.2.1 dX1_isAhead_45 rfl (lv_at hl 1 rfl) ?_
      refine lv_iload_n S.1 S.2.1 dX1_isAhead_46 rfl (lv_at hl 3 rfl) ?_
      refine rd_callV (C := RX1) (As := [.int (nI w), .int (nI i)]) (rest := []) S (kX1_letterAt l dC dI cI cZ cJ a th n mw nf sg fo L le sc li ba ca wa w i hI (by omega) (by omega)) rB_blind (fun U hU hW => ⟨by rw [hU]; exact hP, va_K.moved hW.alike hK⟩) (va_recv hK hP (ci := 1) (q0 := 0) rfl rfl) gX1_60 hdX1_letterAt (by decide) hl.1 rfl (Nat.le_of_ble_eq_true rfl) dX1_isAhead_47 ⟨Nat.zero_le _, Nat.zero_le _⟩ ?_
      have b47 := hL (15 * w + i)
      refine lv_aload_n S.1 S.2.1 dX1_isAhead_50 rfl (lv_at hl 0 rfl) ?_
      refine lv_iload_n S.1 S.2.1 dX1_isAhead_51 rfl (lv_at hl 2 rfl) ?_
      refine lv_iload_n S.1 S.2.1 dX1_isAhead_52 rfl (lv_at hl 3 rfl) ?_
      refine rd_callV (C := RX1) (As := [.int (nI v), .int (nI i)]) (rest := [.int (nI (L (15 * w + i)))]) S (kX1_letterAt l dC dI cI cZ cJ a th n mw nf sg fo L le sc li ba ca wa v i hI hvv (by omega)) rB_blind (fun U hU hW => ⟨by rw [hU]; exact hP, va_K.moved hW.alike hK⟩) (va_recv hK hP (ci := 1) (q0 := 0) rfl rfl) gX1_60 hdX1_letterAt (by decide) hl.1 rfl (Nat.le_of_ble_eq_true rfl) dX1_isAhead_53 ⟨Nat.zero_le _, Nat.zero_le _⟩ ?_
      have b53 := hL (15 * v + i)
      refine n_icmp_eq (x := L (15 * w + i)) (y := L (15 * v + i)) (tgt := 80) S dX1_isAhead_56 (by decide) (by omega) (by omega) (fun h56 => ?_) (fun h56 => ?_)
      · refine n_iinc (lv' := [(3, .int (nI (i + 1))), (0, .ref (a 0)), (1, .int (nI w)), (2, .int (nI v))]) (x := i) (k := 3) S dX1_isAhead_80 hl rfl (by decide) rfl (fun ls hl => ?_)
        refine lv_goto (tgt := 38) S.1 S.2.1 dX1_isAhead_83 (by decide) ?_
        exact ih (i + 1) (by omega) h12 (by omega) (lt_s hq1 h56) ls (lv_sub hl [1, 2, 3, 0] rfl)
      · refine lv_aload_n S.1 S.2.1 dX1_isAhead_59 rfl (lv_at hl 0 rfl) ?_
        refine lv_iload_n S.1 S.2.1 dX1_isAhead_60 rfl (lv_at hl 1 rfl) ?_
        refine lv_iload_n S.1 S.2.1 dX1_isAhead_61 rfl (lv_at hl 3 rfl) ?_
        refine rd_callV (C := RX1) (As := [.int (nI w), .int (nI i)]) (rest := []) S (kX1_letterAt l dC dI cI cZ cJ a th n mw nf sg fo L le sc li ba ca wa w i hI (by omega) (by omega)) rB_blind (fun U hU hW => ⟨by rw [hU]; exact hP, va_K.moved hW.alike hK⟩) (va_recv hK hP (ci := 1) (q0 := 0) rfl rfl) gX1_60 hdX1_letterAt (by decide) hl.1 rfl (Nat.le_of_ble_eq_true rfl) dX1_isAhead_62 ⟨Nat.zero_le _, Nat.zero_le _⟩ ?_
        refine lv_aload_n S.1 S.2.1 dX1_isAhead_65 rfl (lv_at hl 0 rfl) ?_
        refine lv_iload_n S.1 S.2.1 dX1_isAhead_66 rfl (lv_at hl 2 rfl) ?_
        refine lv_iload_n S.1 S.2.1 dX1_isAhead_67 rfl (lv_at hl 3 rfl) ?_
        refine rd_callV (C := RX1) (As := [.int (nI v), .int (nI i)]) (rest := [.int (nI (L (15 * w + i)))]) S (kX1_letterAt l dC dI cI cZ cJ a th n mw nf sg fo L le sc li ba ca wa v i hI hvv (by omega)) rB_blind (fun U hU hW => ⟨by rw [hU]; exact hP, va_K.moved hW.alike hK⟩) (va_recv hK hP (ci := 1) (q0 := 0) rfl rfl) gX1_60 hdX1_letterAt (by decide) hl.1 rfl (Nat.le_of_ble_eq_true rfl) dX1_isAhead_68 ⟨Nat.zero_le _, Nat.zero_le _⟩ ?_
        refine n_icmp_ge (x := L (15 * w + i)) (y := L (15 * v + i)) (tgt := 78) S dX1_isAhead_71 (by decide) (by omega) (by omega) (fun h71 => ?_) (fun h71 => ?_)
        · refine lv_iconst (v := (nI 0)) S.1 S.2.1 dX1_isAhead_78 (by decide) ?_
          exact rd_ret S hr hlk (rfl) (by rw [ahd, if_pos h12, lcp_at (by omega) hq1 (Or.inr h56), decide_eq_true (show i < 15 by omega)]; first | (rw [decide_eq_true h71]; rfl) | (rw [decide_eq_false (Nat.not_lt.mpr h71)]; rfl)) dX1_isAhead_79
        · refine lv_iconst (v := (nI 1)) S.1 S.2.1 dX1_isAhead_74 (by decide) ?_
          refine lv_goto (tgt := 79) S.1 S.2.1 dX1_isAhead_75 (by decide) ?_
          exact rd_ret S hr hlk (rfl) (by rw [ahd, if_pos h12, lcp_at (by omega) hq1 (Or.inr h56), decide_eq_true (show i < 15 by omega)]; first | (rw [decide_eq_true h71]; rfl) | (rw [decide_eq_false (Nat.not_lt.mpr h71)]; rfl)) dX1_isAhead_79
set_option maxRecDepth 100000 in
theorem kX1_isAhead (l : Launch) (dC : Nat → ClassId) (dI : Nat → Nat → Nat) (cI cZ cJ : ClassId) (a : Nat → Nat) (th n mw nf : Nat) (sg fo L le sc li ba ca : Nat → Nat) (wa : Nat → Int32) (w : Nat) (v : Nat) (hI : iv n mw nf sg fo L le sc li ba ca) (hw : w < 250) (hvv : v < 250) : rd l yX1_isAhead cX1_isAhead 4 (some .boolean) 1 22 [.ref (a 0), .int (nI w), .int (nI v)] (rB dC dI cI cZ cJ (vY cI cZ a th n mw nf sg fo L le sc li ba ca wa)) (nI (ahd L sc w v).toNat) := by
  refine rd_ofW RX1 (by decide) rfl (Nat.le_of_ble_eq_true rfl) ?_
  intro p e s m below meth c S hr hlk hB ls hl
  obtain ⟨hP, hK⟩ := hB
  have hl : lv_has ls 4 [(0, .ref (a 0)), (1, .int (nI w)), (2, .int (nI v))] := hl
  obtain ⟨⟨hn, hm, hf⟩, ⟨hsg, hfo, hL, hle, hsc, hli, hba, hca⟩, hv1, hv2, hv3, hv4, hv5, hv6, hv7⟩ := id hI
  refine lv_aload_n S.1 S.2.1 dX1_isAhead_0 rfl (lv_at hl 0 rfl) ?_
  refine fX1_scores (v := .ref (a 5)) S hK hP rfl rfl dX1_isAhead_1 ?_
  refine lv_iload_n S.1 S.2.1 dX1_isAhead_4 rfl (lv_at hl 1 rfl) ?_
  refine n_iald S hK hP 5 0 rfl rfl dX1_isAhead_5 (j := w) (by decide) (by omega) ?_
  have b5 := hsc w
  refine lv_aload_n S.1 S.2.1 dX1_isAhead_6 rfl (lv_at hl 0 rfl) ?_
  refine fX1_scores (v := .ref (a 5)) S hK hP rfl rfl dX1_isAhead_7 ?_
  refine lv_iload_n S.1 S.2.1 dX1_isAhead_10 rfl (lv_at hl 2 rfl) ?_
  refine n_iald S hK hP 5 0 rfl rfl dX1_isAhead_11 (j := v) (by decide) (by omega) ?_
  have b11 := hsc v
  refine n_icmp_eq (x := sc w) (y := sc v) (tgt := 36) S dX1_isAhead_12 (by decide) (by omega) (by omega) (fun h12 => ?_) (fun h12 => ?_)
  · refine lv_iconst (v := (nI 0)) S.1 S.2.1 dX1_isAhead_36 (by decide) ?_
    refine lv_istore_n (lv' := [(3, .int (nI 0)), (0, .ref (a 0)), (1, .int (nI w)), (2, .int (nI v))]) S.1 S.2.1 dX1_isAhead_37 rfl hl (by decide) rfl (fun ls hl => ?_)
    exact lX1_isAhead_38 l dC dI cI cZ cJ a th n mw nf sg fo L le sc li ba ca wa w v hI hw hvv S hr hlk hK hP _ 0 (Nat.lt_succ_self _) h12 (by omega) (fun j hj => absurd hj (Nat.not_lt_zero j)) ls (lv_sub hl [1, 2, 3, 0] rfl)
  · refine lv_aload_n S.1 S.2.1 dX1_isAhead_15 rfl (lv_at hl 0 rfl) ?_
    refine fX1_scores (v := .ref (a 5)) S hK hP rfl rfl dX1_isAhead_16 ?_
    refine lv_iload_n S.1 S.2.1 dX1_isAhead_19 rfl (lv_at hl 1 rfl) ?_
    refine n_iald S hK hP 5 0 rfl rfl dX1_isAhead_20 (j := w) (by decide) (by omega) ?_
    have b20 := hsc w
    refine lv_aload_n S.1 S.2.1 dX1_isAhead_21 rfl (lv_at hl 0 rfl) ?_
    refine fX1_scores (v := .ref (a 5)) S hK hP rfl rfl dX1_isAhead_22 ?_
    refine lv_iload_n S.1 S.2.1 dX1_isAhead_25 rfl (lv_at hl 2 rfl) ?_
    refine n_iald S hK hP 5 0 rfl rfl dX1_isAhead_26 (j := v) (by decide) (by omega) ?_
    have b26 := hsc v
    refine n_icmp_le (x := sc w) (y := sc v) (tgt := 34) S dX1_isAhead_27 (by decide) (by omega) (by omega) (fun h27 => ?_) (fun h27 => ?_)
    · refine lv_iconst (v := (nI 0)) S.1 S.2.1 dX1_isAhead_34 (by decide) ?_
      exact rd_ret S hr hlk (rfl) (by first | (rw [ahd, if_neg h12, decide_eq_true (by omega)]; rfl) | (rw [ahd, if_neg h12, decide_eq_false (by omega)]; rfl)) dX1_isAhead_35
    · refine lv_iconst (v := (nI 1)) S.1 S.2.1 dX1_isAhead_30 (by decide) ?_
      refine lv_goto (tgt := 35) S.1 S.2.1 dX1_isAhead_31 (by decide) ?_
      exact rd_ret S hr hlk (rfl) (by first | (rw [ahd, if_neg h12, decide_eq_true (by omega)]; rfl) | (rw [ahd, if_neg h12, decide_eq_false (by omega)]; rfl)) dX1_isAhead_35
