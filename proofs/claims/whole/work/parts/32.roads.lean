/-! ===== the roads of the law's calls; what holds of every state goes on holding ===== -/
theorem sp_L (u : Int32) : isL u = false ∨ ∃ y : Nat, (97 ≤ y ∧ y ≤ 122) ∧ u = nI y := by
  cases h : isL u with
  | false => exact Or.inl rfl
  | true => obtain ⟨j, h1, h2, h3⟩ := isL_t h; exact Or.inr ⟨j, ⟨h1, h2⟩, h3⟩
theorem sp_Li (u : Int32) : isLi u = false ∨ ∃ t : Nat, t < 4 ∧ u = nI t := by
  cases h : isLi u with
  | false => exact Or.inl rfl
  | true => exact Or.inr (isLi_t h)
theorem sp_W {mw : Nat} (hm : mw < 2 ^ 31) (u : Int32) : isW mw u = false ∨ ∃ w : Nat, w < mw ∧ u = nI w := by
  cases h : isW mw u with
  | false => exact Or.inl rfl
  | true => exact Or.inr (isW_t hm h)
theorem sp_C {nf : Nat} (hm : nf < 2 ^ 31) (x : Int32) : (x < 0 ∨ nI nf ≤ x) ∨ ∃ k : Nat, k < nf ∧ x = nI k := by
  rcases pk_ix x hm with h | h | h
  · exact Or.inl (Or.inl h)
  · exact Or.inl (Or.inr h)
  · exact Or.inr h
theorem sp_3 (x : Int32) : (¬ x = nI 0 ∧ ¬ x = nI 1 ∧ ¬ x = nI 2) ∨ ∃ hw : Nat, hw < 3 ∧ x = nI hw := by
  by_cases h0 : x = nI 0
  · exact Or.inr ⟨0, by decide, h0⟩
  · by_cases h1 : x = nI 1
    · exact Or.inr ⟨1, by decide, h1⟩
    · by_cases h2 : x = nI 2
      · exact Or.inr ⟨2, by decide, h2⟩
      · exact Or.inl ⟨h0, h1, h2⟩
theorem sp_sign {n : Nat} (hn : n ≤ 15) (u : Int32) : (n = 15 ∨ (isL u = false ∧ ¬ u = nI 63)) ∨ ∃ j : Nat, ((j = 63 ∨ (97 ≤ j ∧ j ≤ 122)) ∧ n < 15) ∧ u = nI j := by
  by_cases h : n = 15
  · exact Or.inl (Or.inl h)
  · rcases sp_L u with h1 | ⟨y, h1, h2⟩
    · by_cases h2 : u = nI 63
      · exact Or.inr ⟨63, ⟨Or.inl rfl, by omega⟩, h2⟩
      · exact Or.inl (Or.inr ⟨h1, h2⟩)
    · exact Or.inr ⟨y, ⟨Or.inr h1, by omega⟩, h2⟩
theorem sp_enter {n mw : Nat} {sg fo L le : Nat → Nat} (hm : mw ≤ 250) (x : Int32) : (n = 0 ∨ hbl n sg = true ∨ x < 0 ∨ nI 1000 < x ∨ (wof mw (fit n sg fo L le) = -1 ∧ mw = 250)) ∨ ∃ s0 : Nat, (s0 ≤ 1000 ∧ n ≠ 0 ∧ hbl n sg = false) ∧ ((∃ w, w < mw ∧ fit n sg fo L le w = true ∧ ∀ j, j < w → fit n sg fo L le j = false) ∨ ((∀ j, j < mw → fit n sg fo L le j = false) ∧ mw < 250)) ∧ x = nI s0 := by
  by_cases h0 : n = 0
  · exact Or.inl (Or.inl h0)
  cases hb : hbl n sg with
  | true => exact Or.inl (Or.inr (Or.inl rfl))
  | false =>
    by_cases h1 : x < 0
    · exact Or.inl (Or.inr (Or.inr (Or.inl h1)))
    obtain ⟨s0, hs, rfl⟩ := nI_of h1
    by_cases h2 : nI 1000 < nI s0
    · exact Or.inl (Or.inr (Or.inr (Or.inr (Or.inl h2))))
    have h3 : s0 ≤ 1000 := by
      have := mt (nI_ltI (by decide) hs).mpr h2
      omega
    by_cases hx : ∃ w, w < mw ∧ fit n sg fo L le w = true
    · obtain ⟨w, hw1, hw2⟩ := hx
      obtain ⟨v, h4, h5⟩ := pk_least (fun w => w < mw ∧ fit n sg fo L le w = true) ⟨w, hw1, hw2⟩
      refine Or.inr ⟨s0, ⟨h3, h0, rfl⟩, Or.inl ⟨v, h4.1, h4.2, fun j hj => ?_⟩, rfl⟩
      cases hc : fit n sg fo L le j with
      | false => rfl
      | true => exact absurd ⟨Nat.lt_trans hj h4.1, hc⟩ (h5 j hj)
    · have hno : ∀ j, j < mw → fit n sg fo L le j = false := fun j hj => by
        cases hc : fit n sg fo L le j with
        | false => rfl
        | true => exact absurd ⟨j, hj, hc⟩ hx
      by_cases h6 : mw = 250
      · exact Or.inl (Or.inr (Or.inr (Or.inr (Or.inr ⟨wof_no hno, h6⟩))))
      · exact Or.inr ⟨s0, ⟨h3, h0, rfl⟩, Or.inr ⟨hno, by omega⟩, rfl⟩
theorem iv_new : iv 0 0 0 z0 (foF 26) z0 z0 z0 z0 z0 z0 := by
  refine ⟨⟨by omega, by omega, by omega⟩, ⟨fun _ => Nat.zero_le _, fun k => ?_, fun _ => Nat.zero_le _, fun _ => Nat.zero_le _, fun _ => Nat.zero_le _, fun _ => Nat.zero_le _, fun _ => Nat.zero_le _, fun _ => Nat.zero_lt_succ _⟩, fun i hi => by omega, fun k hk => ?_, fun w hw => by omega, fun w i hw => by omega, fun _ _ _ _ _ => rfl, fun _ _ => ⟨rfl, rfl, rfl⟩, fun k hk => by omega⟩
  · rw [foF]; split <;> omega
  · rw [foF, if_pos hk]; omega
section IVS
variable {n mw nf : Nat} {sg fo L le sc li ba ca : Nat → Nat}
theorem iv_sign (hI : iv n mw nf sg fo L le sc li ba ca) {j : Nat} (hj : j = 63 ∨ (97 ≤ j ∧ j ≤ 122)) (hn : n < 15) : iv (n + 1) mw nf (va_up sg n j) fo L le sc li ba ca := by
  obtain ⟨⟨h1, h2, h3⟩, ⟨hsg, hr⟩, hv1, hq⟩ := hI
  refine ⟨⟨by omega, h2, h3⟩, ⟨fun k => ?_, hr⟩, fun i hi => ?_, hq⟩
  · by_cases z : k = n
    · subst z; rw [va_up_self]; omega
    · rw [va_up_ne _ _ z]; exact hsg k
  · by_cases z : i = n
    · subst z; rw [va_up_self]; omega
    · rw [va_up_ne _ _ z]; exact hv1 i (by omega)
theorem iv_clear (hI : iv n mw nf sg fo L le sc li ba ca) : iv 0 mw nf sg fo L le sc li ba ca := by
  obtain ⟨⟨h1, h2, h3⟩, hr, hv1, hq⟩ := hI
  exact ⟨⟨by omega, h2, h3⟩, hr, fun i hi => by omega, hq⟩
theorem iv_fold (hI : iv n mw nf sg fo L le sc li ba ca) {y z : Nat} (hz : 97 ≤ z ∧ z ≤ 122) : iv n mw nf sg (va_up fo (y - 97) z) L le sc li ba ca := by
  obtain ⟨h0, ⟨hsg, hfo, hr⟩, hv1, hv2, hq⟩ := hI
  refine ⟨h0, ⟨hsg, fun k => ?_, hr⟩, hv1, fun k hk => ?_, hq⟩
  · by_cases q : k = y - 97
    · subst q; rw [va_up_self]; omega
    · rw [va_up_ne _ _ q]; exact hfo k
  · by_cases q : k = y - 97
    · subst q; rw [va_up_self]; omega
    · rw [va_up_ne _ _ q]; exact hv2 k hk
theorem iv_enO (hI : iv n mw nf sg fo L le sc li ba ca) {t s0 w : Nat} (ht : t < 4) (hs : s0 ≤ 1000) (hw : w < mw) : iv n mw nf sg fo L le (va_up sc w (max (sc w) s0)) (va_up li w (li w ||| 2 ^ t)) ba ca := by
  obtain ⟨h1, ⟨hsg, hfo, hL, hle, hsc, hli, hba, hca⟩, hv1, hv2, hv3, hv4, hv5, hv6, hv7⟩ := hI
  have a1 := hli w
  have a2 := hsc w
  obtain ⟨-, -, ⟨y, q1, q2, -⟩, -⟩ := tb_lt (li w) (by omega) t ht
  refine ⟨h1, ⟨hsg, hfo, hL, hle, fun k => ?_, fun k => ?_, hba, hca⟩, hv1, hv2, hv3, hv4, hv5, fun v hv => ?_, hv7⟩
  · by_cases z : k = w
    · subst z; rw [va_up_self]; omega
    · rw [va_up_ne _ _ z]; exact hsc k
  · by_cases z : k = w
    · subst z; rw [va_up_self]; omega
    · rw [va_up_ne _ _ z]; exact hli k
  · rw [va_up_ne _ _ (by omega), va_up_ne _ _ (by omega)]; exact hv6 v hv
theorem adL_at {i v j : Nat} (hv : v ≠ mw) (hj : j < 15) (hn : i ≤ 15) : adL n mw i sg fo L (15 * v + j) = L (15 * v + j) := by
  rw [adL, if_neg (by omega)]
theorem adL_in {i j : Nat} (hj : j < i) : adL n mw i sg fo L (15 * mw + j) = fsg sg fo j := by
  rw [adL, if_pos (by omega), Nat.add_sub_cancel_left]
theorem adL_out {i j : Nat} (hj : i ≤ j) : adL n mw i sg fo L (15 * mw + j) = L (15 * mw + j) := by
  rw [adL, if_neg (by omega)]
theorem iv_enT (hI : iv n mw nf sg fo L le sc li ba ca) {t s0 : Nat} (ht : t < 4) (hs : s0 ≤ 1000) (h0 : n ≠ 0) (hb : hbl n sg = false) (hm : mw < 250) : iv n (mw + 1) nf sg fo (adL n mw n sg fo L) (va_up le mw n) (va_up sc mw s0) (va_up li mw (2 ^ t)) ba ca := by
  obtain ⟨⟨h1, h2, h3⟩, ⟨hsg, hfo, hL, hle, hsc, hli, hba, hca⟩, hv1, hv2, hv3, hv4, hv5, hv6, hv7⟩ := id hI
  have hnb : ∀ i, i < n → 97 ≤ fsg sg fo i := fun i hi => by
    rcases fsg_in hI hi with q | q
    · exfalso
      have hsi : sg i ≠ 63 := fun z => by rw [hbl, decide_eq_true ⟨i, hi, z⟩] at hb; exact absurd hb (by decide)
      rw [fsg, if_neg hsi] at q
      have a1 := hsg i
      rcases hv1 i hi with b1 | b1
      · exact hsi b1
      · have := hv2 (sg i - 97) (by omega); omega
    · exact q.1
  refine ⟨⟨h1, by omega, by omega⟩, ⟨hsg, hfo, fun k => ?_, fun k => ?_, fun k => ?_, fun k => ?_, hba, hca⟩, hv1, hv2, fun w hw => ?_, fun w i hw hi => ?_, fun w i hw hi hq => ?_, fun w hw => ?_, fun k hk => by have := hv7 k hk; omega⟩
  · rw [adL]; split
    · exact fsg_le hI _
    · exact hL k
  · by_cases z : k = mw
    · subst z; rw [va_up_self]; omega
    · rw [va_up_ne _ _ z]; exact hle k
  · by_cases z : k = mw
    · subst z; rw [va_up_self]; omega
    · rw [va_up_ne _ _ z]; exact hsc k
  · by_cases z : k = mw
    · subst z; rw [va_up_self]
      have : ∀ t, t < 4 → 2 ^ t ≤ 15 := by decide
      exact this t ht
    · rw [va_up_ne _ _ z]; exact hli k
  · by_cases z : w = mw
    · subst z; rw [va_up_self]; omega
    · rw [va_up_ne _ _ z]; exact hv3 w (by omega)
  · by_cases z : w = mw
    · subst z
      rw [va_up_self] at hi
      rw [adL_in hi]; exact hnb i hi
    · rw [va_up_ne _ _ z] at hi
      have := hle w
      rw [adL_at z (by omega) h1]; exact hv4 w i (by omega) hi
  · by_cases z : w = mw
    · subst z
      rw [va_up_self] at hq
      rw [adL_out (by omega)]; exact hv5 w i hw hi (Or.inl (Nat.le_refl _))
    · rw [va_up_ne _ _ z] at hq
      rw [adL_at z hi h1]; exact hv5 w i hw hi (by omega)
  · rw [va_up_ne _ _ (by omega), va_up_ne _ _ (by omega)]; exact hv6 w (by omega)
theorem sk_inv (hca : ∀ k, ca k < 250) {t : Nat} (hm : mw ≤ 250) : ∀ i, i ≤ mw → (skS n sg fo L le sc li ba t ca i).1 ≤ i ∧ (∀ k, k < (skS n sg fo L le sc li ba t ca i).1 → (skS n sg fo L le sc li ba t ca i).2 k < i) ∧ ∀ k, (skS n sg fo L le sc li ba t ca i).2 k < 250 := by
  intro i
  induction i with
  | zero => exact fun _ => ⟨Nat.le_refl 0, fun k hk => absurd hk (Nat.not_lt_zero k), hca⟩
  | succ i ih =>
    intro hi
    obtain ⟨h1, h2, h3⟩ := ih (by omega)
    rw [skS]
    generalize skS n sg fo L le sc li ba t ca i = z at h1 h2 h3 ⊢
    obtain ⟨f, c⟩ := z
    cases fre li ba t i with
    | false => exact ⟨by show f ≤ i + 1; have : f ≤ i := h1; omega, fun k hk => by have := h2 k hk; show c k < i + 1; have h9 : c k < i := this; omega, h3⟩
    | true =>
      cases fit n sg fo L le i with
      | false => exact ⟨by show f ≤ i + 1; have : f ≤ i := h1; omega, fun k hk => by have := h2 k hk; show c k < i + 1; have h9 : c k < i := this; omega, h3⟩
      | true => exact ⟨by show f + 1 ≤ i + 1; have : f ≤ i := h1; omega, fun k hk => inC_all (P := fun x => x < i + 1) (fun j hj => by have h9 : c j < i := h2 j hj; show c j < i + 1; omega) (by show i < i + 1; omega) k hk, inC_any (P := fun x => x < 250) h3 (by show i < 250; omega)⟩
theorem iv_seek (hI : iv n mw nf sg fo L le sc li ba ca) {t : Nat} : iv n mw (skS n sg fo L le sc li ba t ca mw).1 sg fo L le sc li ba (skS n sg fo L le sc li ba t ca mw).2 := by
  obtain ⟨h1, h2, h3⟩ := sk_inv (n := n) (sg := sg) (fo := fo) (L := L) (le := le) (sc := sc) (li := li) (ba := ba) (t := t) hI.2.1.2.2.2.2.2.2.2 hI.1.2.1 mw (Nat.le_refl _)
  exact iv_sk hI h1 h3 h2
end IVS
theorem lw5 {Ln i : Nat} (hL : Ln ≤ 2560) (hi : i ≤ 2565) (h : ¬ nI Ln - nI 5 < nI i) : i + 5 ≤ Ln := by
  rw [Int32.lt_iff_toInt_lt, pk_sub_toInt (by omega) (by omega), nI_toInt (by omega)] at h
  omega
