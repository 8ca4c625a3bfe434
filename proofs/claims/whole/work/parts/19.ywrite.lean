/-! ===== the reference: writers ===== -/
theorem wof_m1 {mw : Nat} {P : Nat → Bool} (hm : mw < 2 ^ 31) (h : wof mw P = -1) : ∀ j, j < mw → P j = false := by
  intro j hj
  cases hp : P j with
  | false => rfl
  | true =>
    exfalso
    have hx : ∃ i, i < mw ∧ P i = true ∧ ∀ k, k < i → P k = false := by
      obtain ⟨i, h1, h2⟩ := pk_least (fun i => P i = true) ⟨j, hp⟩
      refine ⟨i, ?_, h1, fun k hk => by cases hc : P k with | false => rfl | true => exact absurd hc (h2 k hk)⟩
      rcases Nat.lt_or_ge j i with q | q
      · exact absurd hp (h2 j q)
      · omega
    obtain ⟨i, h1, h2, h3⟩ := hx
    rw [wof_at h1 h3 h2] at h
    exact nI_m1 (by omega) h
theorem shl1 : ∀ t, t < 4 → nI 1 <<< (nI t &&& 31) = nI (2 ^ t) := by
  have key : ∀ t : Fin 4, nI 1 <<< (nI t.val &&& 31) = nI (2 ^ t.val) := by decide +kernel
  exact fun t ht => key ⟨t, ht⟩
theorem va_up_id {f : Nat → Nat} {k v : Nat} (h : f k = v) : va_up f k v = f := by
  funext j
  by_cases q : j = k
  · subst q; rw [va_up_self, h]
  · rw [va_up_ne _ _ q]
set_option maxRecDepth 100000 in
theorem kX1_fails (l : Launch) (dC : Nat → ClassId) (dI : Nat → Nat → Nat) (cI cZ cJ : ClassId) (a : Nat → Nat) (th n mw nf : Nat) (sg fo L le sc li ba ca : Nat → Nat) (wa : Nat → Int32) (o : Bool) : wr l yX1_fails cX1_fails 2 (some .boolean) 0 0 [.ref (a 0), .int (nI o.toNat)] dC dI cI cZ cJ (vY cI cZ a th n mw nf sg fo L le sc li ba ca wa) (vY cI cZ a o.toNat n mw nf sg fo L le sc li ba ca wa) (some (.int (nI o.toNat))) := by
  refine wr_ofW RX1 (by decide) rfl (Nat.le_of_ble_eq_true rfl) ?_
  intro p e s m below meth c S hr hlk hK hP hD hS ls hl
  have hl : lv_has ls 2 [(0, .ref (a 0)), (1, .int (nI o.toNat))] := hl
  refine lv_aload_n S.1 S.2.1 dX1_fails_0 rfl (lv_at hl 0 rfl) ?_
  refine lv_iload_n S.1 S.2.1 dX1_fails_1 rfl (lv_at hl 1 rfl) ?_
  have key : W p l e ({ frames := 0, cells := 0, slots := 0, locals := 0 } : Room) s m ([.ref (a 0), .int (nI o.toNat)] : List Value).toArray below meth c s.heap [] 0 0 (MQ below (Qw dC dI (vY cI cZ a th n mw nf sg fo L le sc li ba ca wa) (vY cI cZ a o.toNat n mw nf sg fo L le sc li ba ca wa) (some (.int (nI o.toNat)))) ([.ref (a 0), .int (nI o.toNat)] : List Value).toArray s 0 0 (wF (vY cI cZ a th n mw nf sg fo L le sc li ba ca wa))) (F0 m 10 ls [.int (nI o.toNat), .ref (a 0)]) := by
    refine pX1_thrown S hK hP hD hS rfl (Nat.le_of_ble_eq_true rfl) dX1_fails_10 (fun H locs hP hD hS => ?_)
    have hP : va_P (dC, dI) vcl (vY cI cZ a o.toNat n mw nf sg fo L le sc li ba ca wa) H := hP
    refine lv_iload_n S.1 S.2.1 dX1_fails_13 rfl (lv_at hl 1 rfl) ?_
    exact wr_ret S hr hlk (nar_b _) rfl hP rfl hS dX1_fails_14
  refine n_bif_eq (b := o) (tgt := 9) S dX1_fails_2 (by decide) (fun h2 => ?_) (fun h2 => ?_)
  · refine lv_iconst (v := nI o.toNat) S.1 S.2.1 dX1_fails_9 (by rw [h2]; decide) ?_
    exact key
  · refine lv_iconst (v := nI o.toNat) S.1 S.2.1 dX1_fails_5 (by rw [h2]; decide) ?_
    refine lv_goto (tgt := 10) S.1 S.2.1 dX1_fails_6 (by decide) ?_
    exact key

set_option maxRecDepth 100000 in
set_option maxHeartbeats 1000000 in
theorem kX1_signF (l : Launch) (dC : Nat → ClassId) (dI : Nat → Nat → Nat) (cI cZ cJ : ClassId) (a : Nat → Nat) (th n mw nf : Nat) (sg fo L le sc li ba ca : Nat → Nat) (wa : Nat → Int32) (u : Int32) (hI : iv n mw nf sg fo L le sc li ba ca) (hu : n = 15 ∨ (isL u = false ∧ ¬ u = nI 63)) : wr l yX1_sign cX1_sign 2 (some .boolean) 1 20 [.ref (a 0), .int u] dC dI cI cZ cJ (vY cI cZ a th n mw nf sg fo L le sc li ba ca wa) (vY cI cZ a 0 n mw nf sg fo L le sc li ba ca wa) (some (.int (nI (0)))) := by
  refine wr_ofW RX1 (by decide) rfl (Nat.le_of_ble_eq_true rfl) ?_
  intro p e s m below meth c S hr hlk hK hP hD hS ls hl
  have hl : lv_has ls 2 [(0, .ref (a 0)), (1, .int u)] := hl
  obtain ⟨⟨hn, hm, hf⟩, ⟨hsg, hfo, hL, hle, hsc, hli, hba, hca⟩, hv1, hv2, hv3, hv4, hv5, hv6, hv7⟩ := id hI
  refine lv_aload_n S.1 S.2.1 dX1_sign_0 rfl (lv_at hl 0 rfl) ?_
  refine lv_iconst (v := (nI 0)) S.1 S.2.1 dX1_sign_1 (by decide) ?_
  refine pX1_thrown S hK hP hD hS rfl (Nat.le_of_ble_eq_true rfl) dX1_sign_2 (fun H locs hP hD hS => ?_)
  have hP : va_P (dC, dI) vcl (vY cI cZ a 0 n mw nf sg fo L le sc li ba ca wa) H := hP
  have hD : va_D (wF (vY cI cZ a th n mw nf sg fo L le sc li ba ca wa)) (vY cI cZ a 0 n mw nf sg fo L le sc li ba ca wa) := hD
  refine lv_iload_n S.1 S.2.1 dX1_sign_5 rfl (lv_at hl 1 rfl) ?_
  refine rd_callS (As := [.int u]) (rest := []) S (kX1_isLetter l u) tr_blind (fun _ _ _ => trivial) gX1_45 hdX1_isLetter (by decide) hl.1 rfl (Nat.le_of_ble_eq_true rfl) dX1_sign_6 ⟨Nat.zero_le _, Nat.zero_le _⟩ ?_
  refine n_bif_ne (b := isL u) (tgt := 18) S dX1_sign_9 (by decide) (fun h9 => ?_) (fun h9 => ?_)
  · refine lv_aload_n S.1 S.2.1 dX1_sign_18 rfl (lv_at hl 0 rfl) ?_
    refine fX1_size (v := .int (nI n)) S hK hP rfl rfl dX1_sign_19 ?_
    refine lv_bipush (v := (nI 15)) S.1 S.2.1 dX1_sign_22 (by decide) ?_
    refine n_icmp_ne (x := n) (y := 15) (tgt := 29) S dX1_sign_24 (by decide) (by omega) (by omega) (fun h24 => ?_) (fun h24 => ?_)
    · exact absurd hu (fun q => q.elim h24 (fun q => by first | exact q.2 h15 | exact absurd h9 (by rw [q.1]; decide) | exact q.2 (Classical.not_not.mp h15)))
    · refine lv_iconst (v := (nI 0)) S.1 S.2.1 dX1_sign_27 (by decide) ?_
      exact wr_ret S hr hlk (rfl) (rfl) hP (rfl) hS dX1_sign_28
  · refine lv_iload_n S.1 S.2.1 dX1_sign_12 rfl (lv_at hl 1 rfl) ?_
    refine lv_bipush (v := (nI 63)) S.1 S.2.1 dX1_sign_13 (by decide) ?_
    refine lv_icmp_ne (tgt := 27) S.1 S.2.1 dX1_sign_15 (by decide) (fun h15 => ?_) (fun h15 => ?_)
    · refine lv_iconst (v := (nI 0)) S.1 S.2.1 dX1_sign_27 (by decide) ?_
      exact wr_ret S hr hlk (rfl) (rfl) hP (rfl) hS dX1_sign_28
    · refine lv_aload_n S.1 S.2.1 dX1_sign_18 rfl (lv_at hl 0 rfl) ?_
      refine fX1_size (v := .int (nI n)) S hK hP rfl rfl dX1_sign_19 ?_
      refine lv_bipush (v := (nI 15)) S.1 S.2.1 dX1_sign_22 (by decide) ?_
      refine n_icmp_ne (x := n) (y := 15) (tgt := 29) S dX1_sign_24 (by decide) (by omega) (by omega) (fun h24 => ?_) (fun h24 => ?_)
      · exact absurd hu (fun q => q.elim h24 (fun q => by first | exact q.2 h15 | exact absurd h9 (by rw [q.1]; decide) | exact q.2 (Classical.not_not.mp h15)))
      · refine lv_iconst (v := (nI 0)) S.1 S.2.1 dX1_sign_27 (by decide) ?_
        exact wr_ret S hr hlk (rfl) (rfl) hP (rfl) hS dX1_sign_28

set_option maxRecDepth 100000 in
set_option maxHeartbeats 1000000 in
theorem kX1_signT (l : Launch) (dC : Nat → ClassId) (dI : Nat → Nat → Nat) (cI cZ cJ : ClassId) (a : Nat → Nat) (th n mw nf : Nat) (sg fo L le sc li ba ca : Nat → Nat) (wa : Nat → Int32) (j : Nat) (hI : iv n mw nf sg fo L le sc li ba ca) (hj : j = 63 ∨ (97 ≤ j ∧ j ≤ 122)) (hn5 : n < 15) : wr l yX1_sign cX1_sign 2 (some .boolean) 1 20 [.ref (a 0), .int (nI j)] dC dI cI cZ cJ (vY cI cZ a th n mw nf sg fo L le sc li ba ca wa) (vY cI cZ a 0 (n + 1) mw nf (va_up sg n j) fo L le sc li ba ca wa) (some (.int (nI (1)))) := by
  refine wr_ofW RX1 (by decide) rfl (Nat.le_of_ble_eq_true rfl) ?_
  intro p e s m below meth c S hr hlk hK hP hD hS ls hl
  have hl : lv_has ls 2 [(0, .ref (a 0)), (1, .int (nI j))] := hl
  obtain ⟨⟨hn, hm, hf⟩, ⟨hsg, hfo, hL, hle, hsc, hli, hba, hca⟩, hv1, hv2, hv3, hv4, hv5, hv6, hv7⟩ := id hI
  refine lv_aload_n S.1 S.2.1 dX1_sign_0 rfl (lv_at hl 0 rfl) ?_
  refine lv_iconst (v := (nI 0)) S.1 S.2.1 dX1_sign_1 (by decide) ?_
  refine pX1_thrown S hK hP hD hS rfl (Nat.le_of_ble_eq_true rfl) dX1_sign_2 (fun H locs hP hD hS => ?_)
  have hP : va_P (dC, dI) vcl (vY cI cZ a 0 n mw nf sg fo L le sc li ba ca wa) H := hP
  have hD : va_D (wF (vY cI cZ a th n mw nf sg fo L le sc li ba ca wa)) (vY cI cZ a 0 n mw nf sg fo L le sc li ba ca wa) := hD
  refine lv_iload_n S.1 S.2.1 dX1_sign_5 rfl (lv_at hl 1 rfl) ?_
  refine rd_callS (As := [.int (nI j)]) (rest := []) S (kX1_isLetter l ((nI j))) tr_blind (fun _ _ _ => trivial) gX1_45 hdX1_isLetter (by decide) hl.1 rfl (Nat.le_of_ble_eq_true rfl) dX1_sign_6 ⟨Nat.zero_le _, Nat.zero_le _⟩ ?_
  rw [isL_n (by omega)]
  refine n_bif_ne (b := (decide (97 ≤ j) && decide (j < 123))) (tgt := 18) S dX1_sign_9 (by decide) (fun h9 => ?_) (fun h9 => ?_)
  · refine lv_aload_n S.1 S.2.1 dX1_sign_18 rfl (lv_at hl 0 rfl) ?_
    refine fX1_size (v := .int (nI n)) S hK hP rfl rfl dX1_sign_19 ?_
    refine lv_bipush (v := (nI 15)) S.1 S.2.1 dX1_sign_22 (by decide) ?_
    refine n_icmp_ne (x := n) (y := 15) (tgt := 29) S dX1_sign_24 (by decide) (by omega) (by omega) (fun h24 => ?_) (fun h24 => ?_)
    · refine lv_aload_n S.1 S.2.1 dX1_sign_29 rfl (lv_at hl 0 rfl) ?_
      refine fX1_row (v := .ref (a 1)) S hK hP rfl rfl dX1_sign_30 ?_
      refine lv_aload_n S.1 S.2.1 dX1_sign_33 rfl (lv_at hl 0 rfl) ?_
      refine fX1_size (v := .int (nI n)) S hK hP rfl rfl dX1_sign_34 ?_
      refine lv_iload_n S.1 S.2.1 dX1_sign_37 rfl (lv_at hl 1 rfl) ?_
      refine n_iast S hK hP hD hS 1 0 rfl rfl dX1_sign_38 (j := n) (x := j) (by decide) (by omega) (fun H locs hP hD hS => ?_)
      have hP : va_P (dC, dI) vcl (vY cI cZ a 0 n mw nf (va_up sg n j) fo L le sc li ba ca wa) H := hP
      have hD : va_D (wF (vY cI cZ a th n mw nf sg fo L le sc li ba ca wa)) (vY cI cZ a 0 n mw nf (va_up sg n j) fo L le sc li ba ca wa) := hD
      refine lv_aload_n S.1 S.2.1 dX1_sign_39 rfl (lv_at hl 0 rfl) ?_
      refine lv_dup S.1 S.2.1 dX1_sign_40 rfl ?_
      refine fX1_size (v := .int (nI n)) S hK hP rfl rfl dX1_sign_41 ?_
      refine lv_iconst (v := (nI 1)) S.1 S.2.1 dX1_sign_44 (by decide) ?_
      refine n_iadd (x := n) (y := 1) S dX1_sign_45 ?_
      refine pX1_size S hK hP hD hS rfl (Nat.le_of_ble_eq_true rfl) dX1_sign_46 (fun H locs hP hD hS => ?_)
      have hP : va_P (dC, dI) vcl (vY cI cZ a 0 (n + 1) mw nf (va_up sg n j) fo L le sc li ba ca wa) H := hP
      have hD : va_D (wF (vY cI cZ a th n mw nf sg fo L le sc li ba ca wa)) (vY cI cZ a 0 (n + 1) mw nf (va_up sg n j) fo L le sc li ba ca wa) := hD
      refine lv_iconst (v := (nI 1)) S.1 S.2.1 dX1_sign_49 (by decide) ?_
      exact wr_ret S hr hlk (rfl) (rfl) hP (rfl) hS dX1_sign_50
    · exact absurd h24 (by omega)
  · refine lv_iload_n S.1 S.2.1 dX1_sign_12 rfl (lv_at hl 1 rfl) ?_
    refine lv_bipush (v := (nI 63)) S.1 S.2.1 dX1_sign_13 (by decide) ?_
    refine n_icmp_ne (x := j) (y := 63) (tgt := 27) S dX1_sign_15 (by decide) (by omega) (by omega) (fun h15 => ?_) (fun h15 => ?_)
    · exact absurd hj (by simp only [Bool.and_eq_false_iff, decide_eq_false_iff_not] at h9; omega)
    · refine lv_aload_n S.1 S.2.1 dX1_sign_18 rfl (lv_at hl 0 rfl) ?_
      refine fX1_size (v := .int (nI n)) S hK hP rfl rfl dX1_sign_19 ?_
      refine lv_bipush (v := (nI 15)) S.1 S.2.1 dX1_sign_22 (by decide) ?_
      refine n_icmp_ne (x := n) (y := 15) (tgt := 29) S dX1_sign_24 (by decide) (by omega) (by omega) (fun h24 => ?_) (fun h24 => ?_)
      · refine lv_aload_n S.1 S.2.1 dX1_sign_29 rfl (lv_at hl 0 rfl) ?_
        refine fX1_row (v := .ref (a 1)) S hK hP rfl rfl dX1_sign_30 ?_
        refine lv_aload_n S.1 S.2.1 dX1_sign_33 rfl (lv_at hl 0 rfl) ?_
        refine fX1_size (v := .int (nI n)) S hK hP rfl rfl dX1_sign_34 ?_
        refine lv_iload_n S.1 S.2.1 dX1_sign_37 rfl (lv_at hl 1 rfl) ?_
        refine n_iast S hK hP hD hS 1 0 rfl rfl dX1_sign_38 (j := n) (x := j) (by decide) (by omega) (fun H locs hP hD hS => ?_)
        have hP : va_P (dC, dI) vcl (vY cI cZ a 0 n mw nf (va_up sg n j) fo L le sc li ba ca wa) H := hP
        have hD : va_D (wF (vY cI cZ a th n mw nf sg fo L le sc li ba ca wa)) (vY cI cZ a 0 n mw nf (va_up sg n j) fo L le sc li ba ca wa) := hD
        refine lv_aload_n S.1 S.2.1 dX1_sign_39 rfl (lv_at hl 0 rfl) ?_
        refine lv_dup S.1 S.2.1 dX1_sign_40 rfl ?_
        refine fX1_size (v := .int (nI n)) S hK hP rfl rfl dX1_sign_41 ?_
        refine lv_iconst (v := (nI 1)) S.1 S.2.1 dX1_sign_44 (by decide) ?_
        refine n_iadd (x := n) (y := 1) S dX1_sign_45 ?_
        refine pX1_size S hK hP hD hS rfl (Nat.le_of_ble_eq_true rfl) dX1_sign_46 (fun H locs hP hD hS => ?_)
        have hP : va_P (dC, dI) vcl (vY cI cZ a 0 (n + 1) mw nf (va_up sg n j) fo L le sc li ba ca wa) H := hP
        have hD : va_D (wF (vY cI cZ a th n mw nf sg fo L le sc li ba ca wa)) (vY cI cZ a 0 (n + 1) mw nf (va_up sg n j) fo L le sc li ba ca wa) := hD
        refine lv_iconst (v := (nI 1)) S.1 S.2.1 dX1_sign_49 (by decide) ?_
        exact wr_ret S hr hlk (rfl) (rfl) hP (rfl) hS dX1_sign_50
      · exact absurd h24 (by omega)

set_option maxRecDepth 100000 in
set_option maxHeartbeats 1000000 in
theorem kX1_clear (l : Launch) (dC : Nat → ClassId) (dI : Nat → Nat → Nat) (cI cZ cJ : ClassId) (a : Nat → Nat) (th n mw nf : Nat) (sg fo L le sc li ba ca : Nat → Nat) (wa : Nat → Int32) (hI : iv n mw nf sg fo L le sc li ba ca) : wr l yX1_clear cX1_clear 1 none 0 0 [.ref (a 0)] dC dI cI cZ cJ (vY cI cZ a th n mw nf sg fo L le sc li ba ca wa) (vY cI cZ a 0 0 mw nf sg fo L le sc li ba ca wa) none := by
  refine wr_ofW RX1 (by decide) rfl (Nat.le_of_ble_eq_true rfl) ?_
  intro p e s m below meth c S hr hlk hK hP hD hS ls hl
  have hl : lv_has ls 1 [(0, .ref (a 0))] := hl
  obtain ⟨⟨hn, hm, hf⟩, ⟨hsg, hfo, hL, hle, hsc, hli, hba, hca⟩, hv1, hv2, hv3, hv4, hv5, hv6, hv7⟩ := id hI
  refine lv_aload_n S.1 S.2.1 dX1_clear_0 rfl (lv_at hl 0 rfl) ?_
  refine lv_iconst (v := (nI 0)) S.1 S.2.1 dX1_clear_1 (by decide) ?_
  refine pX1_thrown S hK hP hD hS rfl (Nat.le_of_ble_eq_true rfl) dX1_clear_2 (fun H locs hP hD hS => ?_)
  have hP : va_P (dC, dI) vcl (vY cI cZ a 0 n mw nf sg fo L le sc li ba ca wa) H := hP
  have hD : va_D (wF (vY cI cZ a th n mw nf sg fo L le sc li ba ca wa)) (vY cI cZ a 0 n mw nf sg fo L le sc li ba ca wa) := hD
  refine lv_aload_n S.1 S.2.1 dX1_clear_5 rfl (lv_at hl 0 rfl) ?_
  refine lv_iconst (v := (nI 0)) S.1 S.2.1 dX1_clear_6 (by decide) ?_
  refine pX1_size S hK hP hD hS rfl (Nat.le_of_ble_eq_true rfl) dX1_clear_7 (fun H locs hP hD hS => ?_)
  have hP : va_P (dC, dI) vcl (vY cI cZ a 0 0 mw nf sg fo L le sc li ba ca wa) H := hP
  have hD : va_D (wF (vY cI cZ a th n mw nf sg fo L le sc li ba ca wa)) (vY cI cZ a 0 0 mw nf sg fo L le sc li ba ca wa) := hD
  exact wr_retv S hr hlk hP (rfl) hS dX1_clear_10

set_option maxRecDepth 100000 in
set_option maxHeartbeats 1000000 in
theorem kX1_fold (l : Launch) (dC : Nat → ClassId) (dI : Nat → Nat → Nat) (cI cZ cJ : ClassId) (a : Nat → Nat) (th n mw nf : Nat) (sg fo L le sc li ba ca : Nat → Nat) (wa : Nat → Int32) (y : Nat) (z : Nat) (hI : iv n mw nf sg fo L le sc li ba ca) (hy : 97 ≤ y ∧ y ≤ 122) (hz : 97 ≤ z ∧ z ≤ 122) : wr l yX1_fold cX1_fold 3 none 1 21 [.ref (a 0), .int (nI y), .int (nI z)] dC dI cI cZ cJ (vY cI cZ a th n mw nf sg fo L le sc li ba ca wa) (vY cI cZ a 0 n mw nf sg (va_up fo (y - 97) z) L le sc li ba ca wa) none := by
  refine wr_ofW RX1 (by decide) rfl (Nat.le_of_ble_eq_true rfl) ?_
  intro p e s m below meth c S hr hlk hK hP hD hS ls hl
  have hl : lv_has ls 3 [(0, .ref (a 0)), (1, .int (nI y)), (2, .int (nI z))] := hl
  obtain ⟨⟨hn, hm, hf⟩, ⟨hsg, hfo, hL, hle, hsc, hli, hba, hca⟩, hv1, hv2, hv3, hv4, hv5, hv6, hv7⟩ := id hI
  refine lv_aload_n S.1 S.2.1 dX1_fold_0 rfl (lv_at hl 0 rfl) ?_
  refine lv_iload_n S.1 S.2.1 dX1_fold_1 rfl (lv_at hl 1 rfl) ?_
  refine rd_callS (As := [.int (nI y)]) (rest := [.ref (a 0)]) S (kX1_isLetter l ((nI y))) tr_blind (fun _ _ _ => trivial) gX1_45 hdX1_isLetter (by decide) hl.1 rfl (Nat.le_of_ble_eq_true rfl) dX1_fold_2 ⟨Nat.zero_le _, Nat.zero_le _⟩ ?_
  rw [isL_i hy]
  refine n_bif_eq (b := true) (tgt := 15) S dX1_fold_5 (by decide) (fun h5 => ?_) (fun h5 => ?_)
  · exact absurd h5 (by decide)
  · refine lv_iload_n S.1 S.2.1 dX1_fold_8 rfl (lv_at hl 2 rfl) ?_
    refine rd_callS (As := [.int (nI z)]) (rest := [.ref (a 0)]) S (kX1_isLetter l ((nI z))) tr_blind (fun _ _ _ => trivial) gX1_45 hdX1_isLetter (by decide) hl.1 rfl (Nat.le_of_ble_eq_true rfl) dX1_fold_9 ⟨Nat.zero_le _, Nat.zero_le _⟩ ?_
    rw [isL_i hz]
    refine n_bif_ne (b := true) (tgt := 19) S dX1_fold_12 (by decide) (fun h12 => ?_) (fun h12 => ?_)
    · refine lv_iconst (v := (nI 0)) S.1 S.2.1 dX1_fold_19 (by decide) ?_
      refine wr_callV (C := RX1) (As := [.int (nI 0)]) (rest := []) S (kX1_fails l dC dI cI cZ cJ a th n mw nf sg fo L le sc li ba ca wa false) hK [] [] hP hD hS rfl (va_recv hK hP (ci := 1) (q0 := 0) rfl rfl) gX1_52 hdX1_fails (by decide) hl.1 rfl (Nat.le_of_ble_eq_true rfl) dX1_fold_20 ⟨Nat.zero_le _, Nat.zero_le _⟩ (fun H locs hP hD hS => ?_)
      have hP : va_P (dC, dI) vcl (vY cI cZ a 0 n mw nf sg fo L le sc li ba ca wa) H := hP
      have hD : va_D (wF (vY cI cZ a th n mw nf sg fo L le sc li ba ca wa)) (vY cI cZ a 0 n mw nf sg fo L le sc li ba ca wa) := hD
      refine n_bif_ne (b := false) (tgt := 36) S dX1_fold_23 (by decide) (fun h23 => ?_) (fun h23 => ?_)
      · exact absurd h23 (by decide)
      · refine lv_aload_n S.1 S.2.1 dX1_fold_26 rfl (lv_at hl 0 rfl) ?_
        refine fX1_folds (v := .ref (a 2)) S hK hP rfl rfl dX1_fold_27 ?_
        refine lv_iload_n S.1 S.2.1 dX1_fold_30 rfl (lv_at hl 1 rfl) ?_
        refine lv_bipush (v := (nI 97)) S.1 S.2.1 dX1_fold_31 (by decide) ?_
        refine n_isub (x := y) (y := 97) S dX1_fold_33 (by omega) ?_
        refine lv_iload_n S.1 S.2.1 dX1_fold_34 rfl (lv_at hl 2 rfl) ?_
        refine n_iast S hK hP hD hS 2 0 rfl rfl dX1_fold_35 (j := y - 97) (x := z) (by decide) (by omega) (fun H locs hP hD hS => ?_)
        have hP : va_P (dC, dI) vcl (vY cI cZ a 0 n mw nf sg (va_up fo (y - 97) z) L le sc li ba ca wa) H := hP
        have hD : va_D (wF (vY cI cZ a th n mw nf sg fo L le sc li ba ca wa)) (vY cI cZ a 0 n mw nf sg (va_up fo (y - 97) z) L le sc li ba ca wa) := hD
        exact wr_retv S hr hlk hP (rfl) hS dX1_fold_36
    · exact absurd h12 (by decide)

set_option maxRecDepth 100000 in
set_option maxHeartbeats 1000000 in
theorem kX1_foldF (l : Launch) (dC : Nat → ClassId) (dI : Nat → Nat → Nat) (cI cZ cJ : ClassId) (a : Nat → Nat) (th n mw nf : Nat) (sg fo L le sc li ba ca : Nat → Nat) (wa : Nat → Int32) (u : Int32) (v : Int32) (hu : isL u = false ∨ isL v = false) : wr l yX1_fold cX1_fold 3 none 1 21 [.ref (a 0), .int u, .int v] dC dI cI cZ cJ (vY cI cZ a th n mw nf sg fo L le sc li ba ca wa) (vY cI cZ a 1 n mw nf sg fo L le sc li ba ca wa) none := by
  refine wr_ofW RX1 (by decide) rfl (Nat.le_of_ble_eq_true rfl) ?_
  intro p e s m below meth c S hr hlk hK hP hD hS ls hl
  have hl : lv_has ls 3 [(0, .ref (a 0)), (1, .int u), (2, .int v)] := hl
  refine lv_aload_n S.1 S.2.1 dX1_fold_0 rfl (lv_at hl 0 rfl) ?_
  refine lv_iload_n S.1 S.2.1 dX1_fold_1 rfl (lv_at hl 1 rfl) ?_
  refine rd_callS (As := [.int u]) (rest := [.ref (a 0)]) S (kX1_isLetter l u) tr_blind (fun _ _ _ => trivial) gX1_45 hdX1_isLetter (by decide) hl.1 rfl (Nat.le_of_ble_eq_true rfl) dX1_fold_2 ⟨Nat.zero_le _, Nat.zero_le _⟩ ?_
  refine n_bif_eq (b := isL u) (tgt := 15) S dX1_fold_5 (by decide) (fun h5 => ?_) (fun h5 => ?_)
  · refine lv_iconst (v := (nI 1)) S.1 S.2.1 dX1_fold_15 (by decide) ?_
    refine lv_goto (tgt := 20) S.1 S.2.1 dX1_fold_16 (by decide) ?_
    refine wr_callV (C := RX1) (As := [.int (nI 1)]) (rest := []) S (kX1_fails l dC dI cI cZ cJ a th n mw nf sg fo L le sc li ba ca wa true) hK [] [] hP hD hS rfl (va_recv hK hP (ci := 1) (q0 := 0) rfl rfl) gX1_52 hdX1_fails (by decide) hl.1 rfl (Nat.le_of_ble_eq_true rfl) dX1_fold_20 ⟨Nat.zero_le _, Nat.zero_le _⟩ (fun H locs hP hD hS => ?_)
    have hP : va_P (dC, dI) vcl (vY cI cZ a 1 n mw nf sg fo L le sc li ba ca wa) H := hP
    have hD : va_D (wF (vY cI cZ a th n mw nf sg fo L le sc li ba ca wa)) (vY cI cZ a 1 n mw nf sg fo L le sc li ba ca wa) := hD
    refine n_bif_ne (b := true) (tgt := 36) S dX1_fold_23 (by decide) (fun h23 => ?_) (fun h23 => ?_)
    · exact wr_retv S hr hlk hP (rfl) hS dX1_fold_36
    · exact absurd h23 (by decide)
  · refine lv_iload_n S.1 S.2.1 dX1_fold_8 rfl (lv_at hl 2 rfl) ?_
    refine rd_callS (As := [.int v]) (rest := [.ref (a 0)]) S (kX1_isLetter l v) tr_blind (fun _ _ _ => trivial) gX1_45 hdX1_isLetter (by decide) hl.1 rfl (Nat.le_of_ble_eq_true rfl) dX1_fold_9 ⟨Nat.zero_le _, Nat.zero_le _⟩ ?_
    refine n_bif_ne (b := isL v) (tgt := 19) S dX1_fold_12 (by decide) (fun h12 => ?_) (fun h12 => ?_)
    · exact absurd hu (by rw [h5, h12]; decide)
    · refine lv_iconst (v := (nI 1)) S.1 S.2.1 dX1_fold_15 (by decide) ?_
      refine lv_goto (tgt := 20) S.1 S.2.1 dX1_fold_16 (by decide) ?_
      refine wr_callV (C := RX1) (As := [.int (nI 1)]) (rest := []) S (kX1_fails l dC dI cI cZ cJ a th n mw nf sg fo L le sc li ba ca wa true) hK [] [] hP hD hS rfl (va_recv hK hP (ci := 1) (q0 := 0) rfl rfl) gX1_52 hdX1_fails (by decide) hl.1 rfl (Nat.le_of_ble_eq_true rfl) dX1_fold_20 ⟨Nat.zero_le _, Nat.zero_le _⟩ (fun H locs hP hD hS => ?_)
      have hP : va_P (dC, dI) vcl (vY cI cZ a 1 n mw nf sg fo L le sc li ba ca wa) H := hP
      have hD : va_D (wF (vY cI cZ a th n mw nf sg fo L le sc li ba ca wa)) (vY cI cZ a 1 n mw nf sg fo L le sc li ba ca wa) := hD
      refine n_bif_ne (b := true) (tgt := 36) S dX1_fold_23 (by decide) (fun h23 => ?_) (fun h23 => ?_)
      · exact wr_retv S hr hlk hP (rfl) hS dX1_fold_36
      · exact absurd h23 (by decide)

set_option maxRecDepth 100000 in
set_option maxHeartbeats 1000000 in
theorem kX1_enterF (l : Launch) (dC : Nat → ClassId) (dI : Nat → Nat → Nat) (cI cZ cJ : ClassId) (a : Nat → Nat) (th n mw nf : Nat) (sg fo L le sc li ba ca : Nat → Nat) (wa : Nat → Int32) (u : Int32) (x : Int32) (hu : isLi u = false) : wr l yX1_enter cX1_enter 4 (some .int) 1 21 [.ref (a 0), .int u, .int x] dC dI cI cZ cJ (vY cI cZ a th n mw nf sg fo L le sc li ba ca wa) (vY cI cZ a 1 n mw nf sg fo L le sc li ba ca wa) (some (.int (nI (0)))) := by
  refine wr_ofW RX1 (by decide) rfl (Nat.le_of_ble_eq_true rfl) ?_
  intro p e s m below meth c S hr hlk hK hP hD hS ls hl
  have hl : lv_has ls 4 [(0, .ref (a 0)), (1, .int u), (2, .int x)] := hl
  refine lv_aload_n S.1 S.2.1 dX1_enter_0 rfl (lv_at hl 0 rfl) ?_
  refine lv_iload_n S.1 S.2.1 dX1_enter_1 rfl (lv_at hl 1 rfl) ?_
  refine rd_callS (As := [.int u]) (rest := [.ref (a 0)]) S (kX1_isList l u) tr_blind (fun _ _ _ => trivial) gX1_68 hdX1_isList (by decide) hl.1 rfl (Nat.le_of_ble_eq_true rfl) dX1_enter_2 ⟨Nat.zero_le _, Nat.zero_le _⟩ ?_
  rw [hu]
  refine n_bif_ne (b := false) (tgt := 12) S dX1_enter_5 (by decide) (fun h5 => ?_) (fun h5 => ?_)
  · exact absurd h5 (by decide)
  · refine lv_iconst (v := (nI 1)) S.1 S.2.1 dX1_enter_8 (by decide) ?_
    refine lv_goto (tgt := 13) S.1 S.2.1 dX1_enter_9 (by decide) ?_
    refine wr_callV (C := RX1) (As := [.int (nI 1)]) (rest := []) S (kX1_fails l dC dI cI cZ cJ a th n mw nf sg fo L le sc li ba ca wa true) hK [] [] hP hD hS rfl (va_recv hK hP (ci := 1) (q0 := 0) rfl rfl) gX1_52 hdX1_fails (by decide) hl.1 rfl (Nat.le_of_ble_eq_true rfl) dX1_enter_13 ⟨Nat.zero_le _, Nat.zero_le _⟩ (fun H locs hP hD hS => ?_)
    have hP : va_P (dC, dI) vcl (vY cI cZ a 1 n mw nf sg fo L le sc li ba ca wa) H := hP
    have hD : va_D (wF (vY cI cZ a th n mw nf sg fo L le sc li ba ca wa)) (vY cI cZ a 1 n mw nf sg fo L le sc li ba ca wa) := hD
    refine n_bif_eq (b := true) (tgt := 21) S dX1_enter_16 (by decide) (fun h16 => ?_) (fun h16 => ?_)
    · exact absurd h16 (by decide)
    · refine lv_iconst (v := (nI 0)) S.1 S.2.1 dX1_enter_19 (by decide) ?_
      exact wr_ret S hr hlk (rfl) (rfl) hP (rfl) hS dX1_enter_20

set_option maxRecDepth 100000 in
set_option maxHeartbeats 1000000 in
theorem lX1_enterN_50 (l : Launch) (dC : Nat → ClassId) (dI : Nat → Nat → Nat) (cI cZ cJ : ClassId) (a : Nat → Nat) (th n mw nf : Nat) (sg fo L le sc li ba ca : Nat → Nat) (wa : Nat → Int32) (t : Nat) (x : Int32) (hI : iv n mw nf sg fo L le sc li ba ca) (ht : t < 4) (he : n = 0 ∨ hbl n sg = true ∨ x < 0 ∨ nI 1000 < x ∨ (wof mw (fit n sg fo L le) = -1 ∧ mw = 250))  {p : Program} {e : Env} {s : State} {m : MethodId} {below : List Frame} {meth : Method} {c : Code} (S : CallFix p m c cX1_enter 4 s ([.ref (a 0), .int (nI t), .int x] : List Value).toArray tbG RX1) (hr : meth.sig.returnType = (some .int)) (hlk : meth.locks = false) (hK : va_K (dC, dI) vcl (vty cI cZ cJ) s) :
    ∀ (fuel : Nat) (i : Nat), mw - i < fuel → ((∀ j, j < mw → fit n sg fo L le j = false) ∧ mw = 250) → i ≤ mw → ∀ (H : Heap) (locs : List Loc), va_P (dC, dI) vcl (vY cI cZ a 0 n mw nf sg fo L le sc li ba ca wa) H → va_D (wF (vY cI cZ a th n mw nf sg fo L le sc li ba ca wa)) (vY cI cZ a 0 n mw nf sg fo L le sc li ba ca wa) → va_S (wF (vY cI cZ a th n mw nf sg fo L le sc li ba ca wa)) s.heap H locs → ∀ ls : Array Slot, lv_has ls 4 [(0, .ref (a 0)), (1, .int (nI t)), (2, .int x), (3, .int (nI i))] → W p l e ({ frames := 3, cells := 0, slots := 0, locals := 66 } : Room) s m ([.ref (a 0), .int (nI t), .int x] : List Value).toArray below meth c H locs 0 0 (MQ below (Qw dC dI (vY cI cZ a th n mw nf sg fo L le sc li ba ca wa) (vY cI cZ a 0 n mw nf sg fo L le sc li ba ca wa) (some (.int ((-1 : Int32))))) ([.ref (a 0), .int (nI t), .int x] : List Value).toArray s 0 0 (wF (vY cI cZ a th n mw nf sg fo L le sc li ba ca wa))) (F0 m 50 ls []) := by
  obtain ⟨⟨hn, hm, hf⟩, ⟨hsg, hfo, hL, hle, hsc, hli, hba, hca⟩, hv1, hv2, hv3, hv4, hv5, hv6, hv7⟩ := id hI
  intro fuel
  induction fuel with
  | zero =>
    intro i hq
    exact absurd hq (Nat.not_lt_zero _)
  | succ fuel ih =>
    intro i hq hl9 hi H locs hP hD hS ls hl
    refine lv_iload_n S.1 S.2.1 dX1_enter_50 rfl (lv_at hl 3 rfl) ?_
    refine lv_aload_n S.1 S.2.1 dX1_enter_51 rfl (lv_at hl 0 rfl) ?_
    refine fX1_many (v := .int (nI mw)) S hK hP rfl rfl dX1_enter_52 ?_
    refine n_icmp_ge (x := i) (y := mw) (tgt := 119) S dX1_enter_55 (by decide) (by omega) (by omega) (fun h55 => ?_) (fun h55 => ?_)
    · refine lv_aload_n S.1 S.2.1 dX1_enter_119 rfl (lv_at hl 0 rfl) ?_
      refine fX1_many (v := .int (nI mw)) S hK hP rfl rfl dX1_enter_120 ?_
      refine lv_sipush (v := (nI 250)) S.1 S.2.1 dX1_enter_123 (by decide) ?_
      refine n_icmp_ne (x := mw) (y := 250) (tgt := 131) S dX1_enter_126 (by decide) (by omega) (by omega) (fun h126 => ?_) (fun h126 => ?_)
      · exact absurd hl9.2 h126
      · refine lv_iconst (v := -1) S.1 S.2.1 dX1_enter_129 (by decide) ?_
        exact wr_ret S hr hlk (rfl) (rfl) hP (rfl) hS dX1_enter_130
    · refine lv_aload_n S.1 S.2.1 dX1_enter_58 rfl (lv_at hl 0 rfl) ?_
      refine lv_iload_n S.1 S.2.1 dX1_enter_59 rfl (lv_at hl 3 rfl) ?_
      refine rd_callV (C := RX1) (As := [.int (nI i)]) (rest := []) S (kX1_fits l dC dI cI cZ cJ a 0 n mw nf sg fo L le sc li ba ca wa i hI (by omega)) rB_blind (fun U hU hW => ⟨by rw [hU]; exact hP, va_K.moved hW.alike hK⟩) (va_recv hK hP (ci := 1) (q0 := 0) rfl rfl) gX1_75 hdX1_fits (by decide) hl.1 rfl (Nat.le_of_ble_eq_true rfl) dX1_enter_60 ⟨Nat.zero_le _, Nat.zero_le _⟩ ?_
      refine n_bif_ne (b := fit n sg fo L le i) (tgt := 69) S dX1_enter_63 (by decide) (fun h63 => ?_) (fun h63 => ?_)
      · exact absurd (hl9.1 i (by omega)) (by rw [h63]; decide)
      · refine lv_goto (tgt := 113) S.1 S.2.1 dX1_enter_66 (by decide) ?_
        refine n_iinc (lv' := [(3, .int (nI (i + 1))), (0, .ref (a 0)), (1, .int (nI t)), (2, .int x)]) (x := i) (k := 3) S dX1_enter_113 hl rfl (by decide) rfl (fun ls hl => ?_)
        refine lv_goto (tgt := 50) S.1 S.2.1 dX1_enter_116 (by decide) ?_
        exact ih (i + 1) (by omega) hl9 (by omega) _ _ hP hD hS ls (lv_sub hl [1, 2, 3, 0] rfl)
set_option maxRecDepth 100000 in
set_option maxHeartbeats 1000000 in
theorem kX1_enterN (l : Launch) (dC : Nat → ClassId) (dI : Nat → Nat → Nat) (cI cZ cJ : ClassId) (a : Nat → Nat) (th n mw nf : Nat) (sg fo L le sc li ba ca : Nat → Nat) (wa : Nat → Int32) (t : Nat) (x : Int32) (hI : iv n mw nf sg fo L le sc li ba ca) (ht : t < 4) (he : n = 0 ∨ hbl n sg = true ∨ x < 0 ∨ nI 1000 < x ∨ (wof mw (fit n sg fo L le) = -1 ∧ mw = 250)) : wr l yX1_enter cX1_enter 4 (some .int) 3 66 [.ref (a 0), .int (nI t), .int x] dC dI cI cZ cJ (vY cI cZ a th n mw nf sg fo L le sc li ba ca wa) (vY cI cZ a 0 n mw nf sg fo L le sc li ba ca wa) (some (.int ((-1 : Int32)))) := by
  refine wr_ofW RX1 (by decide) rfl (Nat.le_of_ble_eq_true rfl) ?_
  intro p e s m below meth c S hr hlk hK hP hD hS ls hl
  have hl : lv_has ls 4 [(0, .ref (a 0)), (1, .int (nI t)), (2, .int x)] := hl
  obtain ⟨⟨hn, hm, hf⟩, ⟨hsg, hfo, hL, hle, hsc, hli, hba, hca⟩, hv1, hv2, hv3, hv4, hv5, hv6, hv7⟩ := id hI
  refine lv_aload_n S.1 S.2.1 dX1_enter_0 rfl (lv_at hl 0 rfl) ?_
  refine lv_iload_n S.1 S.2.1 dX1_enter_1 rfl (lv_at hl 1 rfl) ?_
  refine rd_callS (As := [.int (nI t)]) (rest := [.ref (a 0)]) S (kX1_isList l ((nI t))) tr_blind (fun _ _ _ => trivial) gX1_68 hdX1_isList (by decide) hl.1 rfl (Nat.le_of_ble_eq_true rfl) dX1_enter_2 ⟨Nat.zero_le _, Nat.zero_le _⟩ ?_
  rw [isLi_n ht]
  refine n_bif_ne (b := true) (tgt := 12) S dX1_enter_5 (by decide) (fun h5 => ?_) (fun h5 => ?_)
  · refine lv_iconst (v := (nI 0)) S.1 S.2.1 dX1_enter_12 (by decide) ?_
    refine wr_callV (C := RX1) (As := [.int (nI 0)]) (rest := []) S (kX1_fails l dC dI cI cZ cJ a th n mw nf sg fo L le sc li ba ca wa false) hK [] [] hP hD hS rfl (va_recv hK hP (ci := 1) (q0 := 0) rfl rfl) gX1_52 hdX1_fails (by decide) hl.1 rfl (Nat.le_of_ble_eq_true rfl) dX1_enter_13 ⟨Nat.zero_le _, Nat.zero_le _⟩ (fun H locs hP hD hS => ?_)
    have hP : va_P (dC, dI) vcl (vY cI cZ a 0 n mw nf sg fo L le sc li ba ca wa) H := hP
    have hD : va_D (wF (vY cI cZ a th n mw nf sg fo L le sc li ba ca wa)) (vY cI cZ a 0 n mw nf sg fo L le sc li ba ca wa) := hD
    refine n_bif_eq (b := false) (tgt := 21) S dX1_enter_16 (by decide) (fun h16 => ?_) (fun h16 => ?_)
    · refine lv_aload_n S.1 S.2.1 dX1_enter_21 rfl (lv_at hl 0 rfl) ?_
      refine fX1_size (v := .int (nI n)) S hK hP rfl rfl dX1_enter_22 ?_
      refine n_if_eq (x := n) (tgt := 46) S dX1_enter_25 (by decide) (by omega) (fun h25 => ?_) (fun h25 => ?_)
      · refine lv_iconst (v := -1) S.1 S.2.1 dX1_enter_46 (by decide) ?_
        exact wr_ret S hr hlk (rfl) (rfl) hP (rfl) hS dX1_enter_47
      · refine lv_aload_n S.1 S.2.1 dX1_enter_28 rfl (lv_at hl 0 rfl) ?_
        refine rd_callV (C := RX1) (As := []) (rest := []) S (kX1_hasBlank l dC dI cI cZ cJ a 0 n mw nf sg fo L le sc li ba ca wa hI) rB_blind (fun U hU hW => ⟨by rw [hU]; exact hP, va_K.moved hW.alike hK⟩) (va_recv hK hP (ci := 1) (q0 := 0) rfl rfl) gX1_71 hdX1_hasBlank (by decide) hl.1 rfl (Nat.le_of_ble_eq_true rfl) dX1_enter_29 ⟨Nat.zero_le _, Nat.zero_le _⟩ ?_
        refine n_bif_ne (b := hbl n sg) (tgt := 46) S dX1_enter_32 (by decide) (fun h32 => ?_) (fun h32 => ?_)
        · refine lv_iconst (v := -1) S.1 S.2.1 dX1_enter_46 (by decide) ?_
          exact wr_ret S hr hlk (rfl) (rfl) hP (rfl) hS dX1_enter_47
        · refine lv_iload_n S.1 S.2.1 dX1_enter_35 rfl (lv_at hl 2 rfl) ?_
          refine lv_if_lt (tgt := 46) S.1 S.2.1 dX1_enter_36 (by decide) (fun h36 => ?_) (fun h36 => ?_)
          · refine lv_iconst (v := -1) S.1 S.2.1 dX1_enter_46 (by decide) ?_
            exact wr_ret S hr hlk (rfl) (rfl) hP (rfl) hS dX1_enter_47
          · refine lv_iload_n S.1 S.2.1 dX1_enter_39 rfl (lv_at hl 2 rfl) ?_
            refine lv_sipush (v := (nI 1000)) S.1 S.2.1 dX1_enter_40 (by decide) ?_
            refine lv_icmp_le (tgt := 48) S.1 S.2.1 dX1_enter_43 (by decide) (fun h43 => ?_) (fun h43 => ?_)
            · refine lv_iconst (v := (nI 0)) S.1 S.2.1 dX1_enter_48 (by decide) ?_
              refine lv_istore_n (lv' := [(3, .int (nI 0)), (0, .ref (a 0)), (1, .int (nI t)), (2, .int x)]) S.1 S.2.1 dX1_enter_49 rfl hl (by decide) rfl (fun ls hl => ?_)
              exact lX1_enterN_50 l dC dI cI cZ cJ a th n mw nf sg fo L le sc li ba ca wa t x hI ht he S hr hlk hK _ 0 (Nat.lt_succ_self _) ⟨wof_m1 (by omega) (show wof mw (fit n sg fo L le) = -1 ∧ mw = 250 by rcases he with q | q | q | q | q; exact absurd q h25; exact absurd q (by rw [h32]; decide); exact absurd q h36; exact absurd h43 (Int32.not_le.mpr q); exact q).1, (show wof mw (fit n sg fo L le) = -1 ∧ mw = 250 by rcases he with q | q | q | q | q; exact absurd q h25; exact absurd q (by rw [h32]; decide); exact absurd q h36; exact absurd h43 (Int32.not_le.mpr q); exact q).2⟩ (by omega) _ _ hP hD hS ls (lv_sub hl [1, 2, 3, 0] rfl)
            · refine lv_iconst (v := -1) S.1 S.2.1 dX1_enter_46 (by decide) ?_
              exact wr_ret S hr hlk (rfl) (rfl) hP (rfl) hS dX1_enter_47
    · exact absurd h16 (by decide)
  · exact absurd h5 (by decide)

set_option maxRecDepth 100000 in
set_option maxHeartbeats 1000000 in
theorem lX1_enterO_50 (l : Launch) (dC : Nat → ClassId) (dI : Nat → Nat → Nat) (cI cZ cJ : ClassId) (a : Nat → Nat) (th n mw nf : Nat) (sg fo L le sc li ba ca : Nat → Nat) (wa : Nat → Int32) (t : Nat) (s0 : Nat) (w : Nat) (hI : iv n mw nf sg fo L le sc li ba ca) (ht : t < 4) (hs : s0 ≤ 1000) (h0 : n ≠ 0) (hb : hbl n sg = false) (hw : w < mw) (hf1 : fit n sg fo L le w = true) (hf2 : ∀ j, j < w → fit n sg fo L le j = false)  {p : Program} {e : Env} {s : State} {m : MethodId} {below : List Frame} {meth : Method} {c : Code} (S : CallFix p m c cX1_enter 4 s ([.ref (a 0), .int (nI t), .int (nI s0)] : List Value).toArray tbG RX1) (hr : meth.sig.returnType = (some .int)) (hlk : meth.locks = false) (hK : va_K (dC, dI) vcl (vty cI cZ cJ) s) :
    ∀ (fuel : Nat) (i : Nat), w - i < fuel → i ≤ w → ∀ (H : Heap) (locs : List Loc), va_P (dC, dI) vcl (vY cI cZ a 0 n mw nf sg fo L le sc li ba ca wa) H → va_D (wF (vY cI cZ a th n mw nf sg fo L le sc li ba ca wa)) (vY cI cZ a 0 n mw nf sg fo L le sc li ba ca wa) → va_S (wF (vY cI cZ a th n mw nf sg fo L le sc li ba ca wa)) s.heap H locs → ∀ ls : Array Slot, lv_has ls 4 [(0, .ref (a 0)), (1, .int (nI t)), (2, .int (nI s0)), (3, .int (nI i))] → W p l e ({ frames := 3, cells := 0, slots := 0, locals := 66 } : Room) s m ([.ref (a 0), .int (nI t), .int (nI s0)] : List Value).toArray below meth c H locs 0 0 (MQ below (Qw dC dI (vY cI cZ a th n mw nf sg fo L le sc li ba ca wa) (vY cI cZ a 0 n mw nf sg fo L le (va_up sc w (max (sc w) s0)) (va_up li w (li w ||| 2 ^ t)) ba ca wa) (some (.int (nI (w))))) ([.ref (a 0), .int (nI t), .int (nI s0)] : List Value).toArray s 0 0 (wF (vY cI cZ a th n mw nf sg fo L le sc li ba ca wa))) (F0 m 50 ls []) := by
  obtain ⟨⟨hn, hm, hf⟩, ⟨hsg, hfo, hL, hle, hsc, hli, hba, hca⟩, hv1, hv2, hv3, hv4, hv5, hv6, hv7⟩ := id hI
  intro fuel
  induction fuel with
  | zero =>
    intro i hq
    exact absurd hq (Nat.not_lt_zero _)
  | succ fuel ih =>
    intro i hq hi H locs hP hD hS ls hl
    refine lv_iload_n S.1 S.2.1 dX1_enter_50 rfl (lv_at hl 3 rfl) ?_
    refine lv_aload_n S.1 S.2.1 dX1_enter_51 rfl (lv_at hl 0 rfl) ?_
    refine fX1_many (v := .int (nI mw)) S hK hP rfl rfl dX1_enter_52 ?_
    refine n_icmp_ge (x := i) (y := mw) (tgt := 119) S dX1_enter_55 (by decide) (by omega) (by omega) (fun h55 => ?_) (fun h55 => ?_)
    · exact absurd h55 (by omega)
    · refine lv_aload_n S.1 S.2.1 dX1_enter_58 rfl (lv_at hl 0 rfl) ?_
      refine lv_iload_n S.1 S.2.1 dX1_enter_59 rfl (lv_at hl 3 rfl) ?_
      refine rd_callV (C := RX1) (As := [.int (nI i)]) (rest := []) S (kX1_fits l dC dI cI cZ cJ a 0 n mw nf sg fo L le sc li ba ca wa i hI (by omega)) rB_blind (fun U hU hW => ⟨by rw [hU]; exact hP, va_K.moved hW.alike hK⟩) (va_recv hK hP (ci := 1) (q0 := 0) rfl rfl) gX1_75 hdX1_fits (by decide) hl.1 rfl (Nat.le_of_ble_eq_true rfl) dX1_enter_60 ⟨Nat.zero_le _, Nat.zero_le _⟩ ?_
      refine n_bif_ne (b := fit n sg fo L le i) (tgt := 69) S dX1_enter_63 (by decide) (fun h63 => ?_) (fun h63 => ?_)
      · have ew : i = w := by rcases Nat.lt_or_ge i w with q | q; exact absurd h63 (by rw [hf2 i q]; decide); omega
        subst ew
        refine lv_aload_n S.1 S.2.1 dX1_enter_69 rfl (lv_at hl 0 rfl) ?_
        refine fX1_lists (v := .ref (a 6)) S hK hP rfl rfl dX1_enter_70 ?_
        refine lv_iload_n S.1 S.2.1 dX1_enter_73 rfl (lv_at hl 3 rfl) ?_
        refine lv_aload_n S.1 S.2.1 dX1_enter_74 rfl (lv_at hl 0 rfl) ?_
        refine fX1_lists (v := .ref (a 6)) S hK hP rfl rfl dX1_enter_75 ?_
        refine lv_iload_n S.1 S.2.1 dX1_enter_78 rfl (lv_at hl 3 rfl) ?_
        refine n_iald S hK hP 6 0 rfl rfl dX1_enter_79 (j := i) (by decide) (by omega) ?_
        have b79 := hli i
        refine lv_iconst (v := (nI 1)) S.1 S.2.1 dX1_enter_80 (by decide) ?_
        refine lv_iload_n S.1 S.2.1 dX1_enter_81 rfl (lv_at hl 1 rfl) ?_
        refine lv_ishl S.1 S.2.1 dX1_enter_82 ?_
        refine lv_ior S.1 S.2.1 dX1_enter_83 ?_
        have hbb : nI (li i) ||| (nI 1 <<< (nI t &&& 31)) = nI (li i ||| 2 ^ t) := by obtain ⟨y, q1, q2, q3⟩ := (tb_lt (li i) (by omega) t ht).2.2.1; rw [← q2]; exact q3
        rw [hbb]
        refine n_iast S hK hP hD hS 6 0 rfl rfl dX1_enter_84 (j := i) (x := li i ||| 2 ^ t) (by decide) (by omega) (fun H locs hP hD hS => ?_)
        have hP : va_P (dC, dI) vcl (vY cI cZ a 0 n mw nf sg fo L le sc (va_up li i (li i ||| 2 ^ t)) ba ca wa) H := hP
        have hD : va_D (wF (vY cI cZ a th n mw nf sg fo L le sc li ba ca wa)) (vY cI cZ a 0 n mw nf sg fo L le sc (va_up li i (li i ||| 2 ^ t)) ba ca wa) := hD
        refine lv_aload_n S.1 S.2.1 dX1_enter_85 rfl (lv_at hl 0 rfl) ?_
        refine fX1_scores (v := .ref (a 5)) S hK hP rfl rfl dX1_enter_86 ?_
        refine lv_iload_n S.1 S.2.1 dX1_enter_89 rfl (lv_at hl 3 rfl) ?_
        refine lv_aload_n S.1 S.2.1 dX1_enter_90 rfl (lv_at hl 0 rfl) ?_
        refine fX1_scores (v := .ref (a 5)) S hK hP rfl rfl dX1_enter_91 ?_
        refine lv_iload_n S.1 S.2.1 dX1_enter_94 rfl (lv_at hl 3 rfl) ?_
        refine n_iald S hK hP 5 0 rfl rfl dX1_enter_95 (j := i) (by decide) (by omega) ?_
        have b95 := hsc i
        refine lv_iload_n S.1 S.2.1 dX1_enter_96 rfl (lv_at hl 2 rfl) ?_
        refine n_icmp_le (x := sc i) (y := s0) (tgt := 109) S dX1_enter_97 (by decide) (by omega) (by omega) (fun h97 => ?_) (fun h97 => ?_)
        · refine lv_iload_n S.1 S.2.1 dX1_enter_109 rfl (lv_at hl 2 rfl) ?_
          refine n_iast S hK hP hD hS 5 0 rfl rfl dX1_enter_110 (j := i) (x := s0) (by decide) (by omega) (fun H locs hP hD hS => ?_)
          have hP : va_P (dC, dI) vcl (vY cI cZ a 0 n mw nf sg fo L le (va_up sc i s0) (va_up li i (li i ||| 2 ^ t)) ba ca wa) H := hP
          have hD : va_D (wF (vY cI cZ a th n mw nf sg fo L le sc li ba ca wa)) (vY cI cZ a 0 n mw nf sg fo L le (va_up sc i s0) (va_up li i (li i ||| 2 ^ t)) ba ca wa) := hD
          refine lv_iload_n S.1 S.2.1 dX1_enter_111 rfl (lv_at hl 3 rfl) ?_
          exact wr_ret S hr hlk (rfl) (rfl) hP (by first | rw [Nat.max_eq_right h97] | rw [Nat.max_eq_left (Nat.le_of_lt h97)]) hS dX1_enter_112
        · refine lv_aload_n S.1 S.2.1 dX1_enter_100 rfl (lv_at hl 0 rfl) ?_
          refine fX1_scores (v := .ref (a 5)) S hK hP rfl rfl dX1_enter_101 ?_
          refine lv_iload_n S.1 S.2.1 dX1_enter_104 rfl (lv_at hl 3 rfl) ?_
          refine n_iald S hK hP 5 0 rfl rfl dX1_enter_105 (j := i) (by decide) (by omega) ?_
          have b105 := hsc i
          refine lv_goto (tgt := 110) S.1 S.2.1 dX1_enter_106 (by decide) ?_
          refine n_iast S hK hP hD hS 5 0 rfl rfl dX1_enter_110 (j := i) (x := sc i) (by decide) (by omega) (fun H locs hP hD hS => ?_)
          have hP : va_P (dC, dI) vcl (vY cI cZ a 0 n mw nf sg fo L le (va_up sc i (sc i)) (va_up li i (li i ||| 2 ^ t)) ba ca wa) H := hP
          have hD : va_D (wF (vY cI cZ a th n mw nf sg fo L le sc li ba ca wa)) (vY cI cZ a 0 n mw nf sg fo L le (va_up sc i (sc i)) (va_up li i (li i ||| 2 ^ t)) ba ca wa) := hD
          refine lv_iload_n S.1 S.2.1 dX1_enter_111 rfl (lv_at hl 3 rfl) ?_
          exact wr_ret S hr hlk (rfl) (rfl) hP (by first | rw [Nat.max_eq_right h97] | rw [Nat.max_eq_left (Nat.le_of_lt h97)]) hS dX1_enter_112
      · refine lv_goto (tgt := 113) S.1 S.2.1 dX1_enter_66 (by decide) ?_
        refine n_iinc (lv' := [(3, .int (nI (i + 1))), (0, .ref (a 0)), (1, .int (nI t)), (2, .int (nI s0))]) (x := i) (k := 3) S dX1_enter_113 hl rfl (by decide) rfl (fun ls hl => ?_)
        refine lv_goto (tgt := 50) S.1 S.2.1 dX1_enter_116 (by decide) ?_
        exact ih (i + 1) (by rcases Nat.lt_or_ge i w with q | q; omega; exact absurd hf1 (by rw [show w = i by omega, h63]; decide)) (by rcases Nat.lt_or_ge i w with q | q; omega; exact absurd hf1 (by rw [show w = i by omega, h63]; decide)) _ _ hP hD hS ls (lv_sub hl [1, 2, 3, 0] rfl)
set_option maxRecDepth 100000 in
set_option maxHeartbeats 1000000 in
theorem kX1_enterO (l : Launch) (dC : Nat → ClassId) (dI : Nat → Nat → Nat) (cI cZ cJ : ClassId) (a : Nat → Nat) (th n mw nf : Nat) (sg fo L le sc li ba ca : Nat → Nat) (wa : Nat → Int32) (t : Nat) (s0 : Nat) (w : Nat) (hI : iv n mw nf sg fo L le sc li ba ca) (ht : t < 4) (hs : s0 ≤ 1000) (h0 : n ≠ 0) (hb : hbl n sg = false) (hw : w < mw) (hf1 : fit n sg fo L le w = true) (hf2 : ∀ j, j < w → fit n sg fo L le j = false) : wr l yX1_enter cX1_enter 4 (some .int) 3 66 [.ref (a 0), .int (nI t), .int (nI s0)] dC dI cI cZ cJ (vY cI cZ a th n mw nf sg fo L le sc li ba ca wa) (vY cI cZ a 0 n mw nf sg fo L le (va_up sc w (max (sc w) s0)) (va_up li w (li w ||| 2 ^ t)) ba ca wa) (some (.int (nI (w)))) := by
  refine wr_ofW RX1 (by decide) rfl (Nat.le_of_ble_eq_true rfl) ?_
  intro p e s m below meth c S hr hlk hK hP hD hS ls hl
  have hl : lv_has ls 4 [(0, .ref (a 0)), (1, .int (nI t)), (2, .int (nI s0))] := hl
  obtain ⟨⟨hn, hm, hf⟩, ⟨hsg, hfo, hL, hle, hsc, hli, hba, hca⟩, hv1, hv2, hv3, hv4, hv5, hv6, hv7⟩ := id hI
  refine lv_aload_n S.1 S.2.1 dX1_enter_0 rfl (lv_at hl 0 rfl) ?_
  refine lv_iload_n S.1 S.2.1 dX1_enter_1 rfl (lv_at hl 1 rfl) ?_
  refine rd_callS (As := [.int (nI t)]) (rest := [.ref (a 0)]) S (kX1_isList l ((nI t))) tr_blind (fun _ _ _ => trivial) gX1_68 hdX1_isList (by decide) hl.1 rfl (Nat.le_of_ble_eq_true rfl) dX1_enter_2 ⟨Nat.zero_le _, Nat.zero_le _⟩ ?_
  rw [isLi_n ht]
  refine n_bif_ne (b := true) (tgt := 12) S dX1_enter_5 (by decide) (fun h5 => ?_) (fun h5 => ?_)
  · refine lv_iconst (v := (nI 0)) S.1 S.2.1 dX1_enter_12 (by decide) ?_
    refine wr_callV (C := RX1) (As := [.int (nI 0)]) (rest := []) S (kX1_fails l dC dI cI cZ cJ a th n mw nf sg fo L le sc li ba ca wa false) hK [] [] hP hD hS rfl (va_recv hK hP (ci := 1) (q0 := 0) rfl rfl) gX1_52 hdX1_fails (by decide) hl.1 rfl (Nat.le_of_ble_eq_true rfl) dX1_enter_13 ⟨Nat.zero_le _, Nat.zero_le _⟩ (fun H locs hP hD hS => ?_)
    have hP : va_P (dC, dI) vcl (vY cI cZ a 0 n mw nf sg fo L le sc li ba ca wa) H := hP
    have hD : va_D (wF (vY cI cZ a th n mw nf sg fo L le sc li ba ca wa)) (vY cI cZ a 0 n mw nf sg fo L le sc li ba ca wa) := hD
    refine n_bif_eq (b := false) (tgt := 21) S dX1_enter_16 (by decide) (fun h16 => ?_) (fun h16 => ?_)
    · refine lv_aload_n S.1 S.2.1 dX1_enter_21 rfl (lv_at hl 0 rfl) ?_
      refine fX1_size (v := .int (nI n)) S hK hP rfl rfl dX1_enter_22 ?_
      refine n_if_eq (x := n) (tgt := 46) S dX1_enter_25 (by decide) (by omega) (fun h25 => ?_) (fun h25 => ?_)
      · exact absurd h25 h0
      · refine lv_aload_n S.1 S.2.1 dX1_enter_28 rfl (lv_at hl 0 rfl) ?_
        refine rd_callV (C := RX1) (As := []) (rest := []) S (kX1_hasBlank l dC dI cI cZ cJ a 0 n mw nf sg fo L le sc li ba ca wa hI) rB_blind (fun U hU hW => ⟨by rw [hU]; exact hP, va_K.moved hW.alike hK⟩) (va_recv hK hP (ci := 1) (q0 := 0) rfl rfl) gX1_71 hdX1_hasBlank (by decide) hl.1 rfl (Nat.le_of_ble_eq_true rfl) dX1_enter_29 ⟨Nat.zero_le _, Nat.zero_le _⟩ ?_
        refine n_bif_ne (b := hbl n sg) (tgt := 46) S dX1_enter_32 (by decide) (fun h32 => ?_) (fun h32 => ?_)
        · exact absurd h32 (by rw [hb]; decide)
        · refine lv_iload_n S.1 S.2.1 dX1_enter_35 rfl (lv_at hl 2 rfl) ?_
          refine n_if_lt (x := s0) (tgt := 46) S dX1_enter_36 (by decide) (by omega) ?_
          refine lv_iload_n S.1 S.2.1 dX1_enter_39 rfl (lv_at hl 2 rfl) ?_
          refine lv_sipush (v := (nI 1000)) S.1 S.2.1 dX1_enter_40 (by decide) ?_
          refine n_icmp_le (x := s0) (y := 1000) (tgt := 48) S dX1_enter_43 (by decide) (by omega) (by omega) (fun h43 => ?_) (fun h43 => ?_)
          · refine lv_iconst (v := (nI 0)) S.1 S.2.1 dX1_enter_48 (by decide) ?_
            refine lv_istore_n (lv' := [(3, .int (nI 0)), (0, .ref (a 0)), (1, .int (nI t)), (2, .int (nI s0))]) S.1 S.2.1 dX1_enter_49 rfl hl (by decide) rfl (fun ls hl => ?_)
            exact lX1_enterO_50 l dC dI cI cZ cJ a th n mw nf sg fo L le sc li ba ca wa t s0 w hI ht hs h0 hb hw hf1 hf2 S hr hlk hK _ 0 (Nat.lt_succ_self _) (by omega) _ _ hP hD hS ls (lv_sub hl [1, 2, 3, 0] rfl)
          · exact absurd hs (by omega)
    · exact absurd h16 (by decide)
  · exact absurd h5 (by decide)

set_option maxRecDepth 100000 in
set_option maxHeartbeats 1000000 in
theorem lX1_enterT_133 (l : Launch) (dC : Nat → ClassId) (dI : Nat → Nat → Nat) (cI cZ cJ : ClassId) (a : Nat → Nat) (th n mw nf : Nat) (sg fo L le sc li ba ca : Nat → Nat) (wa : Nat → Int32) (t : Nat) (s0 : Nat) (hI : iv n mw nf sg fo L le sc li ba ca) (ht : t < 4) (hs : s0 ≤ 1000) (h0 : n ≠ 0) (hb : hbl n sg = false) (hf2 : ∀ j, j < mw → fit n sg fo L le j = false) (hmw : mw < 250)  {p : Program} {e : Env} {s : State} {m : MethodId} {below : List Frame} {meth : Method} {c : Code} (S : CallFix p m c cX1_enter 4 s ([.ref (a 0), .int (nI t), .int (nI s0)] : List Value).toArray tbG RX1) (hr : meth.sig.returnType = (some .int)) (hlk : meth.locks = false) (hK : va_K (dC, dI) vcl (vty cI cZ cJ) s) :
    ∀ (fuel : Nat) (i : Nat), n - i < fuel → i ≤ n → ∀ (H : Heap) (locs : List Loc), va_P (dC, dI) vcl (vY cI cZ a 0 n mw nf sg fo (adL n mw i sg fo L) le sc li ba ca wa) H → va_D (wF (vY cI cZ a th n mw nf sg fo L le sc li ba ca wa)) (vY cI cZ a 0 n mw nf sg fo (adL n mw i sg fo L) le sc li ba ca wa) → va_S (wF (vY cI cZ a th n mw nf sg fo L le sc li ba ca wa)) s.heap H locs → ∀ ls : Array Slot, lv_has ls 4 [(0, .ref (a 0)), (1, .int (nI t)), (2, .int (nI s0)), (3, .int (nI i))] → W p l e ({ frames := 3, cells := 0, slots := 0, locals := 66 } : Room) s m ([.ref (a 0), .int (nI t), .int (nI s0)] : List Value).toArray below meth c H locs 0 0 (MQ below (Qw dC dI (vY cI cZ a th n mw nf sg fo L le sc li ba ca wa) (vY cI cZ a 0 n (mw + 1) nf sg fo (adL n mw n sg fo L) (va_up le mw n) (va_up sc mw s0) (va_up li mw (2 ^ t)) ba ca wa) (some (.int (nI (mw))))) ([.ref (a 0), .int (nI t), .int (nI s0)] : List Value).toArray s 0 0 (wF (vY cI cZ a th n mw nf sg fo L le sc li ba ca wa))) (F0 m 133 ls []) := by
  obtain ⟨⟨hn, hm, hf⟩, ⟨hsg, hfo, hL, hle, hsc, hli, hba, hca⟩, hv1, hv2, hv3, hv4, hv5, hv6, hv7⟩ := id hI
  intro fuel
  induction fuel with
  | zero =>
    intro i hq
    exact absurd hq (Nat.not_lt_zero _)
  | succ fuel ih =>
    intro i hq hi H locs hP hD hS ls hl
    refine lv_iload_n S.1 S.2.1 dX1_enter_133 rfl (lv_at hl 3 rfl) ?_
    refine lv_aload_n S.1 S.2.1 dX1_enter_134 rfl (lv_at hl 0 rfl) ?_
    refine fX1_size (v := .int (nI n)) S hK hP rfl rfl dX1_enter_135 ?_
    refine n_icmp_ge (x := i) (y := n) (tgt := 166) S dX1_enter_138 (by decide) (by omega) (by omega) (fun h138 => ?_) (fun h138 => ?_)
    · refine lv_aload_n S.1 S.2.1 dX1_enter_166 rfl (lv_at hl 0 rfl) ?_
      refine fX1_lengths (v := .ref (a 4)) S hK hP rfl rfl dX1_enter_167 ?_
      refine lv_aload_n S.1 S.2.1 dX1_enter_170 rfl (lv_at hl 0 rfl) ?_
      refine fX1_many (v := .int (nI mw)) S hK hP rfl rfl dX1_enter_171 ?_
      refine lv_aload_n S.1 S.2.1 dX1_enter_174 rfl (lv_at hl 0 rfl) ?_
      refine fX1_size (v := .int (nI n)) S hK hP rfl rfl dX1_enter_175 ?_
      refine n_iast S hK hP hD hS 4 0 rfl rfl dX1_enter_178 (j := mw) (x := n) (by decide) (by omega) (fun H locs hP hD hS => ?_)
      have hP : va_P (dC, dI) vcl (vY cI cZ a 0 n mw nf sg fo (adL n mw i sg fo L) (va_up le mw n) sc li ba ca wa) H := hP
      have hD : va_D (wF (vY cI cZ a th n mw nf sg fo L le sc li ba ca wa)) (vY cI cZ a 0 n mw nf sg fo (adL n mw i sg fo L) (va_up le mw n) sc li ba ca wa) := hD
      refine lv_aload_n S.1 S.2.1 dX1_enter_179 rfl (lv_at hl 0 rfl) ?_
      refine fX1_scores (v := .ref (a 5)) S hK hP rfl rfl dX1_enter_180 ?_
      refine lv_aload_n S.1 S.2.1 dX1_enter_183 rfl (lv_at hl 0 rfl) ?_
      refine fX1_many (v := .int (nI mw)) S hK hP rfl rfl dX1_enter_184 ?_
      refine lv_iload_n S.1 S.2.1 dX1_enter_187 rfl (lv_at hl 2 rfl) ?_
      refine n_iast S hK hP hD hS 5 0 rfl rfl dX1_enter_188 (j := mw) (x := s0) (by decide) (by omega) (fun H locs hP hD hS => ?_)
      have hP : va_P (dC, dI) vcl (vY cI cZ a 0 n mw nf sg fo (adL n mw i sg fo L) (va_up le mw n) (va_up sc mw s0) li ba ca wa) H := hP
      have hD : va_D (wF (vY cI cZ a th n mw nf sg fo L le sc li ba ca wa)) (vY cI cZ a 0 n mw nf sg fo (adL n mw i sg fo L) (va_up le mw n) (va_up sc mw s0) li ba ca wa) := hD
      refine lv_aload_n S.1 S.2.1 dX1_enter_189 rfl (lv_at hl 0 rfl) ?_
      refine fX1_lists (v := .ref (a 6)) S hK hP rfl rfl dX1_enter_190 ?_
      refine lv_aload_n S.1 S.2.1 dX1_enter_193 rfl (lv_at hl 0 rfl) ?_
      refine fX1_many (v := .int (nI mw)) S hK hP rfl rfl dX1_enter_194 ?_
      refine lv_iconst (v := (nI 1)) S.1 S.2.1 dX1_enter_197 (by decide) ?_
      refine lv_iload_n S.1 S.2.1 dX1_enter_198 rfl (lv_at hl 1 rfl) ?_
      refine lv_ishl S.1 S.2.1 dX1_enter_199 ?_
      rw [shl1 t ht]
      refine n_iast S hK hP hD hS 6 0 rfl rfl dX1_enter_200 (j := mw) (x := 2 ^ t) (by decide) (by omega) (fun H locs hP hD hS => ?_)
      have hP : va_P (dC, dI) vcl (vY cI cZ a 0 n mw nf sg fo (adL n mw i sg fo L) (va_up le mw n) (va_up sc mw s0) (va_up li mw (2 ^ t)) ba ca wa) H := hP
      have hD : va_D (wF (vY cI cZ a th n mw nf sg fo L le sc li ba ca wa)) (vY cI cZ a 0 n mw nf sg fo (adL n mw i sg fo L) (va_up le mw n) (va_up sc mw s0) (va_up li mw (2 ^ t)) ba ca wa) := hD
      refine lv_aload_n S.1 S.2.1 dX1_enter_201 rfl (lv_at hl 0 rfl) ?_
      refine fX1_barred (v := .ref (a 7)) S hK hP rfl rfl dX1_enter_202 ?_
      refine lv_aload_n S.1 S.2.1 dX1_enter_205 rfl (lv_at hl 0 rfl) ?_
      refine fX1_many (v := .int (nI mw)) S hK hP rfl rfl dX1_enter_206 ?_
      refine lv_iconst (v := (nI 0)) S.1 S.2.1 dX1_enter_209 (by decide) ?_
      refine n_zast S hK hP hD hS 7 1 rfl rfl dX1_enter_210 (j := mw) (x := 0) (by decide) (by omega) (by omega) (fun H locs hP hD hS => ?_)
      have hP : va_P (dC, dI) vcl (vY cI cZ a 0 n mw nf sg fo (adL n mw i sg fo L) (va_up le mw n) (va_up sc mw s0) (va_up li mw (2 ^ t)) (va_up ba mw 0) ca wa) H := hP
      have hD : va_D (wF (vY cI cZ a th n mw nf sg fo L le sc li ba ca wa)) (vY cI cZ a 0 n mw nf sg fo (adL n mw i sg fo L) (va_up le mw n) (va_up sc mw s0) (va_up li mw (2 ^ t)) (va_up ba mw 0) ca wa) := hD
      refine lv_aload_n S.1 S.2.1 dX1_enter_211 rfl (lv_at hl 0 rfl) ?_
      refine lv_dup S.1 S.2.1 dX1_enter_212 rfl ?_
      refine fX1_many (v := .int (nI mw)) S hK hP rfl rfl dX1_enter_213 ?_
      refine lv_iconst (v := (nI 1)) S.1 S.2.1 dX1_enter_216 (by decide) ?_
      refine n_iadd (x := mw) (y := 1) S dX1_enter_217 ?_
      refine pX1_many S hK hP hD hS rfl (Nat.le_of_ble_eq_true rfl) dX1_enter_218 (fun H locs hP hD hS => ?_)
      have hP : va_P (dC, dI) vcl (vY cI cZ a 0 n (mw + 1) nf sg fo (adL n mw i sg fo L) (va_up le mw n) (va_up sc mw s0) (va_up li mw (2 ^ t)) (va_up ba mw 0) ca wa) H := hP
      have hD : va_D (wF (vY cI cZ a th n mw nf sg fo L le sc li ba ca wa)) (vY cI cZ a 0 n (mw + 1) nf sg fo (adL n mw i sg fo L) (va_up le mw n) (va_up sc mw s0) (va_up li mw (2 ^ t)) (va_up ba mw 0) ca wa) := hD
      refine lv_aload_n S.1 S.2.1 dX1_enter_221 rfl (lv_at hl 0 rfl) ?_
      refine fX1_many (v := .int (nI (mw + 1))) S hK hP rfl rfl dX1_enter_222 ?_
      refine lv_iconst (v := (nI 1)) S.1 S.2.1 dX1_enter_225 (by decide) ?_
      refine n_isub (x := mw + 1) (y := 1) S dX1_enter_226 (by omega) ?_
      exact wr_ret S hr hlk (rfl) (by rw [Nat.add_sub_cancel]) hP (by rw [show i = n by omega, va_up_id (hv6 mw (Nat.le_refl _)).2.2]) hS dX1_enter_227
    · refine lv_aload_n S.1 S.2.1 dX1_enter_141 rfl (lv_at hl 0 rfl) ?_
      refine fX1_letters (v := .ref (a 3)) S hK hP rfl rfl dX1_enter_142 ?_
      refine lv_bipush (v := (nI 15)) S.1 S.2.1 dX1_enter_145 (by decide) ?_
      refine lv_aload_n S.1 S.2.1 dX1_enter_147 rfl (lv_at hl 0 rfl) ?_
      refine fX1_many (v := .int (nI mw)) S hK hP rfl rfl dX1_enter_148 ?_
      refine n_imul (x := 15) (y := mw) S dX1_enter_151 ?_
      refine lv_iload_n S.1 S.2.1 dX1_enter_152 rfl (lv_at hl 3 rfl) ?_
      refine n_iadd (x := 15 * mw) (y := i) S dX1_enter_153 ?_
      refine lv_aload_n S.1 S.2.1 dX1_enter_154 rfl (lv_at hl 0 rfl) ?_
      refine lv_iload_n S.1 S.2.1 dX1_enter_155 rfl (lv_at hl 3 rfl) ?_
      refine rd_callV (C := RX1) (As := [.int (nI i)]) (rest := [.int (nI ((15 * mw) + i)), .ref (a 3)]) S (kX1_signAt l dC dI cI cZ cJ a 0 n mw nf sg fo (adL n mw i sg fo L) le sc li ba ca wa i (iv_r hI) (by omega)) rB_blind (fun U hU hW => ⟨by rw [hU]; exact hP, va_K.moved hW.alike hK⟩) (va_recv hK hP (ci := 1) (q0 := 0) rfl rfl) gX1_56 hdX1_signAt (by decide) hl.1 rfl (Nat.le_of_ble_eq_true rfl) dX1_enter_156 ⟨Nat.zero_le _, Nat.zero_le _⟩ ?_
      refine n_iast S hK hP hD hS 3 0 rfl rfl dX1_enter_159 (j := (15 * mw) + i) (x := fsg sg fo i) (by decide) (by omega) (fun H locs hP hD hS => ?_)
      have hP : va_P (dC, dI) vcl (vY cI cZ a 0 n mw nf sg fo (va_up (adL n mw i sg fo L) ((15 * mw) + i) (fsg sg fo i)) le sc li ba ca wa) H := hP
      have hD : va_D (wF (vY cI cZ a th n mw nf sg fo L le sc li ba ca wa)) (vY cI cZ a 0 n mw nf sg fo (va_up (adL n mw i sg fo L) ((15 * mw) + i) (fsg sg fo i)) le sc li ba ca wa) := hD
      refine n_iinc (lv' := [(3, .int (nI (i + 1))), (0, .ref (a 0)), (1, .int (nI t)), (2, .int (nI s0))]) (x := i) (k := 3) S dX1_enter_160 hl rfl (by decide) rfl (fun ls hl => ?_)
      refine lv_goto (tgt := 133) S.1 S.2.1 dX1_enter_163 (by decide) ?_
      have e0 : vY cI cZ a 0 n mw nf sg fo (va_up (adL n mw i sg fo L) ((15 * mw) + i) (fsg sg fo i)) le sc li ba ca wa = vY cI cZ a 0 n mw nf sg fo (adL n mw (i + 1) sg fo L) le sc li ba ca wa := (by rw [adL_s])
      exact ih (i + 1) (by omega) (by omega) _ _ (by rw [← e0]; exact hP) (by rw [← e0]; exact hD) hS ls (lv_sub hl [1, 2, 3, 0] rfl)
set_option maxRecDepth 100000 in
set_option maxHeartbeats 1000000 in
theorem lX1_enterT_50 (l : Launch) (dC : Nat → ClassId) (dI : Nat → Nat → Nat) (cI cZ cJ : ClassId) (a : Nat → Nat) (th n mw nf : Nat) (sg fo L le sc li ba ca : Nat → Nat) (wa : Nat → Int32) (t : Nat) (s0 : Nat) (hI : iv n mw nf sg fo L le sc li ba ca) (ht : t < 4) (hs : s0 ≤ 1000) (h0 : n ≠ 0) (hb : hbl n sg = false) (hf2 : ∀ j, j < mw → fit n sg fo L le j = false) (hmw : mw < 250)  {p : Program} {e : Env} {s : State} {m : MethodId} {below : List Frame} {meth : Method} {c : Code} (S : CallFix p m c cX1_enter 4 s ([.ref (a 0), .int (nI t), .int (nI s0)] : List Value).toArray tbG RX1) (hr : meth.sig.returnType = (some .int)) (hlk : meth.locks = false) (hK : va_K (dC, dI) vcl (vty cI cZ cJ) s) :
    ∀ (fuel : Nat) (i : Nat), mw - i < fuel → i ≤ mw → ∀ (H : Heap) (locs : List Loc), va_P (dC, dI) vcl (vY cI cZ a 0 n mw nf sg fo L le sc li ba ca wa) H → va_D (wF (vY cI cZ a th n mw nf sg fo L le sc li ba ca wa)) (vY cI cZ a 0 n mw nf sg fo L le sc li ba ca wa) → va_S (wF (vY cI cZ a th n mw nf sg fo L le sc li ba ca wa)) s.heap H locs → ∀ ls : Array Slot, lv_has ls 4 [(0, .ref (a 0)), (1, .int (nI t)), (2, .int (nI s0)), (3, .int (nI i))] → W p l e ({ frames := 3, cells := 0, slots := 0, locals := 66 } : Room) s m ([.ref (a 0), .int (nI t), .int (nI s0)] : List Value).toArray below meth c H locs 0 0 (MQ below (Qw dC dI (vY cI cZ a th n mw nf sg fo L le sc li ba ca wa) (vY cI cZ a 0 n (mw + 1) nf sg fo (adL n mw n sg fo L) (va_up le mw n) (va_up sc mw s0) (va_up li mw (2 ^ t)) ba ca wa) (some (.int (nI (mw))))) ([.ref (a 0), .int (nI t), .int (nI s0)] : List Value).toArray s 0 0 (wF (vY cI cZ a th n mw nf sg fo L le sc li ba ca wa))) (F0 m 50 ls []) := by
  obtain ⟨⟨hn, hm, hf⟩, ⟨hsg, hfo, hL, hle, hsc, hli, hba, hca⟩, hv1, hv2, hv3, hv4, hv5, hv6, hv7⟩ := id hI
  intro fuel
  induction fuel with
  | zero =>
    intro i hq
    exact absurd hq (Nat.not_lt_zero _)
  | succ fuel ih =>
    intro i hq hi H locs hP hD hS ls hl
    refine lv_iload_n S.1 S.2.1 dX1_enter_50 rfl (lv_at hl 3 rfl) ?_
    refine lv_aload_n S.1 S.2.1 dX1_enter_51 rfl (lv_at hl 0 rfl) ?_
    refine fX1_many (v := .int (nI mw)) S hK hP rfl rfl dX1_enter_52 ?_
    refine n_icmp_ge (x := i) (y := mw) (tgt := 119) S dX1_enter_55 (by decide) (by omega) (by omega) (fun h55 => ?_) (fun h55 => ?_)
    · refine lv_aload_n S.1 S.2.1 dX1_enter_119 rfl (lv_at hl 0 rfl) ?_
      refine fX1_many (v := .int (nI mw)) S hK hP rfl rfl dX1_enter_120 ?_
      refine lv_sipush (v := (nI 250)) S.1 S.2.1 dX1_enter_123 (by decide) ?_
      refine n_icmp_ne (x := mw) (y := 250) (tgt := 131) S dX1_enter_126 (by decide) (by omega) (by omega) (fun h126 => ?_) (fun h126 => ?_)
      · refine lv_iconst (v := (nI 0)) S.1 S.2.1 dX1_enter_131 (by decide) ?_
        refine lv_istore_n (lv' := [(3, .int (nI 0)), (0, .ref (a 0)), (1, .int (nI t)), (2, .int (nI s0))]) S.1 S.2.1 dX1_enter_132 rfl hl (by decide) rfl (fun ls hl => ?_)
        have e0 : vY cI cZ a 0 n mw nf sg fo L le sc li ba ca wa = vY cI cZ a 0 n mw nf sg fo (adL n mw 0 sg fo L) le sc li ba ca wa := (by rw [adL_0])
        exact lX1_enterT_133 l dC dI cI cZ cJ a th n mw nf sg fo L le sc li ba ca wa t s0 hI ht hs h0 hb hf2 hmw S hr hlk hK _ 0 (Nat.lt_succ_self _) (by omega) _ _ (by rw [← e0]; exact hP) (by rw [← e0]; exact hD) hS ls (lv_sub hl [1, 2, 3, 0] rfl)
      · exact absurd hmw (by omega)
    · refine lv_aload_n S.1 S.2.1 dX1_enter_58 rfl (lv_at hl 0 rfl) ?_
      refine lv_iload_n S.1 S.2.1 dX1_enter_59 rfl (lv_at hl 3 rfl) ?_
      refine rd_callV (C := RX1) (As := [.int (nI i)]) (rest := []) S (kX1_fits l dC dI cI cZ cJ a 0 n mw nf sg fo L le sc li ba ca wa i hI (by omega)) rB_blind (fun U hU hW => ⟨by rw [hU]; exact hP, va_K.moved hW.alike hK⟩) (va_recv hK hP (ci := 1) (q0 := 0) rfl rfl) gX1_75 hdX1_fits (by decide) hl.1 rfl (Nat.le_of_ble_eq_true rfl) dX1_enter_60 ⟨Nat.zero_le _, Nat.zero_le _⟩ ?_
      refine n_bif_ne (b := fit n sg fo L le i) (tgt := 69) S dX1_enter_63 (by decide) (fun h63 => ?_) (fun h63 => ?_)
      · exact absurd (hf2 i (by omega)) (by rw [h63]; decide)
      · refine lv_goto (tgt := 113) S.1 S.2.1 dX1_enter_66 (by decide) ?_
        refine n_iinc (lv' := [(3, .int (nI (i + 1))), (0, .ref (a 0)), (1, .int (nI t)), (2, .int (nI s0))]) (x := i) (k := 3) S dX1_enter_113 hl rfl (by decide) rfl (fun ls hl => ?_)
        refine lv_goto (tgt := 50) S.1 S.2.1 dX1_enter_116 (by decide) ?_
        exact ih (i + 1) (by omega) (by omega) _ _ hP hD hS ls (lv_sub hl [1, 2, 3, 0] rfl)
set_option maxRecDepth 100000 in
set_option maxHeartbeats 1000000 in
theorem kX1_enterT (l : Launch) (dC : Nat → ClassId) (dI : Nat → Nat → Nat) (cI cZ cJ : ClassId) (a : Nat → Nat) (th n mw nf : Nat) (sg fo L le sc li ba ca : Nat → Nat) (wa : Nat → Int32) (t : Nat) (s0 : Nat) (hI : iv n mw nf sg fo L le sc li ba ca) (ht : t < 4) (hs : s0 ≤ 1000) (h0 : n ≠ 0) (hb : hbl n sg = false) (hf2 : ∀ j, j < mw → fit n sg fo L le j = false) (hmw : mw < 250) : wr l yX1_enter cX1_enter 4 (some .int) 3 66 [.ref (a 0), .int (nI t), .int (nI s0)] dC dI cI cZ cJ (vY cI cZ a th n mw nf sg fo L le sc li ba ca wa) (vY cI cZ a 0 n (mw + 1) nf sg fo (adL n mw n sg fo L) (va_up le mw n) (va_up sc mw s0) (va_up li mw (2 ^ t)) ba ca wa) (some (.int (nI (mw)))) := by
  refine wr_ofW RX1 (by decide) rfl (Nat.le_of_ble_eq_true rfl) ?_
  intro p e s m below meth c S hr hlk hK hP hD hS ls hl
  have hl : lv_has ls 4 [(0, .ref (a 0)), (1, .int (nI t)), (2, .int (nI s0))] := hl
  obtain ⟨⟨hn, hm, hf⟩, ⟨hsg, hfo, hL, hle, hsc, hli, hba, hca⟩, hv1, hv2, hv3, hv4, hv5, hv6, hv7⟩ := id hI
  refine lv_aload_n S.1 S.2.1 dX1_enter_0 rfl (lv_at hl 0 rfl) ?_
  refine lv_iload_n S.1 S.2.1 dX1_enter_1 rfl (lv_at hl 1 rfl) ?_
  refine rd_callS (As := [.int (nI t)]) (rest := [.ref (a 0)]) S (kX1_isList l ((nI t))) tr_blind (fun _ _ _ => trivial) gX1_68 hdX1_isList (by decide) hl.1 rfl (Nat.le_of_ble_eq_true rfl) dX1_enter_2 ⟨Nat.zero_le _, Nat.zero_le _⟩ ?_
  rw [isLi_n ht]
  refine n_bif_ne (b := true) (tgt := 12) S dX1_enter_5 (by decide) (fun h5 => ?_) (fun h5 => ?_)
  · refine lv_iconst (v := (nI 0)) S.1 S.2.1 dX1_enter_12 (by decide) ?_
    refine wr_callV (C := RX1) (As := [.int (nI 0)]) (rest := []) S (kX1_fails l dC dI cI cZ cJ a th n mw nf sg fo L le sc li ba ca wa false) hK [] [] hP hD hS rfl (va_recv hK hP (ci := 1) (q0 := 0) rfl rfl) gX1_52 hdX1_fails (by decide) hl.1 rfl (Nat.le_of_ble_eq_true rfl) dX1_enter_13 ⟨Nat.zero_le _, Nat.zero_le _⟩ (fun H locs hP hD hS => ?_)
    have hP : va_P (dC, dI) vcl (vY cI cZ a 0 n mw nf sg fo L le sc li ba ca wa) H := hP
    have hD : va_D (wF (vY cI cZ a th n mw nf sg fo L le sc li ba ca wa)) (vY cI cZ a 0 n mw nf sg fo L le sc li ba ca wa) := hD
    refine n_bif_eq (b := false) (tgt := 21) S dX1_enter_16 (by decide) (fun h16 => ?_) (fun h16 => ?_)
    · refine lv_aload_n S.1 S.2.1 dX1_enter_21 rfl (lv_at hl 0 rfl) ?_
      refine fX1_size (v := .int (nI n)) S hK hP rfl rfl dX1_enter_22 ?_
      refine n_if_eq (x := n) (tgt := 46) S dX1_enter_25 (by decide) (by omega) (fun h25 => ?_) (fun h25 => ?_)
      · exact absurd h25 h0
      · refine lv_aload_n S.1 S.2.1 dX1_enter_28 rfl (lv_at hl 0 rfl) ?_
        refine rd_callV (C := RX1) (As := []) (rest := []) S (kX1_hasBlank l dC dI cI cZ cJ a 0 n mw nf sg fo L le sc li ba ca wa hI) rB_blind (fun U hU hW => ⟨by rw [hU]; exact hP, va_K.moved hW.alike hK⟩) (va_recv hK hP (ci := 1) (q0 := 0) rfl rfl) gX1_71 hdX1_hasBlank (by decide) hl.1 rfl (Nat.le_of_ble_eq_true rfl) dX1_enter_29 ⟨Nat.zero_le _, Nat.zero_le _⟩ ?_
        refine n_bif_ne (b := hbl n sg) (tgt := 46) S dX1_enter_32 (by decide) (fun h32 => ?_) (fun h32 => ?_)
        · exact absurd h32 (by rw [hb]; decide)
        · refine lv_iload_n S.1 S.2.1 dX1_enter_35 rfl (lv_at hl 2 rfl) ?_
          refine n_if_lt (x := s0) (tgt := 46) S dX1_enter_36 (by decide) (by omega) ?_
          refine lv_iload_n S.1 S.2.1 dX1_enter_39 rfl (lv_at hl 2 rfl) ?_
          refine lv_sipush (v := (nI 1000)) S.1 S.2.1 dX1_enter_40 (by decide) ?_
          refine n_icmp_le (x := s0) (y := 1000) (tgt := 48) S dX1_enter_43 (by decide) (by omega) (by omega) (fun h43 => ?_) (fun h43 => ?_)
          · refine lv_iconst (v := (nI 0)) S.1 S.2.1 dX1_enter_48 (by decide) ?_
            refine lv_istore_n (lv' := [(3, .int (nI 0)), (0, .ref (a 0)), (1, .int (nI t)), (2, .int (nI s0))]) S.1 S.2.1 dX1_enter_49 rfl hl (by decide) rfl (fun ls hl => ?_)
            exact lX1_enterT_50 l dC dI cI cZ cJ a th n mw nf sg fo L le sc li ba ca wa t s0 hI ht hs h0 hb hf2 hmw S hr hlk hK _ 0 (Nat.lt_succ_self _) (by omega) _ _ hP hD hS ls (lv_sub hl [1, 2, 3, 0] rfl)
          · exact absurd hs (by omega)
    · exact absurd h16 (by decide)
  · exact absurd h5 (by decide)

set_option maxRecDepth 100000 in
set_option maxHeartbeats 1000000 in
theorem lX1_bar_9 (l : Launch) (dC : Nat → ClassId) (dI : Nat → Nat → Nat) (cI cZ cJ : ClassId) (a : Nat → Nat) (th n mw nf : Nat) (sg fo L le sc li ba ca : Nat → Nat) (wa : Nat → Int32) (on : Bool) (hI : iv n mw nf sg fo L le sc li ba ca)  {p : Program} {e : Env} {s : State} {m : MethodId} {below : List Frame} {meth : Method} {c : Code} (S : CallFix p m c cX1_bar 4 s ([.ref (a 0), .int (nI on.toNat)] : List Value).toArray tbG RX1) (hr : meth.sig.returnType = (some .int)) (hlk : meth.locks = false) (hK : va_K (dC, dI) vcl (vty cI cZ cJ) s) :
    ∀ (fuel : Nat) (i : Nat) (k : Nat), mw - i < fuel → i ≤ mw → k = cnt (brP on (fit n sg fo L le) ba) i → ∀ (H : Heap) (locs : List Loc), va_P (dC, dI) vcl (vY cI cZ a 0 n mw nf sg fo L le sc li (brF on (fit n sg fo L le) ba i) ca wa) H → va_D (wF (vY cI cZ a th n mw nf sg fo L le sc li ba ca wa)) (vY cI cZ a 0 n mw nf sg fo L le sc li (brF on (fit n sg fo L le) ba i) ca wa) → va_S (wF (vY cI cZ a th n mw nf sg fo L le sc li ba ca wa)) s.heap H locs → ∀ ls : Array Slot, lv_has ls 4 [(0, .ref (a 0)), (1, .int (nI (on).toNat)), (2, .int (nI k)), (3, .int (nI i))] → W p l e ({ frames := 3, cells := 0, slots := 0, locals := 66 } : Room) s m ([.ref (a 0), .int (nI on.toNat)] : List Value).toArray below meth c H locs 0 0 (MQ below (Qw dC dI (vY cI cZ a th n mw nf sg fo L le sc li ba ca wa) (vY cI cZ a 0 n mw nf sg fo L le sc li (brF on (fit n sg fo L le) ba mw) ca wa) (some (.int (nI (cnt (brP on (fit n sg fo L le) ba) mw))))) ([.ref (a 0), .int (nI on.toNat)] : List Value).toArray s 0 0 (wF (vY cI cZ a th n mw nf sg fo L le sc li ba ca wa))) (F0 m 9 ls []) := by
  obtain ⟨⟨hn, hm, hf⟩, ⟨hsg, hfo, hL, hle, hsc, hli, hba, hca⟩, hv1, hv2, hv3, hv4, hv5, hv6, hv7⟩ := id hI
  intro fuel
  induction fuel with
  | zero =>
    intro i k hq
    exact absurd hq (Nat.not_lt_zero _)
  | succ fuel ih =>
    intro i k hq hi hk H locs hP hD hS ls hl
    have hki := cnt_le (brP on (fit n sg fo L le) ba) i
    have hI2 := iv_ba hI on (fit n sg fo L le) i hi
    refine lv_iload_n S.1 S.2.1 dX1_bar_9 rfl (lv_at hl 3 rfl) ?_
    refine lv_aload_n S.1 S.2.1 dX1_bar_10 rfl (lv_at hl 0 rfl) ?_
    refine fX1_many (v := .int (nI mw)) S hK hP rfl rfl dX1_bar_11 ?_
    refine n_icmp_ge (x := i) (y := mw) (tgt := 54) S dX1_bar_14 (by decide) (by omega) (by omega) (fun h14 => ?_) (fun h14 => ?_)
    · refine lv_iload_n S.1 S.2.1 dX1_bar_54 rfl (lv_at hl 2 rfl) ?_
      exact wr_ret S hr hlk (rfl) (by rw [hk, show i = mw by omega]) hP (by rw [show i = mw by omega]) hS dX1_bar_55
    · refine lv_aload_n S.1 S.2.1 dX1_bar_17 rfl (lv_at hl 0 rfl) ?_
      refine lv_iload_n S.1 S.2.1 dX1_bar_18 rfl (lv_at hl 3 rfl) ?_
      refine rd_callV (C := RX1) (As := [.int (nI i)]) (rest := []) S (kX1_fits l dC dI cI cZ cJ a 0 n mw nf sg fo L le sc li (brF on (fit n sg fo L le) ba i) ca wa i hI2 (by omega)) rB_blind (fun U hU hW => ⟨by rw [hU]; exact hP, va_K.moved hW.alike hK⟩) (va_recv hK hP (ci := 1) (q0 := 0) rfl rfl) gX1_75 hdX1_fits (by decide) hl.1 rfl (Nat.le_of_ble_eq_true rfl) dX1_bar_19 ⟨Nat.zero_le _, Nat.zero_le _⟩ ?_
      refine n_bif_eq (b := fit n sg fo L le i) (tgt := 48) S dX1_bar_22 (by decide) (fun h22 => ?_) (fun h22 => ?_)
      · refine n_iinc (lv' := [(3, .int (nI (i + 1))), (0, .ref (a 0)), (1, .int (nI (on).toNat)), (2, .int (nI k))]) (x := i) (k := 3) S dX1_bar_48 hl rfl (by decide) rfl (fun ls hl => ?_)
        refine lv_goto (tgt := 9) S.1 S.2.1 dX1_bar_51 (by decide) ?_
        have e0 : vY cI cZ a 0 n mw nf sg fo L le sc li (brF on (fit n sg fo L le) ba i) ca wa = vY cI cZ a 0 n mw nf sg fo L le sc li (brF on (fit n sg fo L le) ba (i + 1)) ca wa := (by first | rw [brF_t h22] | rw [brF_e h32] | rw [brF_f h22])
        exact ih (i + 1) k (by omega) (by omega) (by rw [cnt, ← hk, brP]; first | (rw [h22, decide_eq_false (Classical.not_not.mpr h32)] <;> rfl) | (rw [h22, decide_eq_true h32] <;> rfl) | (rw [h22] <;> rfl)) _ _ (by rw [← e0]; exact hP) (by rw [← e0]; exact hD) hS ls (lv_sub hl [1, 2, 3, 0] rfl)
      · refine lv_aload_n S.1 S.2.1 dX1_bar_25 rfl (lv_at hl 0 rfl) ?_
        refine fX1_barred (v := .ref (a 7)) S hK hP rfl rfl dX1_bar_26 ?_
        refine lv_iload_n S.1 S.2.1 dX1_bar_29 rfl (lv_at hl 3 rfl) ?_
        refine n_zald S hK hP 7 1 rfl rfl dX1_bar_30 (j := i) (by decide) (by omega) ?_
        rw [brF_at]
        have b30 := hba i
        refine lv_iload_n S.1 S.2.1 dX1_bar_31 rfl (lv_at hl 1 rfl) ?_
        refine n_icmp_ne (x := ba i) (y := (on).toNat) (tgt := 38) S dX1_bar_32 (by decide) (by omega) (by cases on <;> decide) (fun h32 => ?_) (fun h32 => ?_)
        · refine lv_aload_n S.1 S.2.1 dX1_bar_38 rfl (lv_at hl 0 rfl) ?_
          refine fX1_barred (v := .ref (a 7)) S hK hP rfl rfl dX1_bar_39 ?_
          refine lv_iload_n S.1 S.2.1 dX1_bar_42 rfl (lv_at hl 3 rfl) ?_
          refine lv_iload_n S.1 S.2.1 dX1_bar_43 rfl (lv_at hl 1 rfl) ?_
          refine n_zast S hK hP hD hS 7 1 rfl rfl dX1_bar_44 (j := i) (x := (on).toNat) (by decide) (by omega) (by cases on <;> decide) (fun H locs hP hD hS => ?_)
          have hP : va_P (dC, dI) vcl (vY cI cZ a 0 n mw nf sg fo L le sc li (va_up (brF on (fit n sg fo L le) ba i) i ((on).toNat)) ca wa) H := hP
          have hD : va_D (wF (vY cI cZ a th n mw nf sg fo L le sc li ba ca wa)) (vY cI cZ a 0 n mw nf sg fo L le sc li (va_up (brF on (fit n sg fo L le) ba i) i ((on).toNat)) ca wa) := hD
          refine n_iinc (lv' := [(2, .int (nI (k + 1))), (0, .ref (a 0)), (1, .int (nI (on).toNat)), (3, .int (nI i))]) (x := k) (k := 2) S dX1_bar_45 hl rfl (by decide) rfl (fun ls hl => ?_)
          refine n_iinc (lv' := [(3, .int (nI (i + 1))), (2, .int (nI (k + 1))), (0, .ref (a 0)), (1, .int (nI (on).toNat))]) (x := i) (k := 3) S dX1_bar_48 hl rfl (by decide) rfl (fun ls hl => ?_)
          refine lv_goto (tgt := 9) S.1 S.2.1 dX1_bar_51 (by decide) ?_
          have e0 : vY cI cZ a 0 n mw nf sg fo L le sc li (va_up (brF on (fit n sg fo L le) ba i) i ((on).toNat)) ca wa = vY cI cZ a 0 n mw nf sg fo L le sc li (brF on (fit n sg fo L le) ba (i + 1)) ca wa := (by first | rw [brF_t h22] | rw [brF_e h32] | rw [brF_f h22])
          exact ih (i + 1) (k + 1) (by omega) (by omega) (by rw [cnt, ← hk, brP]; first | (rw [h22, decide_eq_false (Classical.not_not.mpr h32)] <;> rfl) | (rw [h22, decide_eq_true h32] <;> rfl) | (rw [h22] <;> rfl)) _ _ (by rw [← e0]; exact hP) (by rw [← e0]; exact hD) hS ls (lv_sub hl [2, 3, 1, 0] rfl)
        · refine lv_goto (tgt := 48) S.1 S.2.1 dX1_bar_35 (by decide) ?_
          refine n_iinc (lv' := [(3, .int (nI (i + 1))), (0, .ref (a 0)), (1, .int (nI (on).toNat)), (2, .int (nI k))]) (x := i) (k := 3) S dX1_bar_48 hl rfl (by decide) rfl (fun ls hl => ?_)
          refine lv_goto (tgt := 9) S.1 S.2.1 dX1_bar_51 (by decide) ?_
          have e0 : vY cI cZ a 0 n mw nf sg fo L le sc li (brF on (fit n sg fo L le) ba i) ca wa = vY cI cZ a 0 n mw nf sg fo L le sc li (brF on (fit n sg fo L le) ba (i + 1)) ca wa := (by first | rw [brF_t h22] | rw [brF_e h32] | rw [brF_f h22])
          exact ih (i + 1) k (by omega) (by omega) (by rw [cnt, ← hk, brP]; first | (rw [h22, decide_eq_false (Classical.not_not.mpr h32)] <;> rfl) | (rw [h22, decide_eq_true h32] <;> rfl) | (rw [h22] <;> rfl)) _ _ (by rw [← e0]; exact hP) (by rw [← e0]; exact hD) hS ls (lv_sub hl [1, 2, 3, 0] rfl)
set_option maxRecDepth 100000 in
set_option maxHeartbeats 1000000 in
theorem kX1_bar (l : Launch) (dC : Nat → ClassId) (dI : Nat → Nat → Nat) (cI cZ cJ : ClassId) (a : Nat → Nat) (th n mw nf : Nat) (sg fo L le sc li ba ca : Nat → Nat) (wa : Nat → Int32) (on : Bool) (hI : iv n mw nf sg fo L le sc li ba ca) : wr l yX1_bar cX1_bar 4 (some .int) 3 66 [.ref (a 0), .int (nI on.toNat)] dC dI cI cZ cJ (vY cI cZ a th n mw nf sg fo L le sc li ba ca wa) (vY cI cZ a 0 n mw nf sg fo L le sc li (brF on (fit n sg fo L le) ba mw) ca wa) (some (.int (nI (cnt (brP on (fit n sg fo L le) ba) mw)))) := by
  refine wr_ofW RX1 (by decide) rfl (Nat.le_of_ble_eq_true rfl) ?_
  intro p e s m below meth c S hr hlk hK hP hD hS ls hl
  have hl : lv_has ls 4 [(0, .ref (a 0)), (1, .int (nI (on).toNat))] := hl
  obtain ⟨⟨hn, hm, hf⟩, ⟨hsg, hfo, hL, hle, hsc, hli, hba, hca⟩, hv1, hv2, hv3, hv4, hv5, hv6, hv7⟩ := id hI
  refine lv_aload_n S.1 S.2.1 dX1_bar_0 rfl (lv_at hl 0 rfl) ?_
  refine lv_iconst (v := (nI 0)) S.1 S.2.1 dX1_bar_1 (by decide) ?_
  refine pX1_thrown S hK hP hD hS rfl (Nat.le_of_ble_eq_true rfl) dX1_bar_2 (fun H locs hP hD hS => ?_)
  have hP : va_P (dC, dI) vcl (vY cI cZ a 0 n mw nf sg fo L le sc li ba ca wa) H := hP
  have hD : va_D (wF (vY cI cZ a th n mw nf sg fo L le sc li ba ca wa)) (vY cI cZ a 0 n mw nf sg fo L le sc li ba ca wa) := hD
  refine lv_iconst (v := (nI 0)) S.1 S.2.1 dX1_bar_5 (by decide) ?_
  refine lv_istore_n (lv' := [(2, .int (nI 0)), (0, .ref (a 0)), (1, .int (nI (on).toNat))]) S.1 S.2.1 dX1_bar_6 rfl hl (by decide) rfl (fun ls hl => ?_)
  refine lv_iconst (v := (nI 0)) S.1 S.2.1 dX1_bar_7 (by decide) ?_
  refine lv_istore_n (lv' := [(3, .int (nI 0)), (2, .int (nI 0)), (0, .ref (a 0)), (1, .int (nI (on).toNat))]) S.1 S.2.1 dX1_bar_8 rfl hl (by decide) rfl (fun ls hl => ?_)
  have e0 : vY cI cZ a 0 n mw nf sg fo L le sc li ba ca wa = vY cI cZ a 0 n mw nf sg fo L le sc li (brF on (fit n sg fo L le) ba 0) ca wa := (by rw [brF_0])
  exact lX1_bar_9 l dC dI cI cZ cJ a th n mw nf sg fo L le sc li ba ca wa on hI S hr hlk hK _ 0 0 (Nat.lt_succ_self _) (by omega) rfl _ _ (by rw [← e0]; exact hP) (by rw [← e0]; exact hD) hS ls (lv_sub hl [2, 3, 1, 0] rfl)
