/-! ===== the reference: writers, third part ===== -/
theorem ffo_n {f : Nat} (h : ¬ (0 : Int32) ≤ ffo f) (hf : f ≤ 250) : f = 0 := by
  by_cases q : f = 0
  · exact q
  · rw [ffo, if_neg q] at h
    exact absurd (nI_pos' (by omega)) h
theorem cmn_a {L le li ba : Nat → Nat} {t i f k : Nat} (hc : (f, k) = cmn L le li ba t i) (hf : fre li ba t i = true) (h0 : f = 0) : cmn L le li ba t (i + 1) = (i + 1, lcp (fun j => L (15 * (i + 1 - 1) + j)) (fun j => L (15 * i + j)) (min (le i) (le i))) := by
  rw [cmn, ← hc, hf, h0]
  show (i + 1, le i) = _
  rw [Nat.add_sub_cancel, Nat.min_self, lcp_at (Nat.le_refl _) (fun _ _ => rfl) (Or.inl rfl)]
theorem cmn_b {L le li ba : Nat → Nat} {t i f k : Nat} (hc : (f, k) = cmn L le li ba t i) (hf : fre li ba t i = true) (h0 : f ≠ 0) (hk : k ≤ le (f - 1)) : cmn L le li ba t (i + 1) = (f, lcp (fun j => L (15 * (f - 1) + j)) (fun j => L (15 * i + j)) (min k (le i))) := by
  rw [cmn, ← hc, hf]
  show (if f = 0 then _ else _) = _
  rw [if_neg h0, lcp_min, show min k (min (le (f - 1)) (le i)) = min k (le i) by omega]
set_option maxRecDepth 100000 in
set_option maxHeartbeats 1000000 in
theorem kX1_manyF (l : Launch) (dC : Nat → ClassId) (dI : Nat → Nat → Nat) (cI cZ cJ : ClassId) (a : Nat → Nat) (th n mw nf : Nat) (sg fo L le sc li ba ca : Nat → Nat) (wa : Nat → Int32) (u : Int32) (x : Int32) (hu : isLi u = false) : wr l yX1_many cX1_many 5 (some .int) 1 21 [.ref (a 0), .int u, .int x] dC dI cI cZ cJ (vY cI cZ a th n mw nf sg fo L le sc li ba ca wa) (vY cI cZ a 1 n mw nf sg fo L le sc li ba ca wa) (some (.int (nI (0)))) := by
  refine wr_ofW RX1 (by decide) rfl (Nat.le_of_ble_eq_true rfl) ?_
  intro p e s m below meth c S hr hlk hK hP hD hS ls hl
  have hl : lv_has ls 5 [(0, .ref (a 0)), (1, .int u), (2, .int x)] := hl
  refine lv_aload_n S.1 S.2.1 dX1_many_0 rfl (lv_at hl 0 rfl) ?_
  refine lv_iload_n S.1 S.2.1 dX1_many_1 rfl (lv_at hl 1 rfl) ?_
  refine rd_callS (As := [.int u]) (rest := [.ref (a 0)]) S (kX1_isList l u) tr_blind (fun _ _ _ => trivial) gX1_68 hdX1_isList (by decide) hl.1 rfl (Nat.le_of_ble_eq_true rfl) dX1_many_2 ⟨Nat.zero_le _, Nat.zero_le _⟩ ?_
  rw [hu]
  refine n_bif_ne (b := false) (tgt := 12) S dX1_many_5 (by decide) (fun h5 => ?_) (fun h5 => ?_)
  · exact absurd h5 (by decide)
  · refine lv_iconst (v := (nI 1)) S.1 S.2.1 dX1_many_8 (by decide) ?_
    refine lv_goto (tgt := 13) S.1 S.2.1 dX1_many_9 (by decide) ?_
    refine wr_callV (C := RX1) (As := [.int (nI 1)]) (rest := []) S (kX1_fails l dC dI cI cZ cJ a th n mw nf sg fo L le sc li ba ca wa true) hK [] [] hP hD hS rfl (va_recv hK hP (ci := 1) (q0 := 0) rfl rfl) gX1_52 hdX1_fails (by decide) hl.1 rfl (Nat.le_of_ble_eq_true rfl) dX1_many_13 ⟨Nat.zero_le _, Nat.zero_le _⟩ (fun H locs hP hD hS => ?_)
    have hP : va_P (dC, dI) vcl (vY cI cZ a 1 n mw nf sg fo L le sc li ba ca wa) H := hP
    have hD : va_D (wF (vY cI cZ a th n mw nf sg fo L le sc li ba ca wa)) (vY cI cZ a 1 n mw nf sg fo L le sc li ba ca wa) := hD
    refine n_bif_eq (b := true) (tgt := 21) S dX1_many_16 (by decide) (fun h16 => ?_) (fun h16 => ?_)
    · exact absurd h16 (by decide)
    · refine lv_iconst (v := (nI 0)) S.1 S.2.1 dX1_many_19 (by decide) ?_
      exact wr_ret S hr hlk (rfl) (rfl) hP (rfl) hS dX1_many_20

set_option maxRecDepth 100000 in
set_option maxHeartbeats 1000000 in
theorem lX1_many_39 (l : Launch) (dC : Nat → ClassId) (dI : Nat → Nat → Nat) (cI cZ cJ : ClassId) (a : Nat → Nat) (th n mw nf : Nat) (sg fo L le sc li ba ca : Nat → Nat) (wa : Nat → Int32) (t : Nat) (y : Int32) (hI : iv n mw nf sg fo L le sc li ba ca) (ht : t < 4)  {p : Program} {e : Env} {s : State} {m : MethodId} {below : List Frame} {meth : Method} {c : Code} (S : CallFix p m c cX1_many 5 s ([.ref (a 0), .int (nI t), .int y] : List Value).toArray tbG RX1) (hr : meth.sig.returnType = (some .int)) (hlk : meth.locks = false) (hK : va_K (dC, dI) vcl (vty cI cZ cJ) s) :
    ∀ (fuel : Nat) (i : Nat) (k : Nat), mw - i < fuel → ¬ (y < nI 1 ∨ nI 15 < y) → i ≤ mw → k = cnt (mnP le li t y) i → ∀ (H : Heap) (locs : List Loc), va_P (dC, dI) vcl (vY cI cZ a 0 n mw nf sg fo L le sc li ba ca wa) H → va_D (wF (vY cI cZ a th n mw nf sg fo L le sc li ba ca wa)) (vY cI cZ a 0 n mw nf sg fo L le sc li ba ca wa) → va_S (wF (vY cI cZ a th n mw nf sg fo L le sc li ba ca wa)) s.heap H locs → ∀ ls : Array Slot, lv_has ls 5 [(0, .ref (a 0)), (1, .int (nI t)), (2, .int y), (3, .int (nI k)), (4, .int (nI i))] → W p l e ({ frames := 1, cells := 0, slots := 0, locals := 22 } : Room) s m ([.ref (a 0), .int (nI t), .int y] : List Value).toArray below meth c H locs 0 0 (MQ below (Qw dC dI (vY cI cZ a th n mw nf sg fo L le sc li ba ca wa) (vY cI cZ a 0 n mw nf sg fo L le sc li ba ca wa) (some (.int (mny le li mw t y)))) ([.ref (a 0), .int (nI t), .int y] : List Value).toArray s 0 0 (wF (vY cI cZ a th n mw nf sg fo L le sc li ba ca wa))) (F0 m 39 ls []) := by
  obtain ⟨⟨hn, hm, hf⟩, ⟨hsg, hfo, hL, hle, hsc, hli, hba, hca⟩, hv1, hv2, hv3, hv4, hv5, hv6, hv7⟩ := id hI
  intro fuel
  induction fuel with
  | zero =>
    intro i k hq
    exact absurd hq (Nat.not_lt_zero _)
  | succ fuel ih =>
    intro i k hq h6 hi hk H locs hP hD hS ls hl
    have hki := cnt_le (mnP le li t y) i
    refine lv_iload S.1 S.2.1 dX1_many_39 (lv_at hl 4 rfl) ?_
    refine lv_aload_n S.1 S.2.1 dX1_many_41 rfl (lv_at hl 0 rfl) ?_
    refine fX1_many (v := .int (nI mw)) S hK hP rfl rfl dX1_many_42 ?_
    refine n_icmp_ge (x := i) (y := mw) (tgt := 83) S dX1_many_45 (by decide) (by omega) (by omega) (fun h45 => ?_) (fun h45 => ?_)
    · refine lv_iload_n S.1 S.2.1 dX1_many_83 rfl (lv_at hl 3 rfl) ?_
      exact wr_ret S hr hlk (rfl) (by rw [mny, if_neg h6, hk, show i = mw by omega]) hP (rfl) hS dX1_many_84
    · refine lv_iload_n S.1 S.2.1 dX1_many_48 rfl (lv_at hl 3 rfl) ?_
      refine lv_aload_n S.1 S.2.1 dX1_many_49 rfl (lv_at hl 0 rfl) ?_
      refine lv_iload S.1 S.2.1 dX1_many_50 (lv_at hl 4 rfl) ?_
      refine lv_iload_n S.1 S.2.1 dX1_many_52 rfl (lv_at hl 1 rfl) ?_
      refine rd_callV (C := RX1) (As := [.int (nI i), .int (nI t)]) (rest := [.int (nI k)]) S (kX1_isIn l dC dI cI cZ cJ a 0 n mw nf sg fo L le sc li ba ca wa i t hI (by omega) ht) rB_blind (fun U hU hW => ⟨by rw [hU]; exact hP, va_K.moved hW.alike hK⟩) (va_recv hK hP (ci := 1) (q0 := 0) rfl rfl) gX1_78 hdX1_isIn (by decide) hl.1 rfl (Nat.le_of_ble_eq_true rfl) dX1_many_53 ⟨Nat.zero_le _, Nat.zero_le _⟩ ?_
      refine n_bif_eq (b := inl li i t) (tgt := 74) S dX1_many_56 (by decide) (fun h56 => ?_) (fun h56 => ?_)
      · refine lv_iconst (v := (nI 0)) S.1 S.2.1 dX1_many_74 (by decide) ?_
        refine n_iadd (x := k) (y := 0) S dX1_many_75 ?_
        refine lv_istore_n (lv' := [(3, .int (nI (k + 0))), (0, .ref (a 0)), (1, .int (nI t)), (2, .int y), (4, .int (nI i))]) S.1 S.2.1 dX1_many_76 rfl hl (by decide) rfl (fun ls hl => ?_)
        refine n_iinc (lv' := [(4, .int (nI (i + 1))), (3, .int (nI (k + 0))), (0, .ref (a 0)), (1, .int (nI t)), (2, .int y)]) (x := i) (k := 4) S dX1_many_77 hl rfl (by decide) rfl (fun ls hl => ?_)
        refine lv_goto (tgt := 39) S.1 S.2.1 dX1_many_80 (by decide) ?_
        exact ih (i + 1) (k + 0) (by omega) h6 (by omega) (by rw [cnt, ← hk, mnP, h56]; first | (rw [decide_eq_true h67] <;> rfl) | (rw [decide_eq_false h67] <;> rfl) | rfl) _ _ hP hD hS ls (lv_sub hl [2, 3, 4, 1, 0] rfl)
      · refine lv_aload_n S.1 S.2.1 dX1_many_59 rfl (lv_at hl 0 rfl) ?_
        refine fX1_lengths (v := .ref (a 4)) S hK hP rfl rfl dX1_many_60 ?_
        refine lv_iload S.1 S.2.1 dX1_many_63 (lv_at hl 4 rfl) ?_
        refine n_iald S hK hP 4 0 rfl rfl dX1_many_65 (j := i) (by decide) (by omega) ?_
        have b65 := hle i
        refine lv_iload_n S.1 S.2.1 dX1_many_66 rfl (lv_at hl 2 rfl) ?_
        refine lv_icmp_ne (tgt := 74) S.1 S.2.1 dX1_many_67 (by decide) (fun h67 => ?_) (fun h67 => ?_)
        · refine lv_iconst (v := (nI 0)) S.1 S.2.1 dX1_many_74 (by decide) ?_
          refine n_iadd (x := k) (y := 0) S dX1_many_75 ?_
          refine lv_istore_n (lv' := [(3, .int (nI (k + 0))), (0, .ref (a 0)), (1, .int (nI t)), (2, .int y), (4, .int (nI i))]) S.1 S.2.1 dX1_many_76 rfl hl (by decide) rfl (fun ls hl => ?_)
          refine n_iinc (lv' := [(4, .int (nI (i + 1))), (3, .int (nI (k + 0))), (0, .ref (a 0)), (1, .int (nI t)), (2, .int y)]) (x := i) (k := 4) S dX1_many_77 hl rfl (by decide) rfl (fun ls hl => ?_)
          refine lv_goto (tgt := 39) S.1 S.2.1 dX1_many_80 (by decide) ?_
          exact ih (i + 1) (k + 0) (by omega) h6 (by omega) (by rw [cnt, ← hk, mnP, h56]; first | (rw [decide_eq_true h67] <;> rfl) | (rw [decide_eq_false h67] <;> rfl) | rfl) _ _ hP hD hS ls (lv_sub hl [2, 3, 4, 1, 0] rfl)
        · refine lv_iconst (v := (nI 1)) S.1 S.2.1 dX1_many_70 (by decide) ?_
          refine lv_goto (tgt := 75) S.1 S.2.1 dX1_many_71 (by decide) ?_
          refine n_iadd (x := k) (y := 1) S dX1_many_75 ?_
          refine lv_istore_n (lv' := [(3, .int (nI (k + 1))), (0, .ref (a 0)), (1, .int (nI t)), (2, .int y), (4, .int (nI i))]) S.1 S.2.1 dX1_many_76 rfl hl (by decide) rfl (fun ls hl => ?_)
          refine n_iinc (lv' := [(4, .int (nI (i + 1))), (3, .int (nI (k + 1))), (0, .ref (a 0)), (1, .int (nI t)), (2, .int y)]) (x := i) (k := 4) S dX1_many_77 hl rfl (by decide) rfl (fun ls hl => ?_)
          refine lv_goto (tgt := 39) S.1 S.2.1 dX1_many_80 (by decide) ?_
          exact ih (i + 1) (k + 1) (by omega) h6 (by omega) (by rw [cnt, ← hk, mnP, h56]; first | (rw [decide_eq_true h67] <;> rfl) | (rw [decide_eq_false h67] <;> rfl) | rfl) _ _ hP hD hS ls (lv_sub hl [2, 3, 4, 1, 0] rfl)
set_option maxRecDepth 100000 in
set_option maxHeartbeats 1000000 in
theorem kX1_many (l : Launch) (dC : Nat → ClassId) (dI : Nat → Nat → Nat) (cI cZ cJ : ClassId) (a : Nat → Nat) (th n mw nf : Nat) (sg fo L le sc li ba ca : Nat → Nat) (wa : Nat → Int32) (t : Nat) (y : Int32) (hI : iv n mw nf sg fo L le sc li ba ca) (ht : t < 4) : wr l yX1_many cX1_many 5 (some .int) 1 22 [.ref (a 0), .int (nI t), .int y] dC dI cI cZ cJ (vY cI cZ a th n mw nf sg fo L le sc li ba ca wa) (vY cI cZ a 0 n mw nf sg fo L le sc li ba ca wa) (some (.int (mny le li mw t y))) := by
  refine wr_ofW RX1 (by decide) rfl (Nat.le_of_ble_eq_true rfl) ?_
  intro p e s m below meth c S hr hlk hK hP hD hS ls hl
  have hl : lv_has ls 5 [(0, .ref (a 0)), (1, .int (nI t)), (2, .int y)] := hl
  obtain ⟨⟨hn, hm, hf⟩, ⟨hsg, hfo, hL, hle, hsc, hli, hba, hca⟩, hv1, hv2, hv3, hv4, hv5, hv6, hv7⟩ := id hI
  refine lv_aload_n S.1 S.2.1 dX1_many_0 rfl (lv_at hl 0 rfl) ?_
  refine lv_iload_n S.1 S.2.1 dX1_many_1 rfl (lv_at hl 1 rfl) ?_
  refine rd_callS (As := [.int (nI t)]) (rest := [.ref (a 0)]) S (kX1_isList l ((nI t))) tr_blind (fun _ _ _ => trivial) gX1_68 hdX1_isList (by decide) hl.1 rfl (Nat.le_of_ble_eq_true rfl) dX1_many_2 ⟨Nat.zero_le _, Nat.zero_le _⟩ ?_
  rw [isLi_n ht]
  refine n_bif_ne (b := true) (tgt := 12) S dX1_many_5 (by decide) (fun h5 => ?_) (fun h5 => ?_)
  · refine lv_iconst (v := (nI 0)) S.1 S.2.1 dX1_many_12 (by decide) ?_
    refine wr_callV (C := RX1) (As := [.int (nI 0)]) (rest := []) S (kX1_fails l dC dI cI cZ cJ a th n mw nf sg fo L le sc li ba ca wa false) hK [] [] hP hD hS rfl (va_recv hK hP (ci := 1) (q0 := 0) rfl rfl) gX1_52 hdX1_fails (by decide) hl.1 rfl (Nat.le_of_ble_eq_true rfl) dX1_many_13 ⟨Nat.zero_le _, Nat.zero_le _⟩ (fun H locs hP hD hS => ?_)
    have hP : va_P (dC, dI) vcl (vY cI cZ a 0 n mw nf sg fo L le sc li ba ca wa) H := hP
    have hD : va_D (wF (vY cI cZ a th n mw nf sg fo L le sc li ba ca wa)) (vY cI cZ a 0 n mw nf sg fo L le sc li ba ca wa) := hD
    refine n_bif_eq (b := false) (tgt := 21) S dX1_many_16 (by decide) (fun h16 => ?_) (fun h16 => ?_)
    · refine lv_iload_n S.1 S.2.1 dX1_many_21 rfl (lv_at hl 2 rfl) ?_
      refine lv_iconst (v := (nI 1)) S.1 S.2.1 dX1_many_22 (by decide) ?_
      refine lv_icmp_lt (tgt := 32) S.1 S.2.1 dX1_many_23 (by decide) (fun h23 => ?_) (fun h23 => ?_)
      · refine lv_iconst (v := -1) S.1 S.2.1 dX1_many_32 (by decide) ?_
        exact wr_ret S hr hlk (rfl) (by rw [mny, if_pos (by first | exact Or.inr (Int32.not_le.mp h29) | exact Or.inl h23)]) hP (rfl) hS dX1_many_33
      · refine lv_iload_n S.1 S.2.1 dX1_many_26 rfl (lv_at hl 2 rfl) ?_
        refine lv_bipush (v := (nI 15)) S.1 S.2.1 dX1_many_27 (by decide) ?_
        refine lv_icmp_le (tgt := 34) S.1 S.2.1 dX1_many_29 (by decide) (fun h29 => ?_) (fun h29 => ?_)
        · refine lv_iconst (v := (nI 0)) S.1 S.2.1 dX1_many_34 (by decide) ?_
          refine lv_istore_n (lv' := [(3, .int (nI 0)), (0, .ref (a 0)), (1, .int (nI t)), (2, .int y)]) S.1 S.2.1 dX1_many_35 rfl hl (by decide) rfl (fun ls hl => ?_)
          refine lv_iconst (v := (nI 0)) S.1 S.2.1 dX1_many_36 (by decide) ?_
          refine lv_istore (lv' := [(4, .int (nI 0)), (3, .int (nI 0)), (0, .ref (a 0)), (1, .int (nI t)), (2, .int y)]) S.1 S.2.1 dX1_many_37 hl (by decide) rfl (fun ls hl => ?_)
          exact lX1_many_39 l dC dI cI cZ cJ a th n mw nf sg fo L le sc li ba ca wa t y hI ht S hr hlk hK _ 0 0 (Nat.lt_succ_self _) (fun q => q.elim h23 (fun q => absurd h29 (Int32.not_le.mpr q))) (by omega) rfl _ _ hP hD hS ls (lv_sub hl [2, 3, 4, 1, 0] rfl)
        · refine lv_iconst (v := -1) S.1 S.2.1 dX1_many_32 (by decide) ?_
          exact wr_ret S hr hlk (rfl) (by rw [mny, if_pos (by first | exact Or.inr (Int32.not_le.mp h29) | exact Or.inl h23)]) hP (rfl) hS dX1_many_33
    · exact absurd h16 (by decide)
  · exact absurd h5 (by decide)

set_option maxRecDepth 100000 in
set_option maxHeartbeats 1000000 in
theorem kX1_letterF (l : Launch) (dC : Nat → ClassId) (dI : Nat → Nat → Nat) (cI cZ cJ : ClassId) (a : Nat → Nat) (th n mw nf : Nat) (sg fo L le sc li ba ca : Nat → Nat) (wa : Nat → Int32) (u : Int32) (x : Int32) (hu : isW mw u = false) : wr l yX1_letter cX1_letter 3 (some .int) 1 21 [.ref (a 0), .int u, .int x] dC dI cI cZ cJ (vY cI cZ a th n mw nf sg fo L le sc li ba ca wa) (vY cI cZ a 1 n mw nf sg fo L le sc li ba ca wa) (some (.int (nI (0)))) := by
  refine wr_ofW RX1 (by decide) rfl (Nat.le_of_ble_eq_true rfl) ?_
  intro p e s m below meth c S hr hlk hK hP hD hS ls hl
  have hl : lv_has ls 3 [(0, .ref (a 0)), (1, .int u), (2, .int x)] := hl
  refine lv_aload_n S.1 S.2.1 dX1_letter_0 rfl (lv_at hl 0 rfl) ?_
  refine lv_aload_n S.1 S.2.1 dX1_letter_1 rfl (lv_at hl 0 rfl) ?_
  refine lv_iload_n S.1 S.2.1 dX1_letter_2 rfl (lv_at hl 1 rfl) ?_
  refine rd_callV (C := RX1) (As := [.int u]) (rest := [.ref (a 0)]) S (kX1_isWord l dC dI cI cZ cJ a th n mw nf sg fo L le sc li ba ca wa u) rB_blind (fun U hU hW => ⟨by rw [hU]; exact hP, va_K.moved hW.alike hK⟩) (va_recv hK hP (ci := 1) (q0 := 0) rfl rfl) gX1_94 hdX1_isWord (by decide) hl.1 rfl (Nat.le_of_ble_eq_true rfl) dX1_letter_3 ⟨Nat.zero_le _, Nat.zero_le _⟩ ?_
  rw [hu]
  refine n_bif_ne (b := false) (tgt := 13) S dX1_letter_6 (by decide) (fun h6 => ?_) (fun h6 => ?_)
  · exact absurd h6 (by decide)
  · refine lv_iconst (v := (nI 1)) S.1 S.2.1 dX1_letter_9 (by decide) ?_
    refine lv_goto (tgt := 14) S.1 S.2.1 dX1_letter_10 (by decide) ?_
    refine wr_callV (C := RX1) (As := [.int (nI 1)]) (rest := []) S (kX1_fails l dC dI cI cZ cJ a th n mw nf sg fo L le sc li ba ca wa true) hK [] [] hP hD hS rfl (va_recv hK hP (ci := 1) (q0 := 0) rfl rfl) gX1_52 hdX1_fails (by decide) hl.1 rfl (Nat.le_of_ble_eq_true rfl) dX1_letter_14 ⟨Nat.zero_le _, Nat.zero_le _⟩ (fun H locs hP hD hS => ?_)
    have hP : va_P (dC, dI) vcl (vY cI cZ a 1 n mw nf sg fo L le sc li ba ca wa) H := hP
    have hD : va_D (wF (vY cI cZ a th n mw nf sg fo L le sc li ba ca wa)) (vY cI cZ a 1 n mw nf sg fo L le sc li ba ca wa) := hD
    refine n_bif_eq (b := true) (tgt := 22) S dX1_letter_17 (by decide) (fun h17 => ?_) (fun h17 => ?_)
    · exact absurd h17 (by decide)
    · refine lv_iconst (v := (nI 0)) S.1 S.2.1 dX1_letter_20 (by decide) ?_
      exact wr_ret S hr hlk (rfl) (rfl) hP (rfl) hS dX1_letter_21

set_option maxRecDepth 100000 in
set_option maxHeartbeats 1000000 in
theorem kX1_letter (l : Launch) (dC : Nat → ClassId) (dI : Nat → Nat → Nat) (cI cZ cJ : ClassId) (a : Nat → Nat) (th n mw nf : Nat) (sg fo L le sc li ba ca : Nat → Nat) (wa : Nat → Int32) (w : Nat) (x : Int32) (hI : iv n mw nf sg fo L le sc li ba ca) (hw : w < mw) : wr l yX1_letter cX1_letter 3 (some .int) 1 22 [.ref (a 0), .int (nI w), .int x] dC dI cI cZ cJ (vY cI cZ a th n mw nf sg fo L le sc li ba ca wa) (vY cI cZ a 0 n mw nf sg fo L le sc li ba ca wa) (some (.int (lon L le w x))) := by
  refine wr_ofW RX1 (by decide) rfl (Nat.le_of_ble_eq_true rfl) ?_
  intro p e s m below meth c S hr hlk hK hP hD hS ls hl
  have hl : lv_has ls 3 [(0, .ref (a 0)), (1, .int (nI w)), (2, .int x)] := hl
  obtain ⟨⟨hn, hm, hf⟩, ⟨hsg, hfo, hL, hle, hsc, hli, hba, hca⟩, hv1, hv2, hv3, hv4, hv5, hv6, hv7⟩ := id hI
  refine lv_aload_n S.1 S.2.1 dX1_letter_0 rfl (lv_at hl 0 rfl) ?_
  refine lv_aload_n S.1 S.2.1 dX1_letter_1 rfl (lv_at hl 0 rfl) ?_
  refine lv_iload_n S.1 S.2.1 dX1_letter_2 rfl (lv_at hl 1 rfl) ?_
  refine rd_callV (C := RX1) (As := [.int (nI w)]) (rest := [.ref (a 0)]) S (kX1_isWord l dC dI cI cZ cJ a th n mw nf sg fo L le sc li ba ca wa ((nI w))) rB_blind (fun U hU hW => ⟨by rw [hU]; exact hP, va_K.moved hW.alike hK⟩) (va_recv hK hP (ci := 1) (q0 := 0) rfl rfl) gX1_94 hdX1_isWord (by decide) hl.1 rfl (Nat.le_of_ble_eq_true rfl) dX1_letter_3 ⟨Nat.zero_le _, Nat.zero_le _⟩ ?_
  rw [isW_n (by omega) hw]
  refine n_bif_ne (b := true) (tgt := 13) S dX1_letter_6 (by decide) (fun h6 => ?_) (fun h6 => ?_)
  · refine lv_iconst (v := (nI 0)) S.1 S.2.1 dX1_letter_13 (by decide) ?_
    refine wr_callV (C := RX1) (As := [.int (nI 0)]) (rest := []) S (kX1_fails l dC dI cI cZ cJ a th n mw nf sg fo L le sc li ba ca wa false) hK [] [] hP hD hS rfl (va_recv hK hP (ci := 1) (q0 := 0) rfl rfl) gX1_52 hdX1_fails (by decide) hl.1 rfl (Nat.le_of_ble_eq_true rfl) dX1_letter_14 ⟨Nat.zero_le _, Nat.zero_le _⟩ (fun H locs hP hD hS => ?_)
    have hP : va_P (dC, dI) vcl (vY cI cZ a 0 n mw nf sg fo L le sc li ba ca wa) H := hP
    have hD : va_D (wF (vY cI cZ a th n mw nf sg fo L le sc li ba ca wa)) (vY cI cZ a 0 n mw nf sg fo L le sc li ba ca wa) := hD
    refine n_bif_eq (b := false) (tgt := 22) S dX1_letter_17 (by decide) (fun h17 => ?_) (fun h17 => ?_)
    · refine lv_iload_n S.1 S.2.1 dX1_letter_22 rfl (lv_at hl 2 rfl) ?_
      refine lv_if_lt (tgt := 36) S.1 S.2.1 dX1_letter_23 (by decide) (fun h23 => ?_) (fun h23 => ?_)
      · refine lv_iconst (v := -1) S.1 S.2.1 dX1_letter_36 (by decide) ?_
        refine lv_goto (tgt := 46) S.1 S.2.1 dX1_letter_37 (by decide) ?_
        exact wr_ret S hr hlk (rfl) (by first | (rw [lon_in h33 (hle w)]; done) | (rw [lon, if_pos (by first | exact Or.inr (Int32.not_lt.mp h33) | exact Or.inl h23)]; done)) hP (rfl) hS dX1_letter_46
      · refine lv_iload_n S.1 S.2.1 dX1_letter_26 rfl (lv_at hl 2 rfl) ?_
        refine lv_aload_n S.1 S.2.1 dX1_letter_27 rfl (lv_at hl 0 rfl) ?_
        refine fX1_lengths (v := .ref (a 4)) S hK hP rfl rfl dX1_letter_28 ?_
        refine lv_iload_n S.1 S.2.1 dX1_letter_31 rfl (lv_at hl 1 rfl) ?_
        refine n_iald S hK hP 4 0 rfl rfl dX1_letter_32 (j := w) (by decide) (by omega) ?_
        have b32 := hle w
        refine lv_icmp_lt (tgt := 40) S.1 S.2.1 dX1_letter_33 (by decide) (fun h33 => ?_) (fun h33 => ?_)
        · obtain ⟨j, hj, rfl⟩ := nI_of h23
          have h33 : j < le w := (nI_ltI hj (by omega)).mp h33
          refine lv_aload_n S.1 S.2.1 dX1_letter_40 rfl (lv_at hl 0 rfl) ?_
          refine lv_iload_n S.1 S.2.1 dX1_letter_41 rfl (lv_at hl 1 rfl) ?_
          refine lv_iload_n S.1 S.2.1 dX1_letter_42 rfl (lv_at hl 2 rfl) ?_
          refine rd_callV (C := RX1) (As := [.int (nI w), .int (nI j)]) (rest := []) S (kX1_letterAt l dC dI cI cZ cJ a 0 n mw nf sg fo L le sc li ba ca wa w j hI (by omega) (by omega)) rB_blind (fun U hU hW => ⟨by rw [hU]; exact hP, va_K.moved hW.alike hK⟩) (va_recv hK hP (ci := 1) (q0 := 0) rfl rfl) gX1_60 hdX1_letterAt (by decide) hl.1 rfl (Nat.le_of_ble_eq_true rfl) dX1_letter_43 ⟨Nat.zero_le _, Nat.zero_le _⟩ ?_
          exact wr_ret S hr hlk (rfl) (by first | (rw [lon_in h33 (hle w)]; done) | (rw [lon, if_pos (by first | exact Or.inr (Int32.not_lt.mp h33) | exact Or.inl h23)]; done)) hP (rfl) hS dX1_letter_46
        · refine lv_iconst (v := -1) S.1 S.2.1 dX1_letter_36 (by decide) ?_
          refine lv_goto (tgt := 46) S.1 S.2.1 dX1_letter_37 (by decide) ?_
          exact wr_ret S hr hlk (rfl) (by first | (rw [lon_in h33 (hle w)]; done) | (rw [lon, if_pos (by first | exact Or.inr (Int32.not_lt.mp h33) | exact Or.inl h23)]; done)) hP (rfl) hS dX1_letter_46
    · exact absurd h17 (by decide)
  · exact absurd h6 (by decide)

set_option maxRecDepth 100000 in
set_option maxHeartbeats 1000000 in
theorem kX1_tellF (l : Launch) (dC : Nat → ClassId) (dI : Nat → Nat → Nat) (cI cZ cJ : ClassId) (a : Nat → Nat) (th n mw nf : Nat) (sg fo L le sc li ba ca : Nat → Nat) (wa : Nat → Int32) (u : Int32) (x : Int32) (hu : isW mw u = false) : wr l yX1_tell cX1_tell 3 (some .int) 1 21 [.ref (a 0), .int u, .int x] dC dI cI cZ cJ (vY cI cZ a th n mw nf sg fo L le sc li ba ca wa) (vY cI cZ a 1 n mw nf sg fo L le sc li ba ca wa) (some (.int (nI (0)))) := by
  refine wr_ofW RX1 (by decide) rfl (Nat.le_of_ble_eq_true rfl) ?_
  intro p e s m below meth c S hr hlk hK hP hD hS ls hl
  have hl : lv_has ls 3 [(0, .ref (a 0)), (1, .int u), (2, .int x)] := hl
  refine lv_aload_n S.1 S.2.1 dX1_tell_0 rfl (lv_at hl 0 rfl) ?_
  refine lv_aload_n S.1 S.2.1 dX1_tell_1 rfl (lv_at hl 0 rfl) ?_
  refine lv_iload_n S.1 S.2.1 dX1_tell_2 rfl (lv_at hl 1 rfl) ?_
  refine rd_callV (C := RX1) (As := [.int u]) (rest := [.ref (a 0)]) S (kX1_isWord l dC dI cI cZ cJ a th n mw nf sg fo L le sc li ba ca wa u) rB_blind (fun U hU hW => ⟨by rw [hU]; exact hP, va_K.moved hW.alike hK⟩) (va_recv hK hP (ci := 1) (q0 := 0) rfl rfl) gX1_94 hdX1_isWord (by decide) hl.1 rfl (Nat.le_of_ble_eq_true rfl) dX1_tell_3 ⟨Nat.zero_le _, Nat.zero_le _⟩ ?_
  rw [hu]
  refine n_bif_ne (b := false) (tgt := 13) S dX1_tell_6 (by decide) (fun h6 => ?_) (fun h6 => ?_)
  · exact absurd h6 (by decide)
  · refine lv_iconst (v := (nI 1)) S.1 S.2.1 dX1_tell_9 (by decide) ?_
    refine lv_goto (tgt := 14) S.1 S.2.1 dX1_tell_10 (by decide) ?_
    refine wr_callV (C := RX1) (As := [.int (nI 1)]) (rest := []) S (kX1_fails l dC dI cI cZ cJ a th n mw nf sg fo L le sc li ba ca wa true) hK [] [] hP hD hS rfl (va_recv hK hP (ci := 1) (q0 := 0) rfl rfl) gX1_52 hdX1_fails (by decide) hl.1 rfl (Nat.le_of_ble_eq_true rfl) dX1_tell_14 ⟨Nat.zero_le _, Nat.zero_le _⟩ (fun H locs hP hD hS => ?_)
    have hP : va_P (dC, dI) vcl (vY cI cZ a 1 n mw nf sg fo L le sc li ba ca wa) H := hP
    have hD : va_D (wF (vY cI cZ a th n mw nf sg fo L le sc li ba ca wa)) (vY cI cZ a 1 n mw nf sg fo L le sc li ba ca wa) := hD
    refine n_bif_eq (b := true) (tgt := 22) S dX1_tell_17 (by decide) (fun h17 => ?_) (fun h17 => ?_)
    · exact absurd h17 (by decide)
    · refine lv_iconst (v := (nI 0)) S.1 S.2.1 dX1_tell_20 (by decide) ?_
      exact wr_ret S hr hlk (rfl) (rfl) hP (rfl) hS dX1_tell_21

set_option maxRecDepth 100000 in
set_option maxHeartbeats 1000000 in
theorem kX1_tell (l : Launch) (dC : Nat → ClassId) (dI : Nat → Nat → Nat) (cI cZ cJ : ClassId) (a : Nat → Nat) (th n mw nf : Nat) (sg fo L le sc li ba ca : Nat → Nat) (wa : Nat → Int32) (w : Nat) (x : Int32) (hI : iv n mw nf sg fo L le sc li ba ca) (hw : w < mw) : wr l yX1_tell cX1_tell 3 (some .int) 1 21 [.ref (a 0), .int (nI w), .int x] dC dI cI cZ cJ (vY cI cZ a th n mw nf sg fo L le sc li ba ca wa) (vY cI cZ a 0 n mw nf sg fo L le sc li ba ca wa) (some (.int (tel le sc li ba w x))) := by
  refine wr_ofW RX1 (by decide) rfl (Nat.le_of_ble_eq_true rfl) ?_
  intro p e s m below meth c S hr hlk hK hP hD hS ls hl
  have hl : lv_has ls 3 [(0, .ref (a 0)), (1, .int (nI w)), (2, .int x)] := hl
  obtain ⟨⟨hn, hm, hf⟩, ⟨hsg, hfo, hL, hle, hsc, hli, hba, hca⟩, hv1, hv2, hv3, hv4, hv5, hv6, hv7⟩ := id hI
  refine lv_aload_n S.1 S.2.1 dX1_tell_0 rfl (lv_at hl 0 rfl) ?_
  refine lv_aload_n S.1 S.2.1 dX1_tell_1 rfl (lv_at hl 0 rfl) ?_
  refine lv_iload_n S.1 S.2.1 dX1_tell_2 rfl (lv_at hl 1 rfl) ?_
  refine rd_callV (C := RX1) (As := [.int (nI w)]) (rest := [.ref (a 0)]) S (kX1_isWord l dC dI cI cZ cJ a th n mw nf sg fo L le sc li ba ca wa ((nI w))) rB_blind (fun U hU hW => ⟨by rw [hU]; exact hP, va_K.moved hW.alike hK⟩) (va_recv hK hP (ci := 1) (q0 := 0) rfl rfl) gX1_94 hdX1_isWord (by decide) hl.1 rfl (Nat.le_of_ble_eq_true rfl) dX1_tell_3 ⟨Nat.zero_le _, Nat.zero_le _⟩ ?_
  rw [isW_n (by omega) hw]
  refine n_bif_ne (b := true) (tgt := 13) S dX1_tell_6 (by decide) (fun h6 => ?_) (fun h6 => ?_)
  · refine lv_iconst (v := (nI 0)) S.1 S.2.1 dX1_tell_13 (by decide) ?_
    refine wr_callV (C := RX1) (As := [.int (nI 0)]) (rest := []) S (kX1_fails l dC dI cI cZ cJ a th n mw nf sg fo L le sc li ba ca wa false) hK [] [] hP hD hS rfl (va_recv hK hP (ci := 1) (q0 := 0) rfl rfl) gX1_52 hdX1_fails (by decide) hl.1 rfl (Nat.le_of_ble_eq_true rfl) dX1_tell_14 ⟨Nat.zero_le _, Nat.zero_le _⟩ (fun H locs hP hD hS => ?_)
    have hP : va_P (dC, dI) vcl (vY cI cZ a 0 n mw nf sg fo L le sc li ba ca wa) H := hP
    have hD : va_D (wF (vY cI cZ a th n mw nf sg fo L le sc li ba ca wa)) (vY cI cZ a 0 n mw nf sg fo L le sc li ba ca wa) := hD
    refine n_bif_eq (b := false) (tgt := 22) S dX1_tell_17 (by decide) (fun h17 => ?_) (fun h17 => ?_)
    · refine lv_iload_n S.1 S.2.1 dX1_tell_22 rfl (lv_at hl 2 rfl) ?_
      by_cases q0 : x = nI 0
      · refine lv_tableIn (tgt := 52) S.1 S.2.1 dX1_tell_23 (by rw [q0]; decide) (by rw [q0]; decide) (by rw [q0]; rfl) (by decide) ?_
        refine lv_aload_n S.1 S.2.1 dX1_tell_52 rfl (lv_at hl 0 rfl) ?_
        refine fX1_scores (v := .ref (a 5)) S hK hP rfl rfl dX1_tell_53 ?_
        refine lv_iload_n S.1 S.2.1 dX1_tell_56 rfl (lv_at hl 1 rfl) ?_
        refine n_iald S hK hP 5 0 rfl rfl dX1_tell_57 (j := w) (by decide) (by omega) ?_
        have b57 := hsc w
        exact wr_ret S hr hlk (rfl) (by rw [tel, if_pos q0]) hP (rfl) hS dX1_tell_58
      by_cases q1 : x = nI 1
      · refine lv_tableIn (tgt := 59) S.1 S.2.1 dX1_tell_23 (by rw [q1]; decide) (by rw [q1]; decide) (by rw [q1]; rfl) (by decide) ?_
        refine lv_aload_n S.1 S.2.1 dX1_tell_59 rfl (lv_at hl 0 rfl) ?_
        refine fX1_lists (v := .ref (a 6)) S hK hP rfl rfl dX1_tell_60 ?_
        refine lv_iload_n S.1 S.2.1 dX1_tell_63 rfl (lv_at hl 1 rfl) ?_
        refine n_iald S hK hP 6 0 rfl rfl dX1_tell_64 (j := w) (by decide) (by omega) ?_
        have b64 := hli w
        exact wr_ret S hr hlk (rfl) (by rw [tel, if_neg q0, if_pos q1]) hP (rfl) hS dX1_tell_65
      by_cases q2 : x = nI 2
      · refine lv_tableIn (tgt := 66) S.1 S.2.1 dX1_tell_23 (by rw [q2]; decide) (by rw [q2]; decide) (by rw [q2]; rfl) (by decide) ?_
        refine lv_aload_n S.1 S.2.1 dX1_tell_66 rfl (lv_at hl 0 rfl) ?_
        refine fX1_barred (v := .ref (a 7)) S hK hP rfl rfl dX1_tell_67 ?_
        refine lv_iload_n S.1 S.2.1 dX1_tell_70 rfl (lv_at hl 1 rfl) ?_
        refine n_zald S hK hP 7 1 rfl rfl dX1_tell_71 (j := w) (by decide) (by omega) ?_
        have b71 := hba w
        refine n_if_eq (x := ba w) (tgt := 79) S dX1_tell_72 (by decide) (by omega) (fun h72 => ?_) (fun h72 => ?_)
        · refine lv_iconst (v := (nI 0)) S.1 S.2.1 dX1_tell_79 (by decide) ?_
          exact wr_ret S hr hlk (rfl) (by rw [tel, if_neg q0, if_neg q1, if_pos q2]; have := hba w; first | rw [h72] | rw [show ba w = 1 by omega]) hP (rfl) hS dX1_tell_80
        · refine lv_iconst (v := (nI 1)) S.1 S.2.1 dX1_tell_75 (by decide) ?_
          refine lv_goto (tgt := 80) S.1 S.2.1 dX1_tell_76 (by decide) ?_
          exact wr_ret S hr hlk (rfl) (by rw [tel, if_neg q0, if_neg q1, if_pos q2]; have := hba w; first | rw [h72] | rw [show ba w = 1 by omega]) hP (rfl) hS dX1_tell_80
      by_cases q3 : x = nI 3
      · refine lv_tableIn (tgt := 81) S.1 S.2.1 dX1_tell_23 (by rw [q3]; decide) (by rw [q3]; decide) (by rw [q3]; rfl) (by decide) ?_
        refine lv_aload_n S.1 S.2.1 dX1_tell_81 rfl (lv_at hl 0 rfl) ?_
        refine fX1_lengths (v := .ref (a 4)) S hK hP rfl rfl dX1_tell_82 ?_
        refine lv_iload_n S.1 S.2.1 dX1_tell_85 rfl (lv_at hl 1 rfl) ?_
        refine n_iald S hK hP 4 0 rfl rfl dX1_tell_86 (j := w) (by decide) (by omega) ?_
        have b86 := hle w
        exact wr_ret S hr hlk (rfl) (by rw [tel, if_neg q0, if_neg q1, if_neg q2, if_pos q3]) hP (rfl) hS dX1_tell_87
      refine lv_tableOut (tgt := 88) S.1 S.2.1 dX1_tell_23 (tb_out4 ⟨q0, q1, q2, q3⟩) (by decide) ?_
      refine lv_iconst (v := -1) S.1 S.2.1 dX1_tell_88 (by decide) ?_
      exact wr_ret S hr hlk (rfl) (by rw [tel, if_neg q0, if_neg q1, if_neg q2, if_neg q3]) hP (rfl) hS dX1_tell_89
    · exact absurd h17 (by decide)
  · exact absurd h6 (by decide)

set_option maxRecDepth 100000 in
set_option maxHeartbeats 1000000 in
theorem kX1_lettersF (l : Launch) (dC : Nat → ClassId) (dI : Nat → Nat → Nat) (cI cZ cJ : ClassId) (a : Nat → Nat) (th n mw nf : Nat) (sg fo L le sc li ba ca : Nat → Nat) (wa : Nat → Int32) (u : Int32) (v : Int32) (hu : isLi u = false ∨ isL v = false) : wr l yX1_letters cX1_letters 6 (some .int) 1 21 [.ref (a 0), .int u, .int v] dC dI cI cZ cJ (vY cI cZ a th n mw nf sg fo L le sc li ba ca wa) (vY cI cZ a 1 n mw nf sg fo L le sc li ba ca wa) (some (.int (nI (0)))) := by
  refine wr_ofW RX1 (by decide) rfl (Nat.le_of_ble_eq_true rfl) ?_
  intro p e s m below meth c S hr hlk hK hP hD hS ls hl
  have hl : lv_has ls 6 [(0, .ref (a 0)), (1, .int u), (2, .int v)] := hl
  refine lv_aload_n S.1 S.2.1 dX1_letters_0 rfl (lv_at hl 0 rfl) ?_
  refine lv_iload_n S.1 S.2.1 dX1_letters_1 rfl (lv_at hl 1 rfl) ?_
  refine rd_callS (As := [.int u]) (rest := [.ref (a 0)]) S (kX1_isList l u) tr_blind (fun _ _ _ => trivial) gX1_68 hdX1_isList (by decide) hl.1 rfl (Nat.le_of_ble_eq_true rfl) dX1_letters_2 ⟨Nat.zero_le _, Nat.zero_le _⟩ ?_
  refine n_bif_eq (b := isLi u) (tgt := 15) S dX1_letters_5 (by decide) (fun h5 => ?_) (fun h5 => ?_)
  · refine lv_iconst (v := (nI 1)) S.1 S.2.1 dX1_letters_15 (by decide) ?_
    refine lv_goto (tgt := 20) S.1 S.2.1 dX1_letters_16 (by decide) ?_
    refine wr_callV (C := RX1) (As := [.int (nI 1)]) (rest := []) S (kX1_fails l dC dI cI cZ cJ a th n mw nf sg fo L le sc li ba ca wa true) hK [] [] hP hD hS rfl (va_recv hK hP (ci := 1) (q0 := 0) rfl rfl) gX1_52 hdX1_fails (by decide) hl.1 rfl (Nat.le_of_ble_eq_true rfl) dX1_letters_20 ⟨Nat.zero_le _, Nat.zero_le _⟩ (fun H locs hP hD hS => ?_)
    have hP : va_P (dC, dI) vcl (vY cI cZ a 1 n mw nf sg fo L le sc li ba ca wa) H := hP
    have hD : va_D (wF (vY cI cZ a th n mw nf sg fo L le sc li ba ca wa)) (vY cI cZ a 1 n mw nf sg fo L le sc li ba ca wa) := hD
    refine n_bif_eq (b := true) (tgt := 28) S dX1_letters_23 (by decide) (fun h23 => ?_) (fun h23 => ?_)
    · exact absurd h23 (by decide)
    · refine lv_iconst (v := (nI 0)) S.1 S.2.1 dX1_letters_26 (by decide) ?_
      exact wr_ret S hr hlk (rfl) (rfl) hP (rfl) hS dX1_letters_27
  · refine lv_iload_n S.1 S.2.1 dX1_letters_8 rfl (lv_at hl 2 rfl) ?_
    refine rd_callS (As := [.int v]) (rest := [.ref (a 0)]) S (kX1_isLetter l v) tr_blind (fun _ _ _ => trivial) gX1_45 hdX1_isLetter (by decide) hl.1 rfl (Nat.le_of_ble_eq_true rfl) dX1_letters_9 ⟨Nat.zero_le _, Nat.zero_le _⟩ ?_
    refine n_bif_ne (b := isL v) (tgt := 19) S dX1_letters_12 (by decide) (fun h12 => ?_) (fun h12 => ?_)
    · exact absurd hu (by rw [h5, h12]; decide)
    · refine lv_iconst (v := (nI 1)) S.1 S.2.1 dX1_letters_15 (by decide) ?_
      refine lv_goto (tgt := 20) S.1 S.2.1 dX1_letters_16 (by decide) ?_
      refine wr_callV (C := RX1) (As := [.int (nI 1)]) (rest := []) S (kX1_fails l dC dI cI cZ cJ a th n mw nf sg fo L le sc li ba ca wa true) hK [] [] hP hD hS rfl (va_recv hK hP (ci := 1) (q0 := 0) rfl rfl) gX1_52 hdX1_fails (by decide) hl.1 rfl (Nat.le_of_ble_eq_true rfl) dX1_letters_20 ⟨Nat.zero_le _, Nat.zero_le _⟩ (fun H locs hP hD hS => ?_)
      have hP : va_P (dC, dI) vcl (vY cI cZ a 1 n mw nf sg fo L le sc li ba ca wa) H := hP
      have hD : va_D (wF (vY cI cZ a th n mw nf sg fo L le sc li ba ca wa)) (vY cI cZ a 1 n mw nf sg fo L le sc li ba ca wa) := hD
      refine n_bif_eq (b := true) (tgt := 28) S dX1_letters_23 (by decide) (fun h23 => ?_) (fun h23 => ?_)
      · exact absurd h23 (by decide)
      · refine lv_iconst (v := (nI 0)) S.1 S.2.1 dX1_letters_26 (by decide) ?_
        exact wr_ret S hr hlk (rfl) (rfl) hP (rfl) hS dX1_letters_27

set_option maxRecDepth 100000 in
set_option maxHeartbeats 1000000 in
theorem lX1_letters_45 (l : Launch) (dC : Nat → ClassId) (dI : Nat → Nat → Nat) (cI cZ cJ : ClassId) (a : Nat → Nat) (th n mw nf : Nat) (sg fo L le sc li ba ca : Nat → Nat) (wa : Nat → Int32) (t : Nat) (y : Nat) (hI : iv n mw nf sg fo L le sc li ba ca) (ht : t < 4) (hy : 97 ≤ y ∧ y ≤ 122) (fuel0 : Nat) (i k0 : Nat) (hq0 : mw - i < fuel0 + 1) (h39 : i < mw) (hk0 : k0 = smm (ltF L le li t y) i)  {p : Program} {e : Env} {s : State} {m : MethodId} {below : List Frame} {meth : Method} {c : Code} (S : CallFix p m c cX1_letters 6 s ([.ref (a 0), .int (nI t), .int (nI y)] : List Value).toArray tbG RX1) (hr : meth.sig.returnType = (some .int)) (hlk : meth.locks = false) (hK : va_K (dC, dI) vcl (vty cI cZ cJ) s) (ih33 : ∀ (i : Nat) (k : Nat), mw - i < fuel0 → i ≤ mw → k = smm (ltF L le li t y) i → ∀ (H : Heap) (locs : List Loc), va_P (dC, dI) vcl (vY cI cZ a 0 n mw nf sg fo L le sc li ba ca wa) H → va_D (wF (vY cI cZ a th n mw nf sg fo L le sc li ba ca wa)) (vY cI cZ a 0 n mw nf sg fo L le sc li ba ca wa) → va_S (wF (vY cI cZ a th n mw nf sg fo L le sc li ba ca wa)) s.heap H locs → ∀ ls : Array Slot, lv_has ls 6 [(0, .ref (a 0)), (1, .int (nI t)), (2, .int (nI y)), (3, .int (nI k)), (4, .int (nI i))] → W p l e ({ frames := 1, cells := 0, slots := 0, locals := 22 } : Room) s m ([.ref (a 0), .int (nI t), .int (nI y)] : List Value).toArray below meth c H locs 0 0 (MQ below (Qw dC dI (vY cI cZ a th n mw nf sg fo L le sc li ba ca wa) (vY cI cZ a 0 n mw nf sg fo L le sc li ba ca wa) (some (.int (nI (smm (ltF L le li t y) mw))))) ([.ref (a 0), .int (nI t), .int (nI y)] : List Value).toArray s 0 0 (wF (vY cI cZ a th n mw nf sg fo L le sc li ba ca wa))) (F0 m 33 ls [])) :
    ∀ (fuel : Nat) (j : Nat) (k : Nat), le i - j < fuel → j ≤ le i → (inl li i t = true ∨ j = 0) → k = k0 + cnt (fun j => decide (L (15 * i + j) = y)) j → ∀ (H : Heap) (locs : List Loc), va_P (dC, dI) vcl (vY cI cZ a 0 n mw nf sg fo L le sc li ba ca wa) H → va_D (wF (vY cI cZ a th n mw nf sg fo L le sc li ba ca wa)) (vY cI cZ a 0 n mw nf sg fo L le sc li ba ca wa) → va_S (wF (vY cI cZ a th n mw nf sg fo L le sc li ba ca wa)) s.heap H locs → ∀ ls : Array Slot, lv_has ls 6 [(0, .ref (a 0)), (1, .int (nI t)), (2, .int (nI y)), (3, .int (nI k)), (4, .int (nI i)), (5, .int (nI j))] → W p l e ({ frames := 1, cells := 0, slots := 0, locals := 22 } : Room) s m ([.ref (a 0), .int (nI t), .int (nI y)] : List Value).toArray below meth c H locs 0 0 (MQ below (Qw dC dI (vY cI cZ a th n mw nf sg fo L le sc li ba ca wa) (vY cI cZ a 0 n mw nf sg fo L le sc li ba ca wa) (some (.int (nI (smm (ltF L le li t y) mw))))) ([.ref (a 0), .int (nI t), .int (nI y)] : List Value).toArray s 0 0 (wF (vY cI cZ a th n mw nf sg fo L le sc li ba ca wa))) (F0 m 45 ls []) := by
  obtain ⟨⟨hn, hm, hf⟩, ⟨hsg, hfo, hL, hle, hsc, hli, hba, hca⟩, hv1, hv2, hv3, hv4, hv5, hv6, hv7⟩ := id hI
  intro fuel
  induction fuel with
  | zero =>
    intro j k hq
    exact absurd hq (Nat.not_lt_zero _)
  | succ fuel ih =>
    intro j k hq hjl hj1 ek H locs hP hD hS ls hl
    have hlei := hle i
    refine lv_iload S.1 S.2.1 dX1_letters_45 (lv_at hl 5 rfl) ?_
    refine lv_aload_n S.1 S.2.1 dX1_letters_47 rfl (lv_at hl 0 rfl) ?_
    refine fX1_lengths (v := .ref (a 4)) S hK hP rfl rfl dX1_letters_48 ?_
    refine lv_iload S.1 S.2.1 dX1_letters_51 (lv_at hl 4 rfl) ?_
    refine n_iald S hK hP 4 0 rfl rfl dX1_letters_53 (j := i) (by decide) (by omega) ?_
    have b53 := hle i
    refine n_icmp_ge (x := j) (y := le i) (tgt := 93) S dX1_letters_54 (by decide) (by omega) (by omega) (fun h54 => ?_) (fun h54 => ?_)
    · refine n_iinc (lv' := [(4, .int (nI (i + 1))), (0, .ref (a 0)), (1, .int (nI t)), (2, .int (nI y)), (3, .int (nI k)), (5, .int (nI j))]) (x := i) (k := 4) S dX1_letters_93 hl rfl (by decide) rfl (fun ls hl => ?_)
      refine lv_goto (tgt := 33) S.1 S.2.1 dX1_letters_96 (by decide) ?_
      exact ih33 (i + 1) k (by omega) (by omega) (by rw [smm, ← hk0, ltF]; first | (have := hv3 i h39; rw [if_pos (hj1.elim id (fun q => by omega)), tiw, show le i = j by omega, ek]; done) | (rw [if_neg (by rw [h64]; decide), ek, show j = 0 from hj1.elim (fun q => absurd q (by rw [h64]; decide)) id] <;> rfl)) _ _ hP hD hS ls (lv_sub hl [1, 2, 3, 4, 0] rfl)
    · refine lv_aload_n S.1 S.2.1 dX1_letters_57 rfl (lv_at hl 0 rfl) ?_
      refine lv_iload S.1 S.2.1 dX1_letters_58 (lv_at hl 4 rfl) ?_
      refine lv_iload_n S.1 S.2.1 dX1_letters_60 rfl (lv_at hl 1 rfl) ?_
      refine rd_callV (C := RX1) (As := [.int (nI i), .int (nI t)]) (rest := []) S (kX1_isIn l dC dI cI cZ cJ a 0 n mw nf sg fo L le sc li ba ca wa i t hI (by omega) ht) rB_blind (fun U hU hW => ⟨by rw [hU]; exact hP, va_K.moved hW.alike hK⟩) (va_recv hK hP (ci := 1) (q0 := 0) rfl rfl) gX1_78 hdX1_isIn (by decide) hl.1 rfl (Nat.le_of_ble_eq_true rfl) dX1_letters_61 ⟨Nat.zero_le _, Nat.zero_le _⟩ ?_
      refine n_bif_eq (b := inl li i t) (tgt := 93) S dX1_letters_64 (by decide) (fun h64 => ?_) (fun h64 => ?_)
      · refine n_iinc (lv' := [(4, .int (nI (i + 1))), (0, .ref (a 0)), (1, .int (nI t)), (2, .int (nI y)), (3, .int (nI k)), (5, .int (nI j))]) (x := i) (k := 4) S dX1_letters_93 hl rfl (by decide) rfl (fun ls hl => ?_)
        refine lv_goto (tgt := 33) S.1 S.2.1 dX1_letters_96 (by decide) ?_
        exact ih33 (i + 1) k (by omega) (by omega) (by rw [smm, ← hk0, ltF]; first | (have := hv3 i h39; rw [if_pos (hj1.elim id (fun q => by omega)), tiw, show le i = j by omega, ek]; done) | (rw [if_neg (by rw [h64]; decide), ek, show j = 0 from hj1.elim (fun q => absurd q (by rw [h64]; decide)) id] <;> rfl)) _ _ hP hD hS ls (lv_sub hl [1, 2, 3, 4, 0] rfl)
      · refine lv_iload_n S.1 S.2.1 dX1_letters_67 rfl (lv_at hl 3 rfl) ?_
        refine lv_aload_n S.1 S.2.1 dX1_letters_68 rfl (lv_at hl 0 rfl) ?_
        refine lv_iload S.1 S.2.1 dX1_letters_69 (lv_at hl 4 rfl) ?_
        refine lv_iload S.1 S.2.1 dX1_letters_71 (lv_at hl 5 rfl) ?_
        refine rd_callV (C := RX1) (As := [.int (nI i), .int (nI j)]) (rest := [.int (nI k)]) S (kX1_letterAt l dC dI cI cZ cJ a 0 n mw nf sg fo L le sc li ba ca wa i j hI (by omega) (by omega)) rB_blind (fun U hU hW => ⟨by rw [hU]; exact hP, va_K.moved hW.alike hK⟩) (va_recv hK hP (ci := 1) (q0 := 0) rfl rfl) gX1_60 hdX1_letterAt (by decide) hl.1 rfl (Nat.le_of_ble_eq_true rfl) dX1_letters_73 ⟨Nat.zero_le _, Nat.zero_le _⟩ ?_
        have b73 := hL (15 * i + j)
        refine lv_iload_n S.1 S.2.1 dX1_letters_76 rfl (lv_at hl 2 rfl) ?_
        refine n_icmp_ne (x := L (15 * i + j)) (y := y) (tgt := 84) S dX1_letters_77 (by decide) (by omega) (by omega) (fun h77 => ?_) (fun h77 => ?_)
        · refine lv_iconst (v := (nI 0)) S.1 S.2.1 dX1_letters_84 (by decide) ?_
          refine n_iadd (x := k) (y := 0) S dX1_letters_85 ?_
          refine lv_istore_n (lv' := [(3, .int (nI (k + 0))), (0, .ref (a 0)), (1, .int (nI t)), (2, .int (nI y)), (4, .int (nI i)), (5, .int (nI j))]) S.1 S.2.1 dX1_letters_86 rfl hl (by decide) rfl (fun ls hl => ?_)
          refine n_iinc (lv' := [(5, .int (nI (j + 1))), (3, .int (nI (k + 0))), (0, .ref (a 0)), (1, .int (nI t)), (2, .int (nI y)), (4, .int (nI i))]) (x := j) (k := 5) S dX1_letters_87 hl rfl (by decide) rfl (fun ls hl => ?_)
          refine lv_goto (tgt := 45) S.1 S.2.1 dX1_letters_90 (by decide) ?_
          exact ih (j + 1) (k + 0) (by omega) (by omega) (Or.inl h64) (by rw [cnt, ek]; first | (rw [decide_eq_true h77, Nat.add_assoc] <;> rfl) | (rw [decide_eq_false h77] <;> rfl)) _ _ hP hD hS ls (lv_sub hl [2, 3, 4, 1, 5, 0] rfl)
        · refine lv_iconst (v := (nI 1)) S.1 S.2.1 dX1_letters_80 (by decide) ?_
          refine lv_goto (tgt := 85) S.1 S.2.1 dX1_letters_81 (by decide) ?_
          refine n_iadd (x := k) (y := 1) S dX1_letters_85 ?_
          refine lv_istore_n (lv' := [(3, .int (nI (k + 1))), (0, .ref (a 0)), (1, .int (nI t)), (2, .int (nI y)), (4, .int (nI i)), (5, .int (nI j))]) S.1 S.2.1 dX1_letters_86 rfl hl (by decide) rfl (fun ls hl => ?_)
          refine n_iinc (lv' := [(5, .int (nI (j + 1))), (3, .int (nI (k + 1))), (0, .ref (a 0)), (1, .int (nI t)), (2, .int (nI y)), (4, .int (nI i))]) (x := j) (k := 5) S dX1_letters_87 hl rfl (by decide) rfl (fun ls hl => ?_)
          refine lv_goto (tgt := 45) S.1 S.2.1 dX1_letters_90 (by decide) ?_
          exact ih (j + 1) (k + 1) (by omega) (by omega) (Or.inl h64) (by rw [cnt, ek]; first | (rw [decide_eq_true h77, Nat.add_assoc] <;> rfl) | (rw [decide_eq_false h77] <;> rfl)) _ _ hP hD hS ls (lv_sub hl [2, 3, 4, 1, 5, 0] rfl)
set_option maxRecDepth 100000 in
set_option maxHeartbeats 1000000 in
theorem lX1_letters_33 (l : Launch) (dC : Nat → ClassId) (dI : Nat → Nat → Nat) (cI cZ cJ : ClassId) (a : Nat → Nat) (th n mw nf : Nat) (sg fo L le sc li ba ca : Nat → Nat) (wa : Nat → Int32) (t : Nat) (y : Nat) (hI : iv n mw nf sg fo L le sc li ba ca) (ht : t < 4) (hy : 97 ≤ y ∧ y ≤ 122)  {p : Program} {e : Env} {s : State} {m : MethodId} {below : List Frame} {meth : Method} {c : Code} (S : CallFix p m c cX1_letters 6 s ([.ref (a 0), .int (nI t), .int (nI y)] : List Value).toArray tbG RX1) (hr : meth.sig.returnType = (some .int)) (hlk : meth.locks = false) (hK : va_K (dC, dI) vcl (vty cI cZ cJ) s) :
    ∀ (fuel : Nat) (i : Nat) (k : Nat), mw - i < fuel → i ≤ mw → k = smm (ltF L le li t y) i → ∀ (H : Heap) (locs : List Loc), va_P (dC, dI) vcl (vY cI cZ a 0 n mw nf sg fo L le sc li ba ca wa) H → va_D (wF (vY cI cZ a th n mw nf sg fo L le sc li ba ca wa)) (vY cI cZ a 0 n mw nf sg fo L le sc li ba ca wa) → va_S (wF (vY cI cZ a th n mw nf sg fo L le sc li ba ca wa)) s.heap H locs → ∀ ls : Array Slot, lv_has ls 6 [(0, .ref (a 0)), (1, .int (nI t)), (2, .int (nI y)), (3, .int (nI k)), (4, .int (nI i))] → W p l e ({ frames := 1, cells := 0, slots := 0, locals := 22 } : Room) s m ([.ref (a 0), .int (nI t), .int (nI y)] : List Value).toArray below meth c H locs 0 0 (MQ below (Qw dC dI (vY cI cZ a th n mw nf sg fo L le sc li ba ca wa) (vY cI cZ a 0 n mw nf sg fo L le sc li ba ca wa) (some (.int (nI (smm (ltF L le li t y) mw))))) ([.ref (a 0), .int (nI t), .int (nI y)] : List Value).toArray s 0 0 (wF (vY cI cZ a th n mw nf sg fo L le sc li ba ca wa))) (F0 m 33 ls []) := by
  obtain ⟨⟨hn, hm, hf⟩, ⟨hsg, hfo, hL, hle, hsc, hli, hba, hca⟩, hv1, hv2, hv3, hv4, hv5, hv6, hv7⟩ := id hI
  intro fuel
  induction fuel with
  | zero =>
    intro i k hq
    exact absurd hq (Nat.not_lt_zero _)
  | succ fuel ih =>
    intro i k hq hi hk H locs hP hD hS ls hl
    refine lv_iload S.1 S.2.1 dX1_letters_33 (lv_at hl 4 rfl) ?_
    refine lv_aload_n S.1 S.2.1 dX1_letters_35 rfl (lv_at hl 0 rfl) ?_
    refine fX1_many (v := .int (nI mw)) S hK hP rfl rfl dX1_letters_36 ?_
    refine n_icmp_ge (x := i) (y := mw) (tgt := 99) S dX1_letters_39 (by decide) (by omega) (by omega) (fun h39 => ?_) (fun h39 => ?_)
    · refine lv_iload_n S.1 S.2.1 dX1_letters_99 rfl (lv_at hl 3 rfl) ?_
      exact wr_ret S hr hlk (rfl) (by rw [hk, show i = mw by omega]) hP (rfl) hS dX1_letters_100
    · refine lv_iconst (v := (nI 0)) S.1 S.2.1 dX1_letters_42 (by decide) ?_
      refine lv_istore (lv' := [(5, .int (nI 0)), (0, .ref (a 0)), (1, .int (nI t)), (2, .int (nI y)), (3, .int (nI k)), (4, .int (nI i))]) S.1 S.2.1 dX1_letters_43 hl (by decide) rfl (fun ls hl => ?_)
      exact lX1_letters_45 l dC dI cI cZ cJ a th n mw nf sg fo L le sc li ba ca wa t y hI ht hy fuel i k hq h39 hk S hr hlk hK ih _ 0 k (Nat.lt_succ_self _) (by omega) (Or.inr rfl) rfl _ _ hP hD hS ls (lv_sub hl [1, 2, 3, 4, 5, 0] rfl)
set_option maxRecDepth 100000 in
set_option maxHeartbeats 1000000 in
theorem kX1_letters (l : Launch) (dC : Nat → ClassId) (dI : Nat → Nat → Nat) (cI cZ cJ : ClassId) (a : Nat → Nat) (th n mw nf : Nat) (sg fo L le sc li ba ca : Nat → Nat) (wa : Nat → Int32) (t : Nat) (y : Nat) (hI : iv n mw nf sg fo L le sc li ba ca) (ht : t < 4) (hy : 97 ≤ y ∧ y ≤ 122) : wr l yX1_letters cX1_letters 6 (some .int) 1 22 [.ref (a 0), .int (nI t), .int (nI y)] dC dI cI cZ cJ (vY cI cZ a th n mw nf sg fo L le sc li ba ca wa) (vY cI cZ a 0 n mw nf sg fo L le sc li ba ca wa) (some (.int (nI (smm (ltF L le li t y) mw)))) := by
  refine wr_ofW RX1 (by decide) rfl (Nat.le_of_ble_eq_true rfl) ?_
  intro p e s m below meth c S hr hlk hK hP hD hS ls hl
  have hl : lv_has ls 6 [(0, .ref (a 0)), (1, .int (nI t)), (2, .int (nI y))] := hl
  obtain ⟨⟨hn, hm, hf⟩, ⟨hsg, hfo, hL, hle, hsc, hli, hba, hca⟩, hv1, hv2, hv3, hv4, hv5, hv6, hv7⟩ := id hI
  refine lv_aload_n S.1 S.2.1 dX1_letters_0 rfl (lv_at hl 0 rfl) ?_
  refine lv_iload_n S.1 S.2.1 dX1_letters_1 rfl (lv_at hl 1 rfl) ?_
  refine rd_callS (As := [.int (nI t)]) (rest := [.ref (a 0)]) S (kX1_isList l ((nI t))) tr_blind (fun _ _ _ => trivial) gX1_68 hdX1_isList (by decide) hl.1 rfl (Nat.le_of_ble_eq_true rfl) dX1_letters_2 ⟨Nat.zero_le _, Nat.zero_le _⟩ ?_
  rw [isLi_n ht]
  refine n_bif_eq (b := true) (tgt := 15) S dX1_letters_5 (by decide) (fun h5 => ?_) (fun h5 => ?_)
  · exact absurd h5 (by decide)
  · refine lv_iload_n S.1 S.2.1 dX1_letters_8 rfl (lv_at hl 2 rfl) ?_
    refine rd_callS (As := [.int (nI y)]) (rest := [.ref (a 0)]) S (kX1_isLetter l (nI y)) tr_blind (fun _ _ _ => trivial) gX1_45 hdX1_isLetter (by decide) hl.1 rfl (Nat.le_of_ble_eq_true rfl) dX1_letters_9 ⟨Nat.zero_le _, Nat.zero_le _⟩ ?_
    rw [isL_i hy]
    refine n_bif_ne (b := true) (tgt := 19) S dX1_letters_12 (by decide) (fun h12 => ?_) (fun h12 => ?_)
    · refine lv_iconst (v := (nI 0)) S.1 S.2.1 dX1_letters_19 (by decide) ?_
      refine wr_callV (C := RX1) (As := [.int (nI 0)]) (rest := []) S (kX1_fails l dC dI cI cZ cJ a th n mw nf sg fo L le sc li ba ca wa false) hK [] [] hP hD hS rfl (va_recv hK hP (ci := 1) (q0 := 0) rfl rfl) gX1_52 hdX1_fails (by decide) hl.1 rfl (Nat.le_of_ble_eq_true rfl) dX1_letters_20 ⟨Nat.zero_le _, Nat.zero_le _⟩ (fun H locs hP hD hS => ?_)
      have hP : va_P (dC, dI) vcl (vY cI cZ a 0 n mw nf sg fo L le sc li ba ca wa) H := hP
      have hD : va_D (wF (vY cI cZ a th n mw nf sg fo L le sc li ba ca wa)) (vY cI cZ a 0 n mw nf sg fo L le sc li ba ca wa) := hD
      refine n_bif_eq (b := false) (tgt := 28) S dX1_letters_23 (by decide) (fun h23 => ?_) (fun h23 => ?_)
      · refine lv_iconst (v := (nI 0)) S.1 S.2.1 dX1_letters_28 (by decide) ?_
        refine lv_istore_n (lv' := [(3, .int (nI 0)), (0, .ref (a 0)), (1, .int (nI t)), (2, .int (nI y))]) S.1 S.2.1 dX1_letters_29 rfl hl (by decide) rfl (fun ls hl => ?_)
        refine lv_iconst (v := (nI 0)) S.1 S.2.1 dX1_letters_30 (by decide) ?_
        refine lv_istore (lv' := [(4, .int (nI 0)), (3, .int (nI 0)), (0, .ref (a 0)), (1, .int (nI t)), (2, .int (nI y))]) S.1 S.2.1 dX1_letters_31 hl (by decide) rfl (fun ls hl => ?_)
        exact lX1_letters_33 l dC dI cI cZ cJ a th n mw nf sg fo L le sc li ba ca wa t y hI ht hy S hr hlk hK _ 0 0 (Nat.lt_succ_self _) (by omega) rfl _ _ hP hD hS ls (lv_sub hl [2, 3, 4, 1, 0] rfl)
      · exact absurd h23 (by decide)
    · exact absurd h12 (by decide)

set_option maxRecDepth 100000 in
set_option maxHeartbeats 1000000 in
theorem kX1_commonF (l : Launch) (dC : Nat → ClassId) (dI : Nat → Nat → Nat) (cI cZ cJ : ClassId) (a : Nat → Nat) (th n mw nf : Nat) (sg fo L le sc li ba ca : Nat → Nat) (wa : Nat → Int32) (u : Int32) (hu : isLi u = false) : wr l yX1_common cX1_common 6 (some .int) 1 21 [.ref (a 0), .int u] dC dI cI cZ cJ (vY cI cZ a th n mw nf sg fo L le sc li ba ca wa) (vY cI cZ a 1 n mw nf sg fo L le sc li ba ca wa) (some (.int (nI (0)))) := by
  refine wr_ofW RX1 (by decide) rfl (Nat.le_of_ble_eq_true rfl) ?_
  intro p e s m below meth c S hr hlk hK hP hD hS ls hl
  have hl : lv_has ls 6 [(0, .ref (a 0)), (1, .int u)] := hl
  refine lv_aload_n S.1 S.2.1 dX1_common_0 rfl (lv_at hl 0 rfl) ?_
  refine lv_iload_n S.1 S.2.1 dX1_common_1 rfl (lv_at hl 1 rfl) ?_
  refine rd_callS (As := [.int u]) (rest := [.ref (a 0)]) S (kX1_isList l u) tr_blind (fun _ _ _ => trivial) gX1_68 hdX1_isList (by decide) hl.1 rfl (Nat.le_of_ble_eq_true rfl) dX1_common_2 ⟨Nat.zero_le _, Nat.zero_le _⟩ ?_
  rw [hu]
  refine n_bif_ne (b := false) (tgt := 12) S dX1_common_5 (by decide) (fun h5 => ?_) (fun h5 => ?_)
  · exact absurd h5 (by decide)
  · refine lv_iconst (v := (nI 1)) S.1 S.2.1 dX1_common_8 (by decide) ?_
    refine lv_goto (tgt := 13) S.1 S.2.1 dX1_common_9 (by decide) ?_
    refine wr_callV (C := RX1) (As := [.int (nI 1)]) (rest := []) S (kX1_fails l dC dI cI cZ cJ a th n mw nf sg fo L le sc li ba ca wa true) hK [] [] hP hD hS rfl (va_recv hK hP (ci := 1) (q0 := 0) rfl rfl) gX1_52 hdX1_fails (by decide) hl.1 rfl (Nat.le_of_ble_eq_true rfl) dX1_common_13 ⟨Nat.zero_le _, Nat.zero_le _⟩ (fun H locs hP hD hS => ?_)
    have hP : va_P (dC, dI) vcl (vY cI cZ a 1 n mw nf sg fo L le sc li ba ca wa) H := hP
    have hD : va_D (wF (vY cI cZ a th n mw nf sg fo L le sc li ba ca wa)) (vY cI cZ a 1 n mw nf sg fo L le sc li ba ca wa) := hD
    refine n_bif_eq (b := true) (tgt := 21) S dX1_common_16 (by decide) (fun h16 => ?_) (fun h16 => ?_)
    · exact absurd h16 (by decide)
    · refine lv_iconst (v := (nI 0)) S.1 S.2.1 dX1_common_19 (by decide) ?_
      exact wr_ret S hr hlk (rfl) (rfl) hP (rfl) hS dX1_common_20

set_option maxRecDepth 100000 in
set_option maxHeartbeats 1000000 in
theorem lX1_common_78 (l : Launch) (dC : Nat → ClassId) (dI : Nat → Nat → Nat) (cI cZ cJ : ClassId) (a : Nat → Nat) (th n mw nf : Nat) (sg fo L le sc li ba ca : Nat → Nat) (wa : Nat → Int32) (t : Nat) (hI : iv n mw nf sg fo L le sc li ba ca) (ht : t < 4) (fuel0 : Nat) (i g k2 : Nat) (hq0 : mw - i < fuel0 + 1) (h34 : i < mw) (hg1 : g ≠ 0) (hgi : g ≤ i + 1) (hk2 : k2 ≤ 15 ∧ k2 ≤ le (g - 1)) (hcm2 : cmn L le li ba t (i + 1) = (g, lcp (fun j => L (15 * (g - 1) + j)) (fun j => L (15 * i + j)) (min k2 (le i))))  {p : Program} {e : Env} {s : State} {m : MethodId} {below : List Frame} {meth : Method} {c : Code} (S : CallFix p m c cX1_common 6 s ([.ref (a 0), .int (nI t)] : List Value).toArray tbG RX1) (hr : meth.sig.returnType = (some .int)) (hlk : meth.locks = false) (hK : va_K (dC, dI) vcl (vty cI cZ cJ) s) (ih28 : ∀ (i : Nat) (f : Nat) (k : Nat), mw - i < fuel0 → i ≤ mw → (f, k) = cmn L le li ba t i → k ≤ 15 ∧ f ≤ i ∧ (f ≠ 0 → k ≤ le (f - 1)) → ∀ (H : Heap) (locs : List Loc), va_P (dC, dI) vcl (vY cI cZ a 0 n mw nf sg fo L le sc li ba ca wa) H → va_D (wF (vY cI cZ a th n mw nf sg fo L le sc li ba ca wa)) (vY cI cZ a 0 n mw nf sg fo L le sc li ba ca wa) → va_S (wF (vY cI cZ a th n mw nf sg fo L le sc li ba ca wa)) s.heap H locs → ∀ ls : Array Slot, lv_has ls 6 [(0, .ref (a 0)), (1, .int (nI t)), (2, .int (ffo f)), (3, .int (nI k)), (4, .int (nI i))] → W p l e ({ frames := 1, cells := 0, slots := 0, locals := 22 } : Room) s m ([.ref (a 0), .int (nI t)] : List Value).toArray below meth c H locs 0 0 (MQ below (Qw dC dI (vY cI cZ a th n mw nf sg fo L le sc li ba ca wa) (vY cI cZ a 0 n mw nf sg fo L le sc li ba ca wa) (some (.int (nI ((cmn L le li ba t mw).2))))) ([.ref (a 0), .int (nI t)] : List Value).toArray s 0 0 (wF (vY cI cZ a th n mw nf sg fo L le sc li ba ca wa))) (F0 m 28 ls [])) :
    ∀ (fuel : Nat) (j : Nat), min k2 (le i) - j < fuel → j ≤ min k2 (le i) → (∀ x, x < j → L (15 * (g - 1) + x) = L (15 * i + x)) → ∀ (H : Heap) (locs : List Loc), va_P (dC, dI) vcl (vY cI cZ a 0 n mw nf sg fo L le sc li ba ca wa) H → va_D (wF (vY cI cZ a th n mw nf sg fo L le sc li ba ca wa)) (vY cI cZ a 0 n mw nf sg fo L le sc li ba ca wa) → va_S (wF (vY cI cZ a th n mw nf sg fo L le sc li ba ca wa)) s.heap H locs → ∀ ls : Array Slot, lv_has ls 6 [(0, .ref (a 0)), (1, .int (nI t)), (2, .int (nI (g - 1))), (3, .int (nI k2)), (4, .int (nI i)), (5, .int (nI j))] → W p l e ({ frames := 1, cells := 0, slots := 0, locals := 22 } : Room) s m ([.ref (a 0), .int (nI t)] : List Value).toArray below meth c H locs 0 0 (MQ below (Qw dC dI (vY cI cZ a th n mw nf sg fo L le sc li ba ca wa) (vY cI cZ a 0 n mw nf sg fo L le sc li ba ca wa) (some (.int (nI ((cmn L le li ba t mw).2))))) ([.ref (a 0), .int (nI t)] : List Value).toArray s 0 0 (wF (vY cI cZ a th n mw nf sg fo L le sc li ba ca wa))) (F0 m 78 ls []) := by
  obtain ⟨⟨hn, hm, hf⟩, ⟨hsg, hfo, hL, hle, hsc, hli, hba, hca⟩, hv1, hv2, hv3, hv4, hv5, hv6, hv7⟩ := id hI
  intro fuel
  induction fuel with
  | zero =>
    intro j hq
    exact absurd hq (Nat.not_lt_zero _)
  | succ fuel ih =>
    intro j hq hj3 hj2 H locs hP hD hS ls hl
    have hlei := hle i
    refine lv_iload S.1 S.2.1 dX1_common_78 (lv_at hl 5 rfl) ?_
    refine lv_iload_n S.1 S.2.1 dX1_common_80 rfl (lv_at hl 3 rfl) ?_
    refine n_icmp_ge (x := j) (y := k2) (tgt := 120) S dX1_common_81 (by decide) (by omega) (by omega) (fun h81 => ?_) (fun h81 => ?_)
    · refine lv_iload S.1 S.2.1 dX1_common_120 (lv_at hl 5 rfl) ?_
      refine lv_istore_n (lv' := [(3, .int (nI j)), (0, .ref (a 0)), (1, .int (nI t)), (2, .int (nI (g - 1))), (4, .int (nI i)), (5, .int (nI j))]) S.1 S.2.1 dX1_common_122 rfl hl (by decide) rfl (fun ls hl => ?_)
      refine n_iinc (lv' := [(4, .int (nI (i + 1))), (3, .int (nI j)), (0, .ref (a 0)), (1, .int (nI t)), (2, .int (nI (g - 1))), (5, .int (nI j))]) (x := i) (k := 4) S dX1_common_123 hl rfl (by decide) rfl (fun ls hl => ?_)
      refine lv_goto (tgt := 28) S.1 S.2.1 dX1_common_126 (by decide) ?_
      exact ih28 (i + 1) g j (by omega) (by omega) (by rw [hcm2, lcp_at hj3 hj2 (by first | exact Or.inr (fun q => h111 q.symm) | exact Or.inl (by omega))]) ⟨by omega, by omega, fun _ => by omega⟩ _ _ hP hD hS ls (lv_sub hl [2, 3, 4, 1, 0] (by first | rfl | (rw [show ffo g = nI (g - 1) from if_neg hg1]; rfl)))
    · refine lv_iload S.1 S.2.1 dX1_common_84 (lv_at hl 5 rfl) ?_
      refine lv_aload_n S.1 S.2.1 dX1_common_86 rfl (lv_at hl 0 rfl) ?_
      refine fX1_lengths (v := .ref (a 4)) S hK hP rfl rfl dX1_common_87 ?_
      refine lv_iload S.1 S.2.1 dX1_common_90 (lv_at hl 4 rfl) ?_
      refine n_iald S hK hP 4 0 rfl rfl dX1_common_92 (j := i) (by decide) (by omega) ?_
      have b92 := hle i
      refine n_icmp_ge (x := j) (y := le i) (tgt := 120) S dX1_common_93 (by decide) (by omega) (by omega) (fun h93 => ?_) (fun h93 => ?_)
      · refine lv_iload S.1 S.2.1 dX1_common_120 (lv_at hl 5 rfl) ?_
        refine lv_istore_n (lv' := [(3, .int (nI j)), (0, .ref (a 0)), (1, .int (nI t)), (2, .int (nI (g - 1))), (4, .int (nI i)), (5, .int (nI j))]) S.1 S.2.1 dX1_common_122 rfl hl (by decide) rfl (fun ls hl => ?_)
        refine n_iinc (lv' := [(4, .int (nI (i + 1))), (3, .int (nI j)), (0, .ref (a 0)), (1, .int (nI t)), (2, .int (nI (g - 1))), (5, .int (nI j))]) (x := i) (k := 4) S dX1_common_123 hl rfl (by decide) rfl (fun ls hl => ?_)
        refine lv_goto (tgt := 28) S.1 S.2.1 dX1_common_126 (by decide) ?_
        exact ih28 (i + 1) g j (by omega) (by omega) (by rw [hcm2, lcp_at hj3 hj2 (by first | exact Or.inr (fun q => h111 q.symm) | exact Or.inl (by omega))]) ⟨by omega, by omega, fun _ => by omega⟩ _ _ hP hD hS ls (lv_sub hl [2, 3, 4, 1, 0] (by first | rfl | (rw [show ffo g = nI (g - 1) from if_neg hg1]; rfl)))
      · refine lv_aload_n S.1 S.2.1 dX1_common_96 rfl (lv_at hl 0 rfl) ?_
        refine lv_iload S.1 S.2.1 dX1_common_97 (lv_at hl 4 rfl) ?_
        refine lv_iload S.1 S.2.1 dX1_common_99 (lv_at hl 5 rfl) ?_
        refine rd_callV (C := RX1) (As := [.int (nI i), .int (nI j)]) (rest := []) S (kX1_letterAt l dC dI cI cZ cJ a 0 n mw nf sg fo L le sc li ba ca wa i j hI (by omega) (by omega)) rB_blind (fun U hU hW => ⟨by rw [hU]; exact hP, va_K.moved hW.alike hK⟩) (va_recv hK hP (ci := 1) (q0 := 0) rfl rfl) gX1_60 hdX1_letterAt (by decide) hl.1 rfl (Nat.le_of_ble_eq_true rfl) dX1_common_101 ⟨Nat.zero_le _, Nat.zero_le _⟩ ?_
        have b101 := hL (15 * i + j)
        refine lv_aload_n S.1 S.2.1 dX1_common_104 rfl (lv_at hl 0 rfl) ?_
        refine lv_iload_n S.1 S.2.1 dX1_common_105 rfl (lv_at hl 2 rfl) ?_
        refine lv_iload S.1 S.2.1 dX1_common_106 (lv_at hl 5 rfl) ?_
        refine rd_callV (C := RX1) (As := [.int (nI (g - 1)), .int (nI j)]) (rest := [.int (nI (L (15 * i + j)))]) S (kX1_letterAt l dC dI cI cZ cJ a 0 n mw nf sg fo L le sc li ba ca wa (g - 1) j hI (by omega) (by omega)) rB_blind (fun U hU hW => ⟨by rw [hU]; exact hP, va_K.moved hW.alike hK⟩) (va_recv hK hP (ci := 1) (q0 := 0) rfl rfl) gX1_60 hdX1_letterAt (by decide) hl.1 rfl (Nat.le_of_ble_eq_true rfl) dX1_common_108 ⟨Nat.zero_le _, Nat.zero_le _⟩ ?_
        have b108 := hL (15 * (g - 1) + j)
        refine n_icmp_ne (x := L (15 * i + j)) (y := L (15 * (g - 1) + j)) (tgt := 120) S dX1_common_111 (by decide) (by omega) (by omega) (fun h111 => ?_) (fun h111 => ?_)
        · refine lv_iload S.1 S.2.1 dX1_common_120 (lv_at hl 5 rfl) ?_
          refine lv_istore_n (lv' := [(3, .int (nI j)), (0, .ref (a 0)), (1, .int (nI t)), (2, .int (nI (g - 1))), (4, .int (nI i)), (5, .int (nI j))]) S.1 S.2.1 dX1_common_122 rfl hl (by decide) rfl (fun ls hl => ?_)
          refine n_iinc (lv' := [(4, .int (nI (i + 1))), (3, .int (nI j)), (0, .ref (a 0)), (1, .int (nI t)), (2, .int (nI (g - 1))), (5, .int (nI j))]) (x := i) (k := 4) S dX1_common_123 hl rfl (by decide) rfl (fun ls hl => ?_)
          refine lv_goto (tgt := 28) S.1 S.2.1 dX1_common_126 (by decide) ?_
          exact ih28 (i + 1) g j (by omega) (by omega) (by rw [hcm2, lcp_at hj3 hj2 (by first | exact Or.inr (fun q => h111 q.symm) | exact Or.inl (by omega))]) ⟨by omega, by omega, fun _ => by omega⟩ _ _ hP hD hS ls (lv_sub hl [2, 3, 4, 1, 0] (by first | rfl | (rw [show ffo g = nI (g - 1) from if_neg hg1]; rfl)))
        · refine n_iinc (lv' := [(5, .int (nI (j + 1))), (0, .ref (a 0)), (1, .int (nI t)), (2, .int (nI (g - 1))), (3, .int (nI k2)), (4, .int (nI i))]) (x := j) (k := 5) S dX1_common_114 hl rfl (by decide) rfl (fun ls hl => ?_)
          refine lv_goto (tgt := 78) S.1 S.2.1 dX1_common_117 (by decide) ?_
          exact ih (j + 1) (by omega) (by omega) (lt_s hj2 h111.symm) _ _ hP hD hS ls (lv_sub hl [1, 2, 3, 4, 5, 0] (by first | rfl | (rw [show ffo f = nI (f - 1) from if_neg hf1]; rfl)))
set_option maxRecDepth 100000 in
set_option maxHeartbeats 1000000 in
theorem lX1_common_28 (l : Launch) (dC : Nat → ClassId) (dI : Nat → Nat → Nat) (cI cZ cJ : ClassId) (a : Nat → Nat) (th n mw nf : Nat) (sg fo L le sc li ba ca : Nat → Nat) (wa : Nat → Int32) (t : Nat) (hI : iv n mw nf sg fo L le sc li ba ca) (ht : t < 4)  {p : Program} {e : Env} {s : State} {m : MethodId} {below : List Frame} {meth : Method} {c : Code} (S : CallFix p m c cX1_common 6 s ([.ref (a 0), .int (nI t)] : List Value).toArray tbG RX1) (hr : meth.sig.returnType = (some .int)) (hlk : meth.locks = false) (hK : va_K (dC, dI) vcl (vty cI cZ cJ) s) :
    ∀ (fuel : Nat) (i : Nat) (f : Nat) (k : Nat), mw - i < fuel → i ≤ mw → (f, k) = cmn L le li ba t i → k ≤ 15 ∧ f ≤ i ∧ (f ≠ 0 → k ≤ le (f - 1)) → ∀ (H : Heap) (locs : List Loc), va_P (dC, dI) vcl (vY cI cZ a 0 n mw nf sg fo L le sc li ba ca wa) H → va_D (wF (vY cI cZ a th n mw nf sg fo L le sc li ba ca wa)) (vY cI cZ a 0 n mw nf sg fo L le sc li ba ca wa) → va_S (wF (vY cI cZ a th n mw nf sg fo L le sc li ba ca wa)) s.heap H locs → ∀ ls : Array Slot, lv_has ls 6 [(0, .ref (a 0)), (1, .int (nI t)), (2, .int (ffo f)), (3, .int (nI k)), (4, .int (nI i))] → W p l e ({ frames := 1, cells := 0, slots := 0, locals := 22 } : Room) s m ([.ref (a 0), .int (nI t)] : List Value).toArray below meth c H locs 0 0 (MQ below (Qw dC dI (vY cI cZ a th n mw nf sg fo L le sc li ba ca wa) (vY cI cZ a 0 n mw nf sg fo L le sc li ba ca wa) (some (.int (nI ((cmn L le li ba t mw).2))))) ([.ref (a 0), .int (nI t)] : List Value).toArray s 0 0 (wF (vY cI cZ a th n mw nf sg fo L le sc li ba ca wa))) (F0 m 28 ls []) := by
  obtain ⟨⟨hn, hm, hf⟩, ⟨hsg, hfo, hL, hle, hsc, hli, hba, hca⟩, hv1, hv2, hv3, hv4, hv5, hv6, hv7⟩ := id hI
  intro fuel
  induction fuel with
  | zero =>
    intro i f k hq
    exact absurd hq (Nat.not_lt_zero _)
  | succ fuel ih =>
    intro i f k hq hi hc hk H locs hP hD hS ls hl
    have hlei := hle i
    refine lv_iload S.1 S.2.1 dX1_common_28 (lv_at hl 4 rfl) ?_
    refine lv_aload_n S.1 S.2.1 dX1_common_30 rfl (lv_at hl 0 rfl) ?_
    refine fX1_many (v := .int (nI mw)) S hK hP rfl rfl dX1_common_31 ?_
    refine n_icmp_ge (x := i) (y := mw) (tgt := 129) S dX1_common_34 (by decide) (by omega) (by omega) (fun h34 => ?_) (fun h34 => ?_)
    · refine lv_iload_n S.1 S.2.1 dX1_common_129 rfl (lv_at hl 3 rfl) ?_
      exact wr_ret S hr hlk (rfl) (by rw [show mw = i by omega, ← hc]) hP (rfl) hS dX1_common_130
    · refine lv_aload_n S.1 S.2.1 dX1_common_37 rfl (lv_at hl 0 rfl) ?_
      refine lv_iload S.1 S.2.1 dX1_common_38 (lv_at hl 4 rfl) ?_
      refine lv_iload_n S.1 S.2.1 dX1_common_40 rfl (lv_at hl 1 rfl) ?_
      refine rd_callV (C := RX1) (As := [.int (nI i), .int (nI t)]) (rest := []) S (kX1_isIn l dC dI cI cZ cJ a 0 n mw nf sg fo L le sc li ba ca wa i t hI (by omega) ht) rB_blind (fun U hU hW => ⟨by rw [hU]; exact hP, va_K.moved hW.alike hK⟩) (va_recv hK hP (ci := 1) (q0 := 0) rfl rfl) gX1_78 hdX1_isIn (by decide) hl.1 rfl (Nat.le_of_ble_eq_true rfl) dX1_common_41 ⟨Nat.zero_le _, Nat.zero_le _⟩ ?_
      refine n_bif_eq (b := inl li i t) (tgt := 123) S dX1_common_44 (by decide) (fun h44 => ?_) (fun h44 => ?_)
      · refine n_iinc (lv' := [(4, .int (nI (i + 1))), (0, .ref (a 0)), (1, .int (nI t)), (2, .int (ffo f)), (3, .int (nI k))]) (x := i) (k := 4) S dX1_common_123 hl rfl (by decide) rfl (fun ls hl => ?_)
        refine lv_goto (tgt := 28) S.1 S.2.1 dX1_common_126 (by decide) ?_
        exact ih (i + 1) f k (by omega) (by omega) (by rw [cmn, ← hc]; first | (rw [show fre li ba t i = false from by rw [fre, h44, decide_eq_false h54]; rfl] <;> rfl) | (rw [show fre li ba t i = false from by rw [fre, h44]; rfl] <;> rfl)) ⟨by omega, by omega, hk.2.2⟩ _ _ hP hD hS ls (lv_sub hl [1, 2, 3, 4, 0] (by first | rfl | (rw [show ffo g = nI (g - 1) from if_neg hg1]; rfl)))
      · refine lv_aload_n S.1 S.2.1 dX1_common_47 rfl (lv_at hl 0 rfl) ?_
        refine fX1_barred (v := .ref (a 7)) S hK hP rfl rfl dX1_common_48 ?_
        refine lv_iload S.1 S.2.1 dX1_common_51 (lv_at hl 4 rfl) ?_
        refine n_zald S hK hP 7 1 rfl rfl dX1_common_53 (j := i) (by decide) (by omega) ?_
        have b53 := hba i
        refine n_if_eq (x := ba i) (tgt := 60) S dX1_common_54 (by decide) (by omega) (fun h54 => ?_) (fun h54 => ?_)
        · refine lv_iload_n S.1 S.2.1 dX1_common_60 rfl (lv_at hl 2 rfl) ?_
          refine lv_if_ge (tgt := 75) S.1 S.2.1 dX1_common_61 (by decide) (fun h61 => ?_) (fun h61 => ?_)
          · refine lv_iconst (v := (nI 0)) S.1 S.2.1 dX1_common_75 (by decide) ?_
            refine lv_istore (lv' := [(5, .int (nI 0)), (0, .ref (a 0)), (1, .int (nI t)), (2, .int (ffo f)), (3, .int (nI k)), (4, .int (nI i))]) S.1 S.2.1 dX1_common_76 hl (by decide) rfl (fun ls hl => ?_)
            have hf1 : f ≠ 0 := fun q => absurd h61 (by rw [q]; decide)
            exact lX1_common_78 l dC dI cI cZ cJ a th n mw nf sg fo L le sc li ba ca wa t hI ht fuel i f k hq h34 hf1 (by omega) ⟨by omega, hk.2.2 hf1⟩ (cmn_b hc (show fre li ba t i = true from by rw [fre, h44, decide_eq_true h54]; rfl) hf1 (hk.2.2 hf1)) S hr hlk hK ih _ 0 (Nat.lt_succ_self _) (by omega) (fun x hx => absurd hx (Nat.not_lt_zero x)) _ _ hP hD hS ls (lv_sub hl [1, 2, 3, 4, 5, 0] (by first | rfl | (rw [show ffo f = nI (f - 1) from if_neg hf1]; rfl)))
          · have hf0 : f = 0 := ffo_n h61 (by omega)
            refine lv_iload S.1 S.2.1 dX1_common_64 (lv_at hl 4 rfl) ?_
            refine lv_istore_n (lv' := [(2, .int (nI i)), (0, .ref (a 0)), (1, .int (nI t)), (3, .int (nI k)), (4, .int (nI i))]) S.1 S.2.1 dX1_common_66 rfl hl (by decide) rfl (fun ls hl => ?_)
            refine lv_aload_n S.1 S.2.1 dX1_common_67 rfl (lv_at hl 1 rfl) ?_
            refine fX1_lengths (v := .ref (a 4)) S hK hP rfl rfl dX1_common_68 ?_
            refine lv_iload S.1 S.2.1 dX1_common_71 (lv_at hl 4 rfl) ?_
            refine n_iald S hK hP 4 0 rfl rfl dX1_common_73 (j := i) (by decide) (by omega) ?_
            have b73 := hle i
            refine lv_istore_n (lv' := [(3, .int (nI (le i))), (2, .int (nI i)), (0, .ref (a 0)), (1, .int (nI t)), (4, .int (nI i))]) S.1 S.2.1 dX1_common_74 rfl hl (by decide) rfl (fun ls hl => ?_)
            refine lv_iconst (v := (nI 0)) S.1 S.2.1 dX1_common_75 (by decide) ?_
            refine lv_istore (lv' := [(5, .int (nI 0)), (3, .int (nI (le i))), (2, .int (nI i)), (0, .ref (a 0)), (1, .int (nI t)), (4, .int (nI i))]) S.1 S.2.1 dX1_common_76 hl (by decide) rfl (fun ls hl => ?_)
            exact lX1_common_78 l dC dI cI cZ cJ a th n mw nf sg fo L le sc li ba ca wa t hI ht fuel i (i + 1) (le i) hq h34 (by omega) (by omega) ⟨by omega, by rw [Nat.add_sub_cancel]; exact Nat.le_refl _⟩ (cmn_a hc (show fre li ba t i = true from by rw [fre, h44, decide_eq_true h54]; rfl) hf0) S hr hlk hK ih _ 0 (Nat.lt_succ_self _) (by omega) (fun x hx => absurd hx (Nat.not_lt_zero x)) _ _ hP hD hS ls (lv_sub hl [3, 4, 2, 1, 5, 0] (by first | rfl | (rw [show ffo f = nI (f - 1) from if_neg hf1]; rfl)))
        · refine lv_goto (tgt := 123) S.1 S.2.1 dX1_common_57 (by decide) ?_
          refine n_iinc (lv' := [(4, .int (nI (i + 1))), (0, .ref (a 0)), (1, .int (nI t)), (2, .int (ffo f)), (3, .int (nI k))]) (x := i) (k := 4) S dX1_common_123 hl rfl (by decide) rfl (fun ls hl => ?_)
          refine lv_goto (tgt := 28) S.1 S.2.1 dX1_common_126 (by decide) ?_
          exact ih (i + 1) f k (by omega) (by omega) (by rw [cmn, ← hc]; first | (rw [show fre li ba t i = false from by rw [fre, h44, decide_eq_false h54]; rfl] <;> rfl) | (rw [show fre li ba t i = false from by rw [fre, h44]; rfl] <;> rfl)) ⟨by omega, by omega, hk.2.2⟩ _ _ hP hD hS ls (lv_sub hl [1, 2, 3, 4, 0] (by first | rfl | (rw [show ffo g = nI (g - 1) from if_neg hg1]; rfl)))
set_option maxRecDepth 100000 in
set_option maxHeartbeats 1000000 in
theorem kX1_common (l : Launch) (dC : Nat → ClassId) (dI : Nat → Nat → Nat) (cI cZ cJ : ClassId) (a : Nat → Nat) (th n mw nf : Nat) (sg fo L le sc li ba ca : Nat → Nat) (wa : Nat → Int32) (t : Nat) (hI : iv n mw nf sg fo L le sc li ba ca) (ht : t < 4) : wr l yX1_common cX1_common 6 (some .int) 1 22 [.ref (a 0), .int (nI t)] dC dI cI cZ cJ (vY cI cZ a th n mw nf sg fo L le sc li ba ca wa) (vY cI cZ a 0 n mw nf sg fo L le sc li ba ca wa) (some (.int (nI ((cmn L le li ba t mw).2)))) := by
  refine wr_ofW RX1 (by decide) rfl (Nat.le_of_ble_eq_true rfl) ?_
  intro p e s m below meth c S hr hlk hK hP hD hS ls hl
  have hl : lv_has ls 6 [(0, .ref (a 0)), (1, .int (nI t))] := hl
  obtain ⟨⟨hn, hm, hf⟩, ⟨hsg, hfo, hL, hle, hsc, hli, hba, hca⟩, hv1, hv2, hv3, hv4, hv5, hv6, hv7⟩ := id hI
  refine lv_aload_n S.1 S.2.1 dX1_common_0 rfl (lv_at hl 0 rfl) ?_
  refine lv_iload_n S.1 S.2.1 dX1_common_1 rfl (lv_at hl 1 rfl) ?_
  refine rd_callS (As := [.int (nI t)]) (rest := [.ref (a 0)]) S (kX1_isList l ((nI t))) tr_blind (fun _ _ _ => trivial) gX1_68 hdX1_isList (by decide) hl.1 rfl (Nat.le_of_ble_eq_true rfl) dX1_common_2 ⟨Nat.zero_le _, Nat.zero_le _⟩ ?_
  rw [isLi_n ht]
  refine n_bif_ne (b := true) (tgt := 12) S dX1_common_5 (by decide) (fun h5 => ?_) (fun h5 => ?_)
  · refine lv_iconst (v := (nI 0)) S.1 S.2.1 dX1_common_12 (by decide) ?_
    refine wr_callV (C := RX1) (As := [.int (nI 0)]) (rest := []) S (kX1_fails l dC dI cI cZ cJ a th n mw nf sg fo L le sc li ba ca wa false) hK [] [] hP hD hS rfl (va_recv hK hP (ci := 1) (q0 := 0) rfl rfl) gX1_52 hdX1_fails (by decide) hl.1 rfl (Nat.le_of_ble_eq_true rfl) dX1_common_13 ⟨Nat.zero_le _, Nat.zero_le _⟩ (fun H locs hP hD hS => ?_)
    have hP : va_P (dC, dI) vcl (vY cI cZ a 0 n mw nf sg fo L le sc li ba ca wa) H := hP
    have hD : va_D (wF (vY cI cZ a th n mw nf sg fo L le sc li ba ca wa)) (vY cI cZ a 0 n mw nf sg fo L le sc li ba ca wa) := hD
    refine n_bif_eq (b := false) (tgt := 21) S dX1_common_16 (by decide) (fun h16 => ?_) (fun h16 => ?_)
    · refine lv_iconst (v := -1) S.1 S.2.1 dX1_common_21 (by decide) ?_
      refine lv_istore_n (lv' := [(2, .int (-1)), (0, .ref (a 0)), (1, .int (nI t))]) S.1 S.2.1 dX1_common_22 rfl hl (by decide) rfl (fun ls hl => ?_)
      refine lv_iconst (v := (nI 0)) S.1 S.2.1 dX1_common_23 (by decide) ?_
      refine lv_istore_n (lv' := [(3, .int (nI 0)), (2, .int (-1)), (0, .ref (a 0)), (1, .int (nI t))]) S.1 S.2.1 dX1_common_24 rfl hl (by decide) rfl (fun ls hl => ?_)
      refine lv_iconst (v := (nI 0)) S.1 S.2.1 dX1_common_25 (by decide) ?_
      refine lv_istore (lv' := [(4, .int (nI 0)), (3, .int (nI 0)), (2, .int (-1)), (0, .ref (a 0)), (1, .int (nI t))]) S.1 S.2.1 dX1_common_26 hl (by decide) rfl (fun ls hl => ?_)
      exact lX1_common_28 l dC dI cI cZ cJ a th n mw nf sg fo L le sc li ba ca wa t hI ht S hr hlk hK _ 0 0 0 (Nat.lt_succ_self _) (by omega) rfl ⟨by omega, by omega, fun q => absurd rfl q⟩ _ _ hP hD hS ls (lv_sub hl [3, 4, 2, 1, 0] (by first | rfl | (rw [show ffo g = nI (g - 1) from if_neg hg1]; rfl)))
    · exact absurd h16 (by decide)
  · exact absurd h5 (by decide)
