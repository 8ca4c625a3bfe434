/-! ===== the class: writers, second part ===== -/
theorem nI_m1 {w : Nat} (h : w < 2 ^ 31) : ¬ nI w = -1 := fun q => by
  have := congrArg Int32.toInt q
  rw [nI_toInt h, show (-1 : Int32).toInt = -1 by decide] at this
  omega
def brF (on : Bool) (P : Nat → Bool) (ba : Nat → Nat) (i : Nat) : Nat → Nat := fun k => if k < i ∧ P k = true then on.toNat else ba k
def brP (on : Bool) (P : Nat → Bool) (ba : Nat → Nat) : Nat → Bool := fun k => P k && decide (ba k ≠ on.toNat)
theorem brF_at {on : Bool} {P : Nat → Bool} {ba : Nat → Nat} {i : Nat} : brF on P ba i i = ba i := by rw [brF, if_neg (by omega)]
theorem brF_0 {on : Bool} {P : Nat → Bool} {ba : Nat → Nat} : brF on P ba 0 = ba := by
  funext k; rw [brF, if_neg (by omega)]
theorem brF_t {on : Bool} {P : Nat → Bool} {ba : Nat → Nat} {i : Nat} (h : P i = true) : va_up (brF on P ba i) i on.toNat = brF on P ba (i + 1) := by
  funext k
  by_cases q : k = i
  · subst q; rw [va_up_self, brF, if_pos ⟨by omega, h⟩]
  · rw [va_up_ne _ _ q, brF, brF]
    by_cases z : k < i ∧ P k = true
    · rw [if_pos z, if_pos ⟨by omega, z.2⟩]
    · rw [if_neg z, if_neg (fun y => z ⟨by omega, y.2⟩)]
theorem brF_f {on : Bool} {P : Nat → Bool} {ba : Nat → Nat} {i : Nat} (h : P i = false) : brF on P ba i = brF on P ba (i + 1) := by
  funext k
  rw [brF, brF]
  by_cases z : k < i ∧ P k = true
  · rw [if_pos z, if_pos ⟨by omega, z.2⟩]
  · rw [if_neg z, if_neg (fun y => by
      by_cases q : k = i
      · subst q; rw [h] at y; exact absurd y.2 (by decide)
      · exact z ⟨by omega, y.2⟩)]
theorem brF_e {on : Bool} {P : Nat → Bool} {ba : Nat → Nat} {i : Nat} (h : ba i = on.toNat) : brF on P ba i = brF on P ba (i + 1) := by
  funext k
  rw [brF, brF]
  by_cases z : k < i ∧ P k = true
  · rw [if_pos z, if_pos ⟨by omega, z.2⟩]
  · rw [if_neg z]
    by_cases y : k < i + 1 ∧ P k = true
    · rw [if_pos y, show k = i from by
        by_cases q : k = i
        · exact q
        · exact absurd ⟨by omega, y.2⟩ z]
      exact h
    · rw [if_neg y]
theorem iv_ba {n mw nf : Nat} {sg fo L le sc li ba ca : Nat → Nat} (hI : iv n mw nf sg fo L le sc li ba ca) (on : Bool) (P : Nat → Bool) (i : Nat) (hi : i ≤ mw) : iv n mw nf sg fo L le sc li (brF on P ba i) ca := by
  obtain ⟨h1, ⟨hsg, hfo, hL, hle, hsc, hli, hba, hca⟩, hv1, hv2, hv3, hv4, hv5, hv6, hv7⟩ := hI
  refine ⟨h1, ⟨hsg, hfo, hL, hle, hsc, hli, fun k => ?_, hca⟩, hv1, hv2, hv3, hv4, hv5, fun w hw => ⟨(hv6 w hw).1, (hv6 w hw).2.1, ?_⟩, hv7⟩
  · rw [brF]; split
    · cases on <;> decide
    · exact hba k
  · rw [brF, if_neg (by omega)]; exact (hv6 w hw).2.2
def mgP (hw u v : Nat) (li : Nat → Nat) : Nat → Bool := fun k => cho hw (inl li k u) (inl li k v)
def mgF (hw t u v : Nat) (li : Nat → Nat) (i : Nat) : Nat → Nat := fun k => if k < i then (if mgP hw u v li k = true then li k ||| 2 ^ t else li k &&& (15 - 2 ^ t)) else li k
theorem mgF_at {hw t u v i : Nat} {li : Nat → Nat} : mgF hw t u v li i i = li i := by rw [mgF, if_neg (by omega)]
theorem mgF_in {hw t u v i x : Nat} {li : Nat → Nat} : inl (mgF hw t u v li i) i x = inl li i x := by rw [inl, mgF_at, inl]
theorem mgF_0 {hw t u v : Nat} {li : Nat → Nat} : mgF hw t u v li 0 = li := by
  funext k; rw [mgF, if_neg (by omega)]
theorem mgF_t {hw t u v i : Nat} {li : Nat → Nat} (h : cho hw (inl li i u) (inl li i v) = true) : va_up (mgF hw t u v li i) i (li i ||| 2 ^ t) = mgF hw t u v li (i + 1) := by
  funext k
  by_cases q : k = i
  · subst q; rw [va_up_self, mgF, if_pos (by omega), if_pos (show mgP hw u v li k = true from h)]
  · rw [va_up_ne _ _ q, mgF, mgF]
    by_cases z : k < i
    · rw [if_pos z, if_pos (show k < i + 1 by omega)]
    · rw [if_neg z, if_neg (show ¬ k < i + 1 by omega)]
theorem mgF_f {hw t u v i : Nat} {li : Nat → Nat} (h : cho hw (inl li i u) (inl li i v) = false) : va_up (mgF hw t u v li i) i (li i &&& (15 - 2 ^ t)) = mgF hw t u v li (i + 1) := by
  funext k
  by_cases q : k = i
  · subst q; rw [va_up_self, mgF, if_pos (by omega), if_neg (by rw [mgP, h]; decide)]
  · rw [va_up_ne _ _ q, mgF, mgF]
    by_cases z : k < i
    · rw [if_pos z, if_pos (show k < i + 1 by omega)]
    · rw [if_neg z, if_neg (show ¬ k < i + 1 by omega)]
theorem iv_mg {n mw nf : Nat} {sg fo L le sc li ba ca : Nat → Nat} (hI : iv n mw nf sg fo L le sc li ba ca) (hw t u v i : Nat) (ht : t < 4) (hi : i ≤ mw) : iv n mw nf sg fo L le sc (mgF hw t u v li i) ba ca := by
  obtain ⟨h1, ⟨hsg, hfo, hL, hle, hsc, hli, hba, hca⟩, hv1, hv2, hv3, hv4, hv5, hv6, hv7⟩ := hI
  refine ⟨h1, ⟨hsg, hfo, hL, hle, hsc, fun k => ?_, hba, hca⟩, hv1, hv2, hv3, hv4, hv5, fun w hw => ⟨?_, (hv6 w hw).2⟩, hv7⟩
  · have hk := hli k
    obtain ⟨-, -, ⟨y, q1, q2, -⟩, ⟨y', q1', q2', -⟩⟩ := tb_lt (li k) (by omega) t ht
    rw [mgF]; split
    · split
      · omega
      · omega
    · exact hk
  · rw [mgF, if_neg (by omega)]; exact (hv6 w hw).1
set_option maxRecDepth 100000 in
theorem kX0_enterN (l : Launch) (dC : Nat → ClassId) (dI : Nat → Nat → Nat) (cI cZ cJ : ClassId) (a : Nat → Nat) (n mw nf : Nat) (sg fo L le sc li ba ca st : Nat → Nat) (t : Nat) (x : Int32) (hI : iv n mw nf sg fo L le sc li ba ca) (ht : t < 4) (he : n = 0 ∨ hbl n sg = true ∨ x < 0 ∨ nI 1000 < x ∨ (wof mw (fit n sg fo L le) = -1 ∧ mw = 250)) : rd l yX0_enter cX0_enter 4 (some .int) 5 108 [.ref (a 0), .int (nI t), .int x] (rB dC dI cI cZ cJ (vX cI cZ a n mw nf sg fo L le sc li ba ca st)) ((-1 : Int32)) := by
  refine rd_ofW RX0 (by decide) rfl (Nat.le_of_ble_eq_true rfl) ?_
  intro p e s m below meth c S hr hlk hB ls hl
  obtain ⟨hP, hK⟩ := hB
  have hl : lv_has ls 4 [(0, .ref (a 0)), (1, .int (nI t)), (2, .int x)] := hl
  obtain ⟨⟨hn, hm, hf⟩, ⟨hsg, hfo, hL, hle, hsc, hli, hba, hca⟩, hv1, hv2, hv3, hv4, hv5, hv6, hv7⟩ := id hI
  refine lv_iload_n S.1 S.2.1 dX0_enter_0 rfl (lv_at hl 1 rfl) ?_
  refine rdv_callS (As := [.int (nI t)]) (rest := []) S (kX0_needList l t ht) tr_blind (fun _ _ _ => trivial) gX0_56 hdX0_needList (by decide) hl.1 rfl (Nat.le_of_ble_eq_true rfl) dX0_enter_1 ⟨Nat.zero_le _, Nat.zero_le _⟩ ?_
  refine lv_aload_n S.1 S.2.1 dX0_enter_4 rfl (lv_at hl 0 rfl) ?_
  refine fX0_signCount (v := .int (nI n)) S hK hP rfl rfl dX0_enter_5 ?_
  refine n_if_eq (x := n) (tgt := 29) S dX0_enter_8 (by decide) (by omega) (fun h8 => ?_) (fun h8 => ?_)
  · refine lv_iconst (v := -1) S.1 S.2.1 dX0_enter_29 (by decide) ?_
    exact rd_ret S hr hlk (rfl) (rfl) dX0_enter_30
  · refine lv_aload_n S.1 S.2.1 dX0_enter_11 rfl (lv_at hl 0 rfl) ?_
    refine rd_callV (C := RX0) (As := []) (rest := []) S (kX0_rowHasBlank l dC dI cI cZ cJ a n mw nf sg fo L le sc li ba ca st hI) rB_blind (fun U hU hW => ⟨by rw [hU]; exact hP, va_K.moved hW.alike hK⟩) (va_recv hK hP (ci := 0) (q0 := 0) rfl rfl) gX0_59 hdX0_rowHasBlank (by decide) hl.1 rfl (Nat.le_of_ble_eq_true rfl) dX0_enter_12 ⟨Nat.zero_le _, Nat.zero_le _⟩ ?_
    refine n_bif_ne (b := hbl n sg) (tgt := 29) S dX0_enter_15 (by decide) (fun h15 => ?_) (fun h15 => ?_)
    · refine lv_iconst (v := -1) S.1 S.2.1 dX0_enter_29 (by decide) ?_
      exact rd_ret S hr hlk (rfl) (rfl) dX0_enter_30
    · refine lv_iload_n S.1 S.2.1 dX0_enter_18 rfl (lv_at hl 2 rfl) ?_
      refine lv_if_lt (tgt := 29) S.1 S.2.1 dX0_enter_19 (by decide) (fun h19 => ?_) (fun h19 => ?_)
      · refine lv_iconst (v := -1) S.1 S.2.1 dX0_enter_29 (by decide) ?_
        exact rd_ret S hr hlk (rfl) (rfl) dX0_enter_30
      · refine lv_iload_n S.1 S.2.1 dX0_enter_22 rfl (lv_at hl 2 rfl) ?_
        refine lv_sipush (v := (nI 1000)) S.1 S.2.1 dX0_enter_23 (by decide) ?_
        refine lv_icmp_le (tgt := 31) S.1 S.2.1 dX0_enter_26 (by decide) (fun h26 => ?_) (fun h26 => ?_)
        · refine lv_aload_n S.1 S.2.1 dX0_enter_31 rfl (lv_at hl 0 rfl) ?_
          refine rd_callV (C := RX0) (As := []) (rest := []) S (kX0_wordOfRow l dC dI cI cZ cJ a n mw nf sg fo L le sc li ba ca st hI) rB_blind (fun U hU hW => ⟨by rw [hU]; exact hP, va_K.moved hW.alike hK⟩) (va_recv hK hP (ci := 0) (q0 := 0) rfl rfl) gX0_63 hdX0_wordOfRow (by decide) hl.1 rfl (Nat.le_of_ble_eq_true rfl) dX0_enter_32 ⟨Nat.zero_le _, Nat.zero_le _⟩ ?_
          refine lv_istore_n (lv' := [(3, .int (wof mw (fit n sg fo L le))), (0, .ref (a 0)), (1, .int (nI t)), (2, .int x)]) S.1 S.2.1 dX0_enter_35 rfl hl (by decide) rfl (fun ls hl => ?_)
          refine lv_iload_n S.1 S.2.1 dX0_enter_36 rfl (lv_at hl 0 rfl) ?_
          refine lv_iconst (v := -1) S.1 S.2.1 dX0_enter_37 (by decide) ?_
          refine lv_icmp_ne (tgt := 58) S.1 S.2.1 dX0_enter_38 (by decide) (fun h38 => ?_) (fun h38 => ?_)
          · exact absurd (show wof mw (fit n sg fo L le) = -1 ∧ mw = 250 by rcases he with q | q | q | q | q; exact absurd q h8; exact absurd q (by rw [h15]; decide); exact absurd q h19; exact absurd h26 (Int32.not_le.mpr q); exact q).1 h38
          · refine lv_aload_n S.1 S.2.1 dX0_enter_41 rfl (lv_at hl 1 rfl) ?_
            refine fX0_wordCount (v := .int (nI mw)) S hK hP rfl rfl dX0_enter_42 ?_
            refine lv_sipush (v := (nI 250)) S.1 S.2.1 dX0_enter_45 (by decide) ?_
            refine n_icmp_lt (x := mw) (y := 250) (tgt := 53) S dX0_enter_48 (by decide) (by omega) (by omega) (fun h48 => ?_) (fun h48 => ?_)
            · exact absurd (show wof mw (fit n sg fo L le) = -1 ∧ mw = 250 by rcases he with q | q | q | q | q; exact absurd q h8; exact absurd q (by rw [h15]; decide); exact absurd q h19; exact absurd h26 (Int32.not_le.mpr q); exact q).2 (by omega)
            · refine lv_iconst (v := -1) S.1 S.2.1 dX0_enter_51 (by decide) ?_
              exact rd_ret S hr hlk (rfl) (rfl) dX0_enter_52
        · refine lv_iconst (v := -1) S.1 S.2.1 dX0_enter_29 (by decide) ?_
          exact rd_ret S hr hlk (rfl) (rfl) dX0_enter_30

set_option maxRecDepth 100000 in
set_option maxHeartbeats 1000000 in
theorem kX0_enterO (l : Launch) (dC : Nat → ClassId) (dI : Nat → Nat → Nat) (cI cZ cJ : ClassId) (a : Nat → Nat) (n mw nf : Nat) (sg fo L le sc li ba ca st : Nat → Nat) (t : Nat) (s0 : Nat) (w : Nat) (hI : iv n mw nf sg fo L le sc li ba ca) (ht : t < 4) (hs : s0 ≤ 1000) (h0 : n ≠ 0) (hb : hbl n sg = false) (hw : w < mw) (hf1 : fit n sg fo L le w = true) (hf2 : ∀ j, j < w → fit n sg fo L le j = false) : wr l yX0_enter cX0_enter 4 (some .int) 5 108 [.ref (a 0), .int (nI t), .int (nI s0)] dC dI cI cZ cJ (vX cI cZ a n mw nf sg fo L le sc li ba ca st) (vX cI cZ a n mw nf sg fo L le (va_up sc w (max (sc w) s0)) (va_up li w (li w ||| 2 ^ t)) ba ca st) (some (.int (nI (w)))) := by
  refine wr_ofW RX0 (by decide) rfl (Nat.le_of_ble_eq_true rfl) ?_
  intro p e s m below meth c S hr hlk hK hP hD hS ls hl
  have hl : lv_has ls 4 [(0, .ref (a 0)), (1, .int (nI t)), (2, .int (nI s0))] := hl
  obtain ⟨⟨hn, hm, hf⟩, ⟨hsg, hfo, hL, hle, hsc, hli, hba, hca⟩, hv1, hv2, hv3, hv4, hv5, hv6, hv7⟩ := id hI
  refine lv_iload_n S.1 S.2.1 dX0_enter_0 rfl (lv_at hl 1 rfl) ?_
  refine rdv_callS (As := [.int (nI t)]) (rest := []) S (kX0_needList l t ht) tr_blind (fun _ _ _ => trivial) gX0_56 hdX0_needList (by decide) hl.1 rfl (Nat.le_of_ble_eq_true rfl) dX0_enter_1 ⟨Nat.zero_le _, Nat.zero_le _⟩ ?_
  refine lv_aload_n S.1 S.2.1 dX0_enter_4 rfl (lv_at hl 0 rfl) ?_
  refine fX0_signCount (v := .int (nI n)) S hK hP rfl rfl dX0_enter_5 ?_
  refine n_if_eq (x := n) (tgt := 29) S dX0_enter_8 (by decide) (by omega) (fun h8 => ?_) (fun h8 => ?_)
  · exact absurd h8 h0
  · refine lv_aload_n S.1 S.2.1 dX0_enter_11 rfl (lv_at hl 0 rfl) ?_
    refine rd_callV (C := RX0) (As := []) (rest := []) S (kX0_rowHasBlank l dC dI cI cZ cJ a n mw nf sg fo L le sc li ba ca st hI) rB_blind (fun U hU hW => ⟨by rw [hU]; exact hP, va_K.moved hW.alike hK⟩) (va_recv hK hP (ci := 0) (q0 := 0) rfl rfl) gX0_59 hdX0_rowHasBlank (by decide) hl.1 rfl (Nat.le_of_ble_eq_true rfl) dX0_enter_12 ⟨Nat.zero_le _, Nat.zero_le _⟩ ?_
    refine n_bif_ne (b := hbl n sg) (tgt := 29) S dX0_enter_15 (by decide) (fun h15 => ?_) (fun h15 => ?_)
    · exact absurd h15 (by rw [hb]; decide)
    · refine lv_iload_n S.1 S.2.1 dX0_enter_18 rfl (lv_at hl 2 rfl) ?_
      refine n_if_lt (x := s0) (tgt := 29) S dX0_enter_19 (by decide) (by omega) ?_
      refine lv_iload_n S.1 S.2.1 dX0_enter_22 rfl (lv_at hl 2 rfl) ?_
      refine lv_sipush (v := (nI 1000)) S.1 S.2.1 dX0_enter_23 (by decide) ?_
      refine n_icmp_le (x := s0) (y := 1000) (tgt := 31) S dX0_enter_26 (by decide) (by omega) (by omega) (fun h26 => ?_) (fun h26 => ?_)
      · refine lv_aload_n S.1 S.2.1 dX0_enter_31 rfl (lv_at hl 0 rfl) ?_
        refine rd_callV (C := RX0) (As := []) (rest := []) S (kX0_wordOfRow l dC dI cI cZ cJ a n mw nf sg fo L le sc li ba ca st hI) rB_blind (fun U hU hW => ⟨by rw [hU]; exact hP, va_K.moved hW.alike hK⟩) (va_recv hK hP (ci := 0) (q0 := 0) rfl rfl) gX0_63 hdX0_wordOfRow (by decide) hl.1 rfl (Nat.le_of_ble_eq_true rfl) dX0_enter_32 ⟨Nat.zero_le _, Nat.zero_le _⟩ ?_
        rw [wof_at hw hf2 hf1]
        refine lv_istore_n (lv' := [(3, .int (nI w)), (0, .ref (a 0)), (1, .int (nI t)), (2, .int (nI s0))]) S.1 S.2.1 dX0_enter_35 rfl hl (by decide) rfl (fun ls hl => ?_)
        refine lv_iload_n S.1 S.2.1 dX0_enter_36 rfl (lv_at hl 0 rfl) ?_
        refine lv_iconst (v := -1) S.1 S.2.1 dX0_enter_37 (by decide) ?_
        refine lv_icmp_ne (tgt := 58) S.1 S.2.1 dX0_enter_38 (by decide) (fun h38 => ?_) (fun h38 => ?_)
        · refine lv_aload_n S.1 S.2.1 dX0_enter_58 rfl (lv_at hl 1 rfl) ?_
          refine fX0_wordListBits (v := .ref (a 6)) S hK hP rfl rfl dX0_enter_59 ?_
          refine lv_iload_n S.1 S.2.1 dX0_enter_62 rfl (lv_at hl 0 rfl) ?_
          refine lv_dup2_11 S.1 S.2.1 dX0_enter_63 rfl rfl ?_
          refine n_iald S hK hP 6 0 rfl rfl dX0_enter_64 (j := w) (by decide) (by omega) ?_
          have b64 := hli w
          refine lv_iconst (v := (nI 1)) S.1 S.2.1 dX0_enter_65 (by decide) ?_
          refine lv_iload_n S.1 S.2.1 dX0_enter_66 rfl (lv_at hl 2 rfl) ?_
          refine lv_ishl S.1 S.2.1 dX0_enter_67 ?_
          refine lv_ior S.1 S.2.1 dX0_enter_68 ?_
          have hbb : nI (li w) ||| (nI 1 <<< (nI t &&& 31)) = nI (li w ||| 2 ^ t) := by obtain ⟨y, q1, q2, q3⟩ := (tb_lt (li w) (by omega) t ht).2.2.1; rw [← q2]; exact q3
          rw [hbb]
          refine n_iast S hK hP hD hS 6 0 rfl rfl dX0_enter_69 (j := w) (x := li w ||| 2 ^ t) (by decide) (by omega) (fun H locs hP hD hS => ?_)
          have hP : va_P (dC, dI) vcl (vX cI cZ a n mw nf sg fo L le sc (va_up li w (li w ||| 2 ^ t)) ba ca st) H := hP
          have hD : va_D (wF (vX cI cZ a n mw nf sg fo L le sc li ba ca st)) (vX cI cZ a n mw nf sg fo L le sc (va_up li w (li w ||| 2 ^ t)) ba ca st) := hD
          refine lv_aload_n S.1 S.2.1 dX0_enter_70 rfl (lv_at hl 1 rfl) ?_
          refine fX0_wordScores (v := .ref (a 5)) S hK hP rfl rfl dX0_enter_71 ?_
          refine lv_iload_n S.1 S.2.1 dX0_enter_74 rfl (lv_at hl 0 rfl) ?_
          refine lv_aload_n S.1 S.2.1 dX0_enter_75 rfl (lv_at hl 1 rfl) ?_
          refine fX0_wordScores (v := .ref (a 5)) S hK hP rfl rfl dX0_enter_76 ?_
          refine lv_iload_n S.1 S.2.1 dX0_enter_79 rfl (lv_at hl 0 rfl) ?_
          refine n_iald S hK hP 5 0 rfl rfl dX0_enter_80 (j := w) (by decide) (by omega) ?_
          have b80 := hsc w
          refine lv_iload_n S.1 S.2.1 dX0_enter_81 rfl (lv_at hl 3 rfl) ?_
          refine n_max (x := sc w) (y := s0) S hl.1 (by decide) (Nat.le_of_ble_eq_true rfl) ⟨Nat.zero_le _, Nat.zero_le _⟩ (by omega) (by omega) dX0_enter_82 ?_
          refine n_iast S hK hP hD hS 5 0 rfl rfl dX0_enter_85 (j := w) (x := max (sc w) s0) (by decide) (by omega) (fun H locs hP hD hS => ?_)
          have hP : va_P (dC, dI) vcl (vX cI cZ a n mw nf sg fo L le (va_up sc w (max (sc w) s0)) (va_up li w (li w ||| 2 ^ t)) ba ca st) H := hP
          have hD : va_D (wF (vX cI cZ a n mw nf sg fo L le sc li ba ca st)) (vX cI cZ a n mw nf sg fo L le (va_up sc w (max (sc w) s0)) (va_up li w (li w ||| 2 ^ t)) ba ca st) := hD
          refine lv_iload_n S.1 S.2.1 dX0_enter_86 rfl (lv_at hl 0 rfl) ?_
          exact wr_ret S hr hlk (rfl) (rfl) hP (rfl) hS dX0_enter_87
        · exact absurd h38 (nI_m1 (by omega))
      · exact absurd hs (by omega)

set_option maxRecDepth 100000 in
set_option maxHeartbeats 1000000 in
theorem kX0_enterT (l : Launch) (dC : Nat → ClassId) (dI : Nat → Nat → Nat) (cI cZ cJ : ClassId) (a : Nat → Nat) (n mw nf : Nat) (sg fo L le sc li ba ca st : Nat → Nat) (t : Nat) (s0 : Nat) (hI : iv n mw nf sg fo L le sc li ba ca) (ht : t < 4) (hs : s0 ≤ 1000) (h0 : n ≠ 0) (hb : hbl n sg = false) (hf2 : ∀ j, j < mw → fit n sg fo L le j = false) (hmw : mw < 250) : wr l yX0_enter cX0_enter 4 (some .int) 5 108 [.ref (a 0), .int (nI t), .int (nI s0)] dC dI cI cZ cJ (vX cI cZ a n mw nf sg fo L le sc li ba ca st) (vX cI cZ a n (mw + 1) nf sg fo (adL n mw n sg fo L) (va_up le mw n) (va_up sc mw s0) (va_up li mw (2 ^ t)) ba ca st) (some (.int (nI (mw)))) := by
  refine wr_ofW RX0 (by decide) rfl (Nat.le_of_ble_eq_true rfl) ?_
  intro p e s m below meth c S hr hlk hK hP hD hS ls hl
  have hl : lv_has ls 4 [(0, .ref (a 0)), (1, .int (nI t)), (2, .int (nI s0))] := hl
  obtain ⟨⟨hn, hm, hf⟩, ⟨hsg, hfo, hL, hle, hsc, hli, hba, hca⟩, hv1, hv2, hv3, hv4, hv5, hv6, hv7⟩ := id hI
  refine lv_iload_n S.1 S.2.1 dX0_enter_0 rfl (lv_at hl 1 rfl) ?_
  refine rdv_callS (As := [.int (nI t)]) (rest := []) S (kX0_needList l t ht) tr_blind (fun _ _ _ => trivial) gX0_56 hdX0_needList (by decide) hl.1 rfl (Nat.le_of_ble_eq_true rfl) dX0_enter_1 ⟨Nat.zero_le _, Nat.zero_le _⟩ ?_
  refine lv_aload_n S.1 S.2.1 dX0_enter_4 rfl (lv_at hl 0 rfl) ?_
  refine fX0_signCount (v := .int (nI n)) S hK hP rfl rfl dX0_enter_5 ?_
  refine n_if_eq (x := n) (tgt := 29) S dX0_enter_8 (by decide) (by omega) (fun h8 => ?_) (fun h8 => ?_)
  · exact absurd h8 h0
  · refine lv_aload_n S.1 S.2.1 dX0_enter_11 rfl (lv_at hl 0 rfl) ?_
    refine rd_callV (C := RX0) (As := []) (rest := []) S (kX0_rowHasBlank l dC dI cI cZ cJ a n mw nf sg fo L le sc li ba ca st hI) rB_blind (fun U hU hW => ⟨by rw [hU]; exact hP, va_K.moved hW.alike hK⟩) (va_recv hK hP (ci := 0) (q0 := 0) rfl rfl) gX0_59 hdX0_rowHasBlank (by decide) hl.1 rfl (Nat.le_of_ble_eq_true rfl) dX0_enter_12 ⟨Nat.zero_le _, Nat.zero_le _⟩ ?_
    refine n_bif_ne (b := hbl n sg) (tgt := 29) S dX0_enter_15 (by decide) (fun h15 => ?_) (fun h15 => ?_)
    · exact absurd h15 (by rw [hb]; decide)
    · refine lv_iload_n S.1 S.2.1 dX0_enter_18 rfl (lv_at hl 2 rfl) ?_
      refine n_if_lt (x := s0) (tgt := 29) S dX0_enter_19 (by decide) (by omega) ?_
      refine lv_iload_n S.1 S.2.1 dX0_enter_22 rfl (lv_at hl 2 rfl) ?_
      refine lv_sipush (v := (nI 1000)) S.1 S.2.1 dX0_enter_23 (by decide) ?_
      refine n_icmp_le (x := s0) (y := 1000) (tgt := 31) S dX0_enter_26 (by decide) (by omega) (by omega) (fun h26 => ?_) (fun h26 => ?_)
      · refine lv_aload_n S.1 S.2.1 dX0_enter_31 rfl (lv_at hl 0 rfl) ?_
        refine rd_callV (C := RX0) (As := []) (rest := []) S (kX0_wordOfRow l dC dI cI cZ cJ a n mw nf sg fo L le sc li ba ca st hI) rB_blind (fun U hU hW => ⟨by rw [hU]; exact hP, va_K.moved hW.alike hK⟩) (va_recv hK hP (ci := 0) (q0 := 0) rfl rfl) gX0_63 hdX0_wordOfRow (by decide) hl.1 rfl (Nat.le_of_ble_eq_true rfl) dX0_enter_32 ⟨Nat.zero_le _, Nat.zero_le _⟩ ?_
        rw [wof_no hf2]
        refine lv_istore_n (lv' := [(3, .int (-1)), (0, .ref (a 0)), (1, .int (nI t)), (2, .int (nI s0))]) S.1 S.2.1 dX0_enter_35 rfl hl (by decide) rfl (fun ls hl => ?_)
        refine lv_iload_n S.1 S.2.1 dX0_enter_36 rfl (lv_at hl 0 rfl) ?_
        refine lv_iconst (v := -1) S.1 S.2.1 dX0_enter_37 (by decide) ?_
        refine lv_icmp_ne (tgt := 58) S.1 S.2.1 dX0_enter_38 (by decide) (fun h38 => ?_) (fun h38 => ?_)
        · exact absurd rfl h38
        · refine lv_aload_n S.1 S.2.1 dX0_enter_41 rfl (lv_at hl 1 rfl) ?_
          refine fX0_wordCount (v := .int (nI mw)) S hK hP rfl rfl dX0_enter_42 ?_
          refine lv_sipush (v := (nI 250)) S.1 S.2.1 dX0_enter_45 (by decide) ?_
          refine n_icmp_lt (x := mw) (y := 250) (tgt := 53) S dX0_enter_48 (by decide) (by omega) (by omega) (fun h48 => ?_) (fun h48 => ?_)
          · refine lv_aload_n S.1 S.2.1 dX0_enter_53 rfl (lv_at hl 1 rfl) ?_
            refine wr_callV (C := RX0) (As := []) (rest := []) S (kX0_addWordOfRow l dC dI cI cZ cJ a n mw nf sg fo L le sc li ba ca st hI hmw) hK [] [] hP hD hS rfl (va_recv hK hP (ci := 0) (q0 := 0) rfl rfl) gX0_67 hdX0_addWordOfRow (by decide) hl.1 rfl (Nat.le_of_ble_eq_true rfl) dX0_enter_54 ⟨Nat.zero_le _, Nat.zero_le _⟩ (fun H locs hP hD hS => ?_)
            have hP : va_P (dC, dI) vcl (vX cI cZ a n (mw + 1) nf sg fo (adL n mw n sg fo L) (va_up le mw n) sc li ba ca st) H := hP
            have hD : va_D (wF (vX cI cZ a n mw nf sg fo L le sc li ba ca st)) (vX cI cZ a n (mw + 1) nf sg fo (adL n mw n sg fo L) (va_up le mw n) sc li ba ca st) := hD
            refine lv_istore_n (lv' := [(3, .int (nI mw)), (0, .ref (a 0)), (1, .int (nI t)), (2, .int (nI s0))]) S.1 S.2.1 dX0_enter_57 rfl hl (by decide) rfl (fun ls hl => ?_)
            refine lv_aload_n S.1 S.2.1 dX0_enter_58 rfl (lv_at hl 1 rfl) ?_
            refine fX0_wordListBits (v := .ref (a 6)) S hK hP rfl rfl dX0_enter_59 ?_
            refine lv_iload_n S.1 S.2.1 dX0_enter_62 rfl (lv_at hl 0 rfl) ?_
            refine lv_dup2_11 S.1 S.2.1 dX0_enter_63 rfl rfl ?_
            refine n_iald S hK hP 6 0 rfl rfl dX0_enter_64 (j := mw) (by decide) (by omega) ?_
            have b64 := hli mw
            refine lv_iconst (v := (nI 1)) S.1 S.2.1 dX0_enter_65 (by decide) ?_
            refine lv_iload_n S.1 S.2.1 dX0_enter_66 rfl (lv_at hl 2 rfl) ?_
            refine lv_ishl S.1 S.2.1 dX0_enter_67 ?_
            refine lv_ior S.1 S.2.1 dX0_enter_68 ?_
            have hbb : nI (li mw) ||| (nI 1 <<< (nI t &&& 31)) = nI (li mw ||| 2 ^ t) := by obtain ⟨y, q1, q2, q3⟩ := (tb_lt (li mw) (by omega) t ht).2.2.1; rw [← q2]; exact q3
            rw [hbb]
            refine n_iast S hK hP hD hS 6 0 rfl rfl dX0_enter_69 (j := mw) (x := li mw ||| 2 ^ t) (by decide) (by omega) (fun H locs hP hD hS => ?_)
            have hP : va_P (dC, dI) vcl (vX cI cZ a n (mw + 1) nf sg fo (adL n mw n sg fo L) (va_up le mw n) sc (va_up li mw (li mw ||| 2 ^ t)) ba ca st) H := hP
            have hD : va_D (wF (vX cI cZ a n mw nf sg fo L le sc li ba ca st)) (vX cI cZ a n (mw + 1) nf sg fo (adL n mw n sg fo L) (va_up le mw n) sc (va_up li mw (li mw ||| 2 ^ t)) ba ca st) := hD
            refine lv_aload_n S.1 S.2.1 dX0_enter_70 rfl (lv_at hl 1 rfl) ?_
            refine fX0_wordScores (v := .ref (a 5)) S hK hP rfl rfl dX0_enter_71 ?_
            refine lv_iload_n S.1 S.2.1 dX0_enter_74 rfl (lv_at hl 0 rfl) ?_
            refine lv_aload_n S.1 S.2.1 dX0_enter_75 rfl (lv_at hl 1 rfl) ?_
            refine fX0_wordScores (v := .ref (a 5)) S hK hP rfl rfl dX0_enter_76 ?_
            refine lv_iload_n S.1 S.2.1 dX0_enter_79 rfl (lv_at hl 0 rfl) ?_
            refine n_iald S hK hP 5 0 rfl rfl dX0_enter_80 (j := mw) (by decide) (by omega) ?_
            have b80 := hsc mw
            refine lv_iload_n S.1 S.2.1 dX0_enter_81 rfl (lv_at hl 3 rfl) ?_
            refine n_max (x := sc mw) (y := s0) S hl.1 (by decide) (Nat.le_of_ble_eq_true rfl) ⟨Nat.zero_le _, Nat.zero_le _⟩ (by omega) (by omega) dX0_enter_82 ?_
            refine n_iast S hK hP hD hS 5 0 rfl rfl dX0_enter_85 (j := mw) (x := max (sc mw) s0) (by decide) (by omega) (fun H locs hP hD hS => ?_)
            have hP : va_P (dC, dI) vcl (vX cI cZ a n (mw + 1) nf sg fo (adL n mw n sg fo L) (va_up le mw n) (va_up sc mw (max (sc mw) s0)) (va_up li mw (li mw ||| 2 ^ t)) ba ca st) H := hP
            have hD : va_D (wF (vX cI cZ a n mw nf sg fo L le sc li ba ca st)) (vX cI cZ a n (mw + 1) nf sg fo (adL n mw n sg fo L) (va_up le mw n) (va_up sc mw (max (sc mw) s0)) (va_up li mw (li mw ||| 2 ^ t)) ba ca st) := hD
            refine lv_iload_n S.1 S.2.1 dX0_enter_86 rfl (lv_at hl 0 rfl) ?_
            exact wr_ret S hr hlk (rfl) (rfl) hP (by rw [(hv6 mw (Nat.le_refl _)).1, (hv6 mw (Nat.le_refl _)).2.1, Nat.zero_or, Nat.zero_max]) hS dX0_enter_87
          · exact absurd hmw (by omega)
      · exact absurd hs (by omega)

set_option maxRecDepth 100000 in
set_option maxHeartbeats 1000000 in
theorem lX0_bar_4 (l : Launch) (dC : Nat → ClassId) (dI : Nat → Nat → Nat) (cI cZ cJ : ClassId) (a : Nat → Nat) (n mw nf : Nat) (sg fo L le sc li ba ca st : Nat → Nat) (on : Bool) (hI : iv n mw nf sg fo L le sc li ba ca)  {p : Program} {e : Env} {s : State} {m : MethodId} {below : List Frame} {meth : Method} {c : Code} (S : CallFix p m c cX0_bar 4 s ([.ref (a 0), .int (nI on.toNat)] : List Value).toArray tbG RX0) (hr : meth.sig.returnType = (some .int)) (hlk : meth.locks = false) (hK : va_K (dC, dI) vcl (vty cI cZ cJ) s) :
    ∀ (fuel : Nat) (i : Nat) (k : Nat), mw - i < fuel → i ≤ mw → k = cnt (brP on (fit n sg fo L le) ba) i → ∀ (H : Heap) (locs : List Loc), va_P (dC, dI) vcl (vX cI cZ a n mw nf sg fo L le sc li (brF on (fit n sg fo L le) ba i) ca st) H → va_D (wF (vX cI cZ a n mw nf sg fo L le sc li ba ca st)) (vX cI cZ a n mw nf sg fo L le sc li (brF on (fit n sg fo L le) ba i) ca st) → va_S (wF (vX cI cZ a n mw nf sg fo L le sc li ba ca st)) s.heap H locs → ∀ ls : Array Slot, lv_has ls 4 [(0, .ref (a 0)), (1, .int (nI (on).toNat)), (2, .int (nI k)), (3, .int (nI i))] → W p l e ({ frames := 4, cells := 0, slots := 0, locals := 87 } : Room) s m ([.ref (a 0), .int (nI on.toNat)] : List Value).toArray below meth c H locs 0 0 (MQ below (Qw dC dI (vX cI cZ a n mw nf sg fo L le sc li ba ca st) (vX cI cZ a n mw nf sg fo L le sc li (brF on (fit n sg fo L le) ba mw) ca st) (some (.int (nI (cnt (brP on (fit n sg fo L le) ba) mw))))) ([.ref (a 0), .int (nI on.toNat)] : List Value).toArray s 0 0 (wF (vX cI cZ a n mw nf sg fo L le sc li ba ca st))) (F0 m 4 ls []) := by
  obtain ⟨⟨hn, hm, hf⟩, ⟨hsg, hfo, hL, hle, hsc, hli, hba, hca⟩, hv1, hv2, hv3, hv4, hv5, hv6, hv7⟩ := id hI
  intro fuel
  induction fuel with
  | zero =>
    intro i k hq
    exact absurd hq (Nat.not_lt_zero _)
  | succ fuel ih =>
    intro i k hq hi hk H locs hP hD hS ls hl
    have hki := cnt_le (brP on (fit n sg fo L le) ba) i
    have hI2 := iv_ba hI on (fit n sg fo L le) i hi
    refine lv_iload_n S.1 S.2.1 dX0_bar_4 rfl (lv_at hl 3 rfl) ?_
    refine lv_aload_n S.1 S.2.1 dX0_bar_5 rfl (lv_at hl 0 rfl) ?_
    refine fX0_wordCount (v := .int (nI mw)) S hK hP rfl rfl dX0_bar_6 ?_
    refine n_icmp_ge (x := i) (y := mw) (tgt := 46) S dX0_bar_9 (by decide) (by omega) (by omega) (fun h9 => ?_) (fun h9 => ?_)
    · refine lv_iload_n S.1 S.2.1 dX0_bar_46 rfl (lv_at hl 2 rfl) ?_
      exact wr_ret S hr hlk (rfl) (by rw [hk, show i = mw by omega]) hP (by rw [show i = mw by omega]) hS dX0_bar_47
    · refine lv_aload_n S.1 S.2.1 dX0_bar_12 rfl (lv_at hl 0 rfl) ?_
      refine fX0_wordBarred (v := .ref (a 7)) S hK hP rfl rfl dX0_bar_13 ?_
      refine lv_iload_n S.1 S.2.1 dX0_bar_16 rfl (lv_at hl 3 rfl) ?_
      refine n_zald S hK hP 7 1 rfl rfl dX0_bar_17 (j := i) (by decide) (by omega) ?_
      rw [brF_at]
      have b17 := hba i
      refine lv_iload_n S.1 S.2.1 dX0_bar_18 rfl (lv_at hl 1 rfl) ?_
      refine n_icmp_eq (x := ba i) (y := (on).toNat) (tgt := 40) S dX0_bar_19 (by decide) (by omega) (by cases on <;> decide) (fun h19 => ?_) (fun h19 => ?_)
      · refine n_iinc (lv' := [(3, .int (nI (i + 1))), (0, .ref (a 0)), (1, .int (nI (on).toNat)), (2, .int (nI k))]) (x := i) (k := 3) S dX0_bar_40 hl rfl (by decide) rfl (fun ls hl => ?_)
        refine lv_goto (tgt := 4) S.1 S.2.1 dX0_bar_43 (by decide) ?_
        have e0 : vX cI cZ a n mw nf sg fo L le sc li (brF on (fit n sg fo L le) ba i) ca st = vX cI cZ a n mw nf sg fo L le sc li (brF on (fit n sg fo L le) ba (i + 1)) ca st := (by first | rw [brF_t h27] | rw [brF_e h19] | rw [brF_f h27])
        exact ih (i + 1) k (by omega) (by omega) (by rw [cnt, ← hk, brP]; first | (rw [decide_eq_false (Classical.not_not.mpr h19), Bool.and_false]; rfl) | (rw [h27, decide_eq_true h19]; rfl) | (rw [h27]; rfl)) _ _ (by rw [← e0]; exact hP) (by rw [← e0]; exact hD) hS ls (lv_sub hl [1, 2, 3, 0] rfl)
      · refine lv_aload_n S.1 S.2.1 dX0_bar_22 rfl (lv_at hl 0 rfl) ?_
        refine lv_iload_n S.1 S.2.1 dX0_bar_23 rfl (lv_at hl 3 rfl) ?_
        refine rd_callV (C := RX0) (As := [.int (nI i)]) (rest := []) S (kX0_fits l dC dI cI cZ cJ a n mw nf sg fo L le sc li (brF on (fit n sg fo L le) ba i) ca st i hI2 (by omega)) rB_blind (fun U hU hW => ⟨by rw [hU]; exact hP, va_K.moved hW.alike hK⟩) (va_recv hK hP (ci := 0) (q0 := 0) rfl rfl) gX0_76 hdX0_fits (by decide) hl.1 rfl (Nat.le_of_ble_eq_true rfl) dX0_bar_24 ⟨Nat.zero_le _, Nat.zero_le _⟩ ?_
        refine n_bif_eq (b := fit n sg fo L le i) (tgt := 40) S dX0_bar_27 (by decide) (fun h27 => ?_) (fun h27 => ?_)
        · refine n_iinc (lv' := [(3, .int (nI (i + 1))), (0, .ref (a 0)), (1, .int (nI (on).toNat)), (2, .int (nI k))]) (x := i) (k := 3) S dX0_bar_40 hl rfl (by decide) rfl (fun ls hl => ?_)
          refine lv_goto (tgt := 4) S.1 S.2.1 dX0_bar_43 (by decide) ?_
          have e0 : vX cI cZ a n mw nf sg fo L le sc li (brF on (fit n sg fo L le) ba i) ca st = vX cI cZ a n mw nf sg fo L le sc li (brF on (fit n sg fo L le) ba (i + 1)) ca st := (by first | rw [brF_t h27] | rw [brF_e h19] | rw [brF_f h27])
          exact ih (i + 1) k (by omega) (by omega) (by rw [cnt, ← hk, brP]; first | (rw [decide_eq_false (Classical.not_not.mpr h19), Bool.and_false]; rfl) | (rw [h27, decide_eq_true h19]; rfl) | (rw [h27]; rfl)) _ _ (by rw [← e0]; exact hP) (by rw [← e0]; exact hD) hS ls (lv_sub hl [1, 2, 3, 0] rfl)
        · refine lv_aload_n S.1 S.2.1 dX0_bar_30 rfl (lv_at hl 0 rfl) ?_
          refine fX0_wordBarred (v := .ref (a 7)) S hK hP rfl rfl dX0_bar_31 ?_
          refine lv_iload_n S.1 S.2.1 dX0_bar_34 rfl (lv_at hl 3 rfl) ?_
          refine lv_iload_n S.1 S.2.1 dX0_bar_35 rfl (lv_at hl 1 rfl) ?_
          refine n_zast S hK hP hD hS 7 1 rfl rfl dX0_bar_36 (j := i) (x := (on).toNat) (by decide) (by omega) (by cases on <;> decide) (fun H locs hP hD hS => ?_)
          have hP : va_P (dC, dI) vcl (vX cI cZ a n mw nf sg fo L le sc li (va_up (brF on (fit n sg fo L le) ba i) i ((on).toNat)) ca st) H := hP
          have hD : va_D (wF (vX cI cZ a n mw nf sg fo L le sc li ba ca st)) (vX cI cZ a n mw nf sg fo L le sc li (va_up (brF on (fit n sg fo L le) ba i) i ((on).toNat)) ca st) := hD
          refine n_iinc (lv' := [(2, .int (nI (k + 1))), (0, .ref (a 0)), (1, .int (nI (on).toNat)), (3, .int (nI i))]) (x := k) (k := 2) S dX0_bar_37 hl rfl (by decide) rfl (fun ls hl => ?_)
          refine n_iinc (lv' := [(3, .int (nI (i + 1))), (2, .int (nI (k + 1))), (0, .ref (a 0)), (1, .int (nI (on).toNat))]) (x := i) (k := 3) S dX0_bar_40 hl rfl (by decide) rfl (fun ls hl => ?_)
          refine lv_goto (tgt := 4) S.1 S.2.1 dX0_bar_43 (by decide) ?_
          have e0 : vX cI cZ a n mw nf sg fo L le sc li (va_up (brF on (fit n sg fo L le) ba i) i ((on).toNat)) ca st = vX cI cZ a n mw nf sg fo L le sc li (brF on (fit n sg fo L le) ba (i + 1)) ca st := (by first | rw [brF_t h27] | rw [brF_e h19] | rw [brF_f h27])
          exact ih (i + 1) (k + 1) (by omega) (by omega) (by rw [cnt, ← hk, brP]; first | (rw [decide_eq_false (Classical.not_not.mpr h19), Bool.and_false]; rfl) | (rw [h27, decide_eq_true h19]; rfl) | (rw [h27]; rfl)) _ _ (by rw [← e0]; exact hP) (by rw [← e0]; exact hD) hS ls (lv_sub hl [2, 3, 1, 0] rfl)
set_option maxRecDepth 100000 in
set_option maxHeartbeats 1000000 in
theorem kX0_bar (l : Launch) (dC : Nat → ClassId) (dI : Nat → Nat → Nat) (cI cZ cJ : ClassId) (a : Nat → Nat) (n mw nf : Nat) (sg fo L le sc li ba ca st : Nat → Nat) (on : Bool) (hI : iv n mw nf sg fo L le sc li ba ca) : wr l yX0_bar cX0_bar 4 (some .int) 4 87 [.ref (a 0), .int (nI on.toNat)] dC dI cI cZ cJ (vX cI cZ a n mw nf sg fo L le sc li ba ca st) (vX cI cZ a n mw nf sg fo L le sc li (brF on (fit n sg fo L le) ba mw) ca st) (some (.int (nI (cnt (brP on (fit n sg fo L le) ba) mw)))) := by
  refine wr_ofW RX0 (by decide) rfl (Nat.le_of_ble_eq_true rfl) ?_
  intro p e s m below meth c S hr hlk hK hP hD hS ls hl
  have hl : lv_has ls 4 [(0, .ref (a 0)), (1, .int (nI (on).toNat))] := hl
  obtain ⟨⟨hn, hm, hf⟩, ⟨hsg, hfo, hL, hle, hsc, hli, hba, hca⟩, hv1, hv2, hv3, hv4, hv5, hv6, hv7⟩ := id hI
  refine lv_iconst (v := (nI 0)) S.1 S.2.1 dX0_bar_0 (by decide) ?_
  refine lv_istore_n (lv' := [(2, .int (nI 0)), (0, .ref (a 0)), (1, .int (nI (on).toNat))]) S.1 S.2.1 dX0_bar_1 rfl hl (by decide) rfl (fun ls hl => ?_)
  refine lv_iconst (v := (nI 0)) S.1 S.2.1 dX0_bar_2 (by decide) ?_
  refine lv_istore_n (lv' := [(3, .int (nI 0)), (2, .int (nI 0)), (0, .ref (a 0)), (1, .int (nI (on).toNat))]) S.1 S.2.1 dX0_bar_3 rfl hl (by decide) rfl (fun ls hl => ?_)
  have e0 : vX cI cZ a n mw nf sg fo L le sc li ba ca st = vX cI cZ a n mw nf sg fo L le sc li (brF on (fit n sg fo L le) ba 0) ca st := (by rw [brF_0])
  exact lX0_bar_4 l dC dI cI cZ cJ a n mw nf sg fo L le sc li ba ca st on hI S hr hlk hK _ 0 0 (Nat.lt_succ_self _) (by omega) rfl _ _ (by rw [← e0]; exact hP) (by rw [← e0]; exact hD) hS ls (lv_sub hl [2, 3, 1, 0] rfl)

set_option maxRecDepth 100000 in
theorem kX0_mergeN (l : Launch) (dC : Nat → ClassId) (dI : Nat → Nat → Nat) (cI cZ cJ : ClassId) (a : Nat → Nat) (n mw nf : Nat) (sg fo L le sc li ba ca st : Nat → Nat) (x : Int32) (t : Nat) (u : Nat) (v : Nat) (hI : iv n mw nf sg fo L le sc li ba ca) (ht : t < 4) (hu : u < 4) (hv : v < 4) (hx : ¬ x = nI 0 ∧ ¬ x = nI 1 ∧ ¬ x = nI 2) : rd l yX0_merge cX0_merge 7 (some .int) 1 20 [.ref (a 0), .int x, .int (nI t), .int (nI u), .int (nI v)] (rB dC dI cI cZ cJ (vX cI cZ a n mw nf sg fo L le sc li ba ca st)) ((-1 : Int32)) := by
  refine rd_ofW RX0 (by decide) rfl (Nat.le_of_ble_eq_true rfl) ?_
  intro p e s m below meth c S hr hlk hB ls hl
  obtain ⟨hP, hK⟩ := hB
  have hl : lv_has ls 7 [(0, .ref (a 0)), (1, .int x), (2, .int (nI t)), (3, .int (nI u)), (4, .int (nI v))] := hl
  obtain ⟨⟨hn, hm, hf⟩, ⟨hsg, hfo, hL, hle, hsc, hli, hba, hca⟩, hv1, hv2, hv3, hv4, hv5, hv6, hv7⟩ := id hI
  refine lv_iload_n S.1 S.2.1 dX0_merge_0 rfl (lv_at hl 2 rfl) ?_
  refine rdv_callS (As := [.int (nI t)]) (rest := []) S (kX0_needList l t ht) tr_blind (fun _ _ _ => trivial) gX0_56 hdX0_needList (by decide) hl.1 rfl (Nat.le_of_ble_eq_true rfl) dX0_merge_1 ⟨Nat.zero_le _, Nat.zero_le _⟩ ?_
  refine lv_iload_n S.1 S.2.1 dX0_merge_4 rfl (lv_at hl 3 rfl) ?_
  refine rdv_callS (As := [.int (nI u)]) (rest := []) S (kX0_needList l u hu) tr_blind (fun _ _ _ => trivial) gX0_56 hdX0_needList (by decide) hl.1 rfl (Nat.le_of_ble_eq_true rfl) dX0_merge_5 ⟨Nat.zero_le _, Nat.zero_le _⟩ ?_
  refine lv_iload S.1 S.2.1 dX0_merge_8 (lv_at hl 4 rfl) ?_
  refine rdv_callS (As := [.int (nI v)]) (rest := []) S (kX0_needList l v hv) tr_blind (fun _ _ _ => trivial) gX0_56 hdX0_needList (by decide) hl.1 rfl (Nat.le_of_ble_eq_true rfl) dX0_merge_10 ⟨Nat.zero_le _, Nat.zero_le _⟩ ?_
  refine lv_iload_n S.1 S.2.1 dX0_merge_13 rfl (lv_at hl 1 rfl) ?_
  refine lv_if_eq (tgt := 29) S.1 S.2.1 dX0_merge_14 (by decide) (fun h14 => ?_) (fun h14 => ?_)
  · exact absurd h14 hx.1
  · refine lv_iload_n S.1 S.2.1 dX0_merge_17 rfl (lv_at hl 1 rfl) ?_
    refine lv_iconst (v := (nI 1)) S.1 S.2.1 dX0_merge_18 (by decide) ?_
    refine lv_icmp_eq (tgt := 29) S.1 S.2.1 dX0_merge_19 (by decide) (fun h19 => ?_) (fun h19 => ?_)
    · exact absurd h19 hx.2.1
    · refine lv_iload_n S.1 S.2.1 dX0_merge_22 rfl (lv_at hl 1 rfl) ?_
      refine lv_iconst (v := (nI 2)) S.1 S.2.1 dX0_merge_23 (by decide) ?_
      refine lv_icmp_eq (tgt := 29) S.1 S.2.1 dX0_merge_24 (by decide) (fun h24 => ?_) (fun h24 => ?_)
      · exact absurd h24 hx.2.2
      · refine lv_iconst (v := -1) S.1 S.2.1 dX0_merge_27 (by decide) ?_
        exact rd_ret S hr hlk (rfl) (rfl) dX0_merge_28

set_option maxRecDepth 100000 in
set_option maxHeartbeats 1000000 in
theorem lX0_merge_35 (l : Launch) (dC : Nat → ClassId) (dI : Nat → Nat → Nat) (cI cZ cJ : ClassId) (a : Nat → Nat) (n mw nf : Nat) (sg fo L le sc li ba ca st : Nat → Nat) (hw : Nat) (t : Nat) (u : Nat) (v : Nat) (hI : iv n mw nf sg fo L le sc li ba ca) (hh : hw < 3) (ht : t < 4) (hu : u < 4) (hv : v < 4)  {p : Program} {e : Env} {s : State} {m : MethodId} {below : List Frame} {meth : Method} {c : Code} (S : CallFix p m c cX0_merge 7 s ([.ref (a 0), .int (nI hw), .int (nI t), .int (nI u), .int (nI v)] : List Value).toArray tbG RX0) (hr : meth.sig.returnType = (some .int)) (hlk : meth.locks = false) (hK : va_K (dC, dI) vcl (vty cI cZ cJ) s) :
    ∀ (fuel : Nat) (i : Nat) (k : Nat), mw - i < fuel → i ≤ mw → k = cnt (mgP hw u v li) i → ∀ (H : Heap) (locs : List Loc), va_P (dC, dI) vcl (vX cI cZ a n mw nf sg fo L le sc (mgF hw t u v li i) ba ca st) H → va_D (wF (vX cI cZ a n mw nf sg fo L le sc li ba ca st)) (vX cI cZ a n mw nf sg fo L le sc (mgF hw t u v li i) ba ca st) → va_S (wF (vX cI cZ a n mw nf sg fo L le sc li ba ca st)) s.heap H locs → ∀ ls : Array Slot, lv_has ls 7 [(0, .ref (a 0)), (1, .int (nI hw)), (2, .int (nI t)), (3, .int (nI u)), (4, .int (nI v)), (5, .int (nI k)), (6, .int (nI i))] → W p l e ({ frames := 1, cells := 0, slots := 0, locals := 22 } : Room) s m ([.ref (a 0), .int (nI hw), .int (nI t), .int (nI u), .int (nI v)] : List Value).toArray below meth c H locs 0 0 (MQ below (Qw dC dI (vX cI cZ a n mw nf sg fo L le sc li ba ca st) (vX cI cZ a n mw nf sg fo L le sc (mgF hw t u v li mw) ba ca st) (some (.int (nI (cnt (mgP hw u v li) mw))))) ([.ref (a 0), .int (nI hw), .int (nI t), .int (nI u), .int (nI v)] : List Value).toArray s 0 0 (wF (vX cI cZ a n mw nf sg fo L le sc li ba ca st))) (F0 m 35 ls []) := by
  obtain ⟨⟨hn, hm, hf⟩, ⟨hsg, hfo, hL, hle, hsc, hli, hba, hca⟩, hv1, hv2, hv3, hv4, hv5, hv6, hv7⟩ := id hI
  intro fuel
  induction fuel with
  | zero =>
    intro i k hq
    exact absurd hq (Nat.not_lt_zero _)
  | succ fuel ih =>
    intro i k hq hi hk H locs hP hD hS ls hl
    have hki := cnt_le (mgP hw u v li) i
    have hI2 := iv_mg hI hw t u v i ht hi
    refine lv_iload S.1 S.2.1 dX0_merge_35 (lv_at hl 6 rfl) ?_
    refine lv_aload_n S.1 S.2.1 dX0_merge_37 rfl (lv_at hl 0 rfl) ?_
    refine fX0_wordCount (v := .int (nI mw)) S hK hP rfl rfl dX0_merge_38 ?_
    refine n_icmp_ge (x := i) (y := mw) (tgt := 106) S dX0_merge_41 (by decide) (by omega) (by omega) (fun h41 => ?_) (fun h41 => ?_)
    · refine lv_iload S.1 S.2.1 dX0_merge_106 (lv_at hl 5 rfl) ?_
      exact wr_ret S hr hlk (rfl) (by rw [hk, show i = mw by omega]) hP (by rw [show i = mw by omega]) hS dX0_merge_108
    · refine lv_iload_n S.1 S.2.1 dX0_merge_44 rfl (lv_at hl 1 rfl) ?_
      refine lv_aload_n S.1 S.2.1 dX0_merge_45 rfl (lv_at hl 0 rfl) ?_
      refine lv_iload S.1 S.2.1 dX0_merge_46 (lv_at hl 6 rfl) ?_
      refine lv_iload_n S.1 S.2.1 dX0_merge_48 rfl (lv_at hl 3 rfl) ?_
      refine rd_callV (C := RX0) (As := [.int (nI i), .int (nI u)]) (rest := [.int (nI hw)]) S (kX0_isOf l dC dI cI cZ cJ a n mw nf sg fo L le sc (mgF hw t u v li i) ba ca st i u hI2 (by omega) hu) rB_blind (fun U hU hW => ⟨by rw [hU]; exact hP, va_K.moved hW.alike hK⟩) (va_recv hK hP (ci := 0) (q0 := 0) rfl rfl) gX0_79 hdX0_isOf (by decide) hl.1 rfl (Nat.le_of_ble_eq_true rfl) dX0_merge_49 ⟨Nat.zero_le _, Nat.zero_le _⟩ ?_
      rw [mgF_in]
      refine lv_aload_n S.1 S.2.1 dX0_merge_52 rfl (lv_at hl 0 rfl) ?_
      refine lv_iload S.1 S.2.1 dX0_merge_53 (lv_at hl 6 rfl) ?_
      refine lv_iload S.1 S.2.1 dX0_merge_55 (lv_at hl 4 rfl) ?_
      refine rd_callV (C := RX0) (As := [.int (nI i), .int (nI v)]) (rest := [.int (nI (inl li i u).toNat), .int (nI hw)]) S (kX0_isOf l dC dI cI cZ cJ a n mw nf sg fo L le sc (mgF hw t u v li i) ba ca st i v hI2 (by omega) hv) rB_blind (fun U hU hW => ⟨by rw [hU]; exact hP, va_K.moved hW.alike hK⟩) (va_recv hK hP (ci := 0) (q0 := 0) rfl rfl) gX0_79 hdX0_isOf (by decide) hl.1 rfl (Nat.le_of_ble_eq_true rfl) dX0_merge_57 ⟨Nat.zero_le _, Nat.zero_le _⟩ ?_
      rw [mgF_in]
      refine rd_callS (As := [.int (nI hw), .int (nI (inl li i u).toNat), .int (nI (inl li i v).toNat)]) (rest := []) S (kX0_isChosen l hw (inl li i u) (inl li i v) hh) tr_blind (fun _ _ _ => trivial) gX0_83 hdX0_isChosen (by decide) hl.1 rfl (Nat.le_of_ble_eq_true rfl) dX0_merge_60 ⟨Nat.zero_le _, Nat.zero_le _⟩ ?_
      refine n_bif_eq (b := cho hw (inl li i u) (inl li i v)) (tgt := 85) S dX0_merge_63 (by decide) (fun h63 => ?_) (fun h63 => ?_)
      · refine lv_aload_n S.1 S.2.1 dX0_merge_85 rfl (lv_at hl 0 rfl) ?_
        refine fX0_wordListBits (v := .ref (a 6)) S hK hP rfl rfl dX0_merge_86 ?_
        refine lv_iload S.1 S.2.1 dX0_merge_89 (lv_at hl 6 rfl) ?_
        refine lv_dup2_11 S.1 S.2.1 dX0_merge_91 rfl rfl ?_
        refine n_iald S hK hP 6 0 rfl rfl dX0_merge_92 (j := i) (by decide) (by omega) ?_
        rw [mgF_at]
        have b92 := hli i
        refine lv_iconst (v := (nI 1)) S.1 S.2.1 dX0_merge_93 (by decide) ?_
        refine lv_iload_n S.1 S.2.1 dX0_merge_94 rfl (lv_at hl 2 rfl) ?_
        refine lv_ishl S.1 S.2.1 dX0_merge_95 ?_
        refine lv_iconst (v := -1) S.1 S.2.1 dX0_merge_96 (by decide) ?_
        refine lv_ixor S.1 S.2.1 dX0_merge_97 ?_
        refine lv_iand S.1 S.2.1 dX0_merge_98 ?_
        have hbb : nI (li i) &&& ((nI 1 <<< (nI t &&& 31)) ^^^ -1) = nI (li i &&& (15 - 2 ^ t)) := by obtain ⟨y, q1, q2, q3⟩ := (tb_lt (li i) (by omega) t ht).2.2.2; rw [← q2]; exact q3
        rw [hbb]
        refine n_iast S hK hP hD hS 6 0 rfl rfl dX0_merge_99 (j := i) (x := li i &&& (15 - 2 ^ t)) (by decide) (by omega) (fun H locs hP hD hS => ?_)
        have hP : va_P (dC, dI) vcl (vX cI cZ a n mw nf sg fo L le sc (va_up (mgF hw t u v li i) i (li i &&& (15 - 2 ^ t))) ba ca st) H := hP
        have hD : va_D (wF (vX cI cZ a n mw nf sg fo L le sc li ba ca st)) (vX cI cZ a n mw nf sg fo L le sc (va_up (mgF hw t u v li i) i (li i &&& (15 - 2 ^ t))) ba ca st) := hD
        refine n_iinc (lv' := [(6, .int (nI (i + 1))), (0, .ref (a 0)), (1, .int (nI hw)), (2, .int (nI t)), (3, .int (nI u)), (4, .int (nI v)), (5, .int (nI k))]) (x := i) (k := 6) S dX0_merge_100 hl rfl (by decide) rfl (fun ls hl => ?_)
        refine lv_goto (tgt := 35) S.1 S.2.1 dX0_merge_103 (by decide) ?_
        have e0 : vX cI cZ a n mw nf sg fo L le sc (va_up (mgF hw t u v li i) i (li i &&& (15 - 2 ^ t))) ba ca st = vX cI cZ a n mw nf sg fo L le sc (mgF hw t u v li (i + 1)) ba ca st := (by first | rw [mgF_t h63] | rw [mgF_f h63])
        exact ih (i + 1) k (by omega) (by omega) (by rw [cnt, ← hk, mgP, h63]; rfl) _ _ (by rw [← e0]; exact hP) (by rw [← e0]; exact hD) hS ls (lv_sub hl [1, 2, 3, 4, 5, 6, 0] rfl)
      · refine lv_aload_n S.1 S.2.1 dX0_merge_66 rfl (lv_at hl 0 rfl) ?_
        refine fX0_wordListBits (v := .ref (a 6)) S hK hP rfl rfl dX0_merge_67 ?_
        refine lv_iload S.1 S.2.1 dX0_merge_70 (lv_at hl 6 rfl) ?_
        refine lv_dup2_11 S.1 S.2.1 dX0_merge_72 rfl rfl ?_
        refine n_iald S hK hP 6 0 rfl rfl dX0_merge_73 (j := i) (by decide) (by omega) ?_
        rw [mgF_at]
        have b73 := hli i
        refine lv_iconst (v := (nI 1)) S.1 S.2.1 dX0_merge_74 (by decide) ?_
        refine lv_iload_n S.1 S.2.1 dX0_merge_75 rfl (lv_at hl 2 rfl) ?_
        refine lv_ishl S.1 S.2.1 dX0_merge_76 ?_
        refine lv_ior S.1 S.2.1 dX0_merge_77 ?_
        have hbb : nI (li i) ||| (nI 1 <<< (nI t &&& 31)) = nI (li i ||| 2 ^ t) := by obtain ⟨y, q1, q2, q3⟩ := (tb_lt (li i) (by omega) t ht).2.2.1; rw [← q2]; exact q3
        rw [hbb]
        refine n_iast S hK hP hD hS 6 0 rfl rfl dX0_merge_78 (j := i) (x := li i ||| 2 ^ t) (by decide) (by omega) (fun H locs hP hD hS => ?_)
        have hP : va_P (dC, dI) vcl (vX cI cZ a n mw nf sg fo L le sc (va_up (mgF hw t u v li i) i (li i ||| 2 ^ t)) ba ca st) H := hP
        have hD : va_D (wF (vX cI cZ a n mw nf sg fo L le sc li ba ca st)) (vX cI cZ a n mw nf sg fo L le sc (va_up (mgF hw t u v li i) i (li i ||| 2 ^ t)) ba ca st) := hD
        refine n_iinc (lv' := [(5, .int (nI (k + 1))), (0, .ref (a 0)), (1, .int (nI hw)), (2, .int (nI t)), (3, .int (nI u)), (4, .int (nI v)), (6, .int (nI i))]) (x := k) (k := 5) S dX0_merge_79 hl rfl (by decide) rfl (fun ls hl => ?_)
        refine lv_goto (tgt := 100) S.1 S.2.1 dX0_merge_82 (by decide) ?_
        refine n_iinc (lv' := [(6, .int (nI (i + 1))), (5, .int (nI (k + 1))), (0, .ref (a 0)), (1, .int (nI hw)), (2, .int (nI t)), (3, .int (nI u)), (4, .int (nI v))]) (x := i) (k := 6) S dX0_merge_100 hl rfl (by decide) rfl (fun ls hl => ?_)
        refine lv_goto (tgt := 35) S.1 S.2.1 dX0_merge_103 (by decide) ?_
        have e0 : vX cI cZ a n mw nf sg fo L le sc (va_up (mgF hw t u v li i) i (li i ||| 2 ^ t)) ba ca st = vX cI cZ a n mw nf sg fo L le sc (mgF hw t u v li (i + 1)) ba ca st := (by first | rw [mgF_t h63] | rw [mgF_f h63])
        exact ih (i + 1) (k + 1) (by omega) (by omega) (by rw [cnt, ← hk, mgP, h63]; rfl) _ _ (by rw [← e0]; exact hP) (by rw [← e0]; exact hD) hS ls (lv_sub hl [2, 3, 4, 5, 6, 1, 0] rfl)
set_option maxRecDepth 100000 in
set_option maxHeartbeats 1000000 in
theorem kX0_merge (l : Launch) (dC : Nat → ClassId) (dI : Nat → Nat → Nat) (cI cZ cJ : ClassId) (a : Nat → Nat) (n mw nf : Nat) (sg fo L le sc li ba ca st : Nat → Nat) (hw : Nat) (t : Nat) (u : Nat) (v : Nat) (hI : iv n mw nf sg fo L le sc li ba ca) (hh : hw < 3) (ht : t < 4) (hu : u < 4) (hv : v < 4) : wr l yX0_merge cX0_merge 7 (some .int) 1 22 [.ref (a 0), .int (nI hw), .int (nI t), .int (nI u), .int (nI v)] dC dI cI cZ cJ (vX cI cZ a n mw nf sg fo L le sc li ba ca st) (vX cI cZ a n mw nf sg fo L le sc (mgF hw t u v li mw) ba ca st) (some (.int (nI (cnt (mgP hw u v li) mw)))) := by
  refine wr_ofW RX0 (by decide) rfl (Nat.le_of_ble_eq_true rfl) ?_
  intro p e s m below meth c S hr hlk hK hP hD hS ls hl
  have hl : lv_has ls 7 [(0, .ref (a 0)), (1, .int (nI hw)), (2, .int (nI t)), (3, .int (nI u)), (4, .int (nI v))] := hl
  obtain ⟨⟨hn, hm, hf⟩, ⟨hsg, hfo, hL, hle, hsc, hli, hba, hca⟩, hv1, hv2, hv3, hv4, hv5, hv6, hv7⟩ := id hI
  refine lv_iload_n S.1 S.2.1 dX0_merge_0 rfl (lv_at hl 2 rfl) ?_
  refine rdv_callS (As := [.int (nI t)]) (rest := []) S (kX0_needList l t ht) tr_blind (fun _ _ _ => trivial) gX0_56 hdX0_needList (by decide) hl.1 rfl (Nat.le_of_ble_eq_true rfl) dX0_merge_1 ⟨Nat.zero_le _, Nat.zero_le _⟩ ?_
  refine lv_iload_n S.1 S.2.1 dX0_merge_4 rfl (lv_at hl 3 rfl) ?_
  refine rdv_callS (As := [.int (nI u)]) (rest := []) S (kX0_needList l u hu) tr_blind (fun _ _ _ => trivial) gX0_56 hdX0_needList (by decide) hl.1 rfl (Nat.le_of_ble_eq_true rfl) dX0_merge_5 ⟨Nat.zero_le _, Nat.zero_le _⟩ ?_
  refine lv_iload S.1 S.2.1 dX0_merge_8 (lv_at hl 4 rfl) ?_
  refine rdv_callS (As := [.int (nI v)]) (rest := []) S (kX0_needList l v hv) tr_blind (fun _ _ _ => trivial) gX0_56 hdX0_needList (by decide) hl.1 rfl (Nat.le_of_ble_eq_true rfl) dX0_merge_10 ⟨Nat.zero_le _, Nat.zero_le _⟩ ?_
  refine lv_iload_n S.1 S.2.1 dX0_merge_13 rfl (lv_at hl 1 rfl) ?_
  refine n_if_eq (x := hw) (tgt := 29) S dX0_merge_14 (by decide) (by omega) (fun h14 => ?_) (fun h14 => ?_)
  · refine lv_iconst (v := (nI 0)) S.1 S.2.1 dX0_merge_29 (by decide) ?_
    refine lv_istore (lv' := [(5, .int (nI 0)), (0, .ref (a 0)), (1, .int (nI hw)), (2, .int (nI t)), (3, .int (nI u)), (4, .int (nI v))]) S.1 S.2.1 dX0_merge_30 hl (by decide) rfl (fun ls hl => ?_)
    refine lv_iconst (v := (nI 0)) S.1 S.2.1 dX0_merge_32 (by decide) ?_
    refine lv_istore (lv' := [(6, .int (nI 0)), (5, .int (nI 0)), (0, .ref (a 0)), (1, .int (nI hw)), (2, .int (nI t)), (3, .int (nI u)), (4, .int (nI v))]) S.1 S.2.1 dX0_merge_33 hl (by decide) rfl (fun ls hl => ?_)
    have e0 : vX cI cZ a n mw nf sg fo L le sc li ba ca st = vX cI cZ a n mw nf sg fo L le sc (mgF hw t u v li 0) ba ca st := (by rw [mgF_0])
    exact lX0_merge_35 l dC dI cI cZ cJ a n mw nf sg fo L le sc li ba ca st hw t u v hI hh ht hu hv S hr hlk hK _ 0 0 (Nat.lt_succ_self _) (by omega) rfl _ _ (by rw [← e0]; exact hP) (by rw [← e0]; exact hD) hS ls (lv_sub hl [2, 3, 4, 5, 6, 1, 0] rfl)
  · refine lv_iload_n S.1 S.2.1 dX0_merge_17 rfl (lv_at hl 1 rfl) ?_
    refine lv_iconst (v := (nI 1)) S.1 S.2.1 dX0_merge_18 (by decide) ?_
    refine n_icmp_eq (x := hw) (y := 1) (tgt := 29) S dX0_merge_19 (by decide) (by omega) (by omega) (fun h19 => ?_) (fun h19 => ?_)
    · refine lv_iconst (v := (nI 0)) S.1 S.2.1 dX0_merge_29 (by decide) ?_
      refine lv_istore (lv' := [(5, .int (nI 0)), (0, .ref (a 0)), (1, .int (nI hw)), (2, .int (nI t)), (3, .int (nI u)), (4, .int (nI v))]) S.1 S.2.1 dX0_merge_30 hl (by decide) rfl (fun ls hl => ?_)
      refine lv_iconst (v := (nI 0)) S.1 S.2.1 dX0_merge_32 (by decide) ?_
      refine lv_istore (lv' := [(6, .int (nI 0)), (5, .int (nI 0)), (0, .ref (a 0)), (1, .int (nI hw)), (2, .int (nI t)), (3, .int (nI u)), (4, .int (nI v))]) S.1 S.2.1 dX0_merge_33 hl (by decide) rfl (fun ls hl => ?_)
      have e0 : vX cI cZ a n mw nf sg fo L le sc li ba ca st = vX cI cZ a n mw nf sg fo L le sc (mgF hw t u v li 0) ba ca st := (by rw [mgF_0])
      exact lX0_merge_35 l dC dI cI cZ cJ a n mw nf sg fo L le sc li ba ca st hw t u v hI hh ht hu hv S hr hlk hK _ 0 0 (Nat.lt_succ_self _) (by omega) rfl _ _ (by rw [← e0]; exact hP) (by rw [← e0]; exact hD) hS ls (lv_sub hl [2, 3, 4, 5, 6, 1, 0] rfl)
    · refine lv_iload_n S.1 S.2.1 dX0_merge_22 rfl (lv_at hl 1 rfl) ?_
      refine lv_iconst (v := (nI 2)) S.1 S.2.1 dX0_merge_23 (by decide) ?_
      refine n_icmp_eq (x := hw) (y := 2) (tgt := 29) S dX0_merge_24 (by decide) (by omega) (by omega) (fun h24 => ?_) (fun h24 => ?_)
      · refine lv_iconst (v := (nI 0)) S.1 S.2.1 dX0_merge_29 (by decide) ?_
        refine lv_istore (lv' := [(5, .int (nI 0)), (0, .ref (a 0)), (1, .int (nI hw)), (2, .int (nI t)), (3, .int (nI u)), (4, .int (nI v))]) S.1 S.2.1 dX0_merge_30 hl (by decide) rfl (fun ls hl => ?_)
        refine lv_iconst (v := (nI 0)) S.1 S.2.1 dX0_merge_32 (by decide) ?_
        refine lv_istore (lv' := [(6, .int (nI 0)), (5, .int (nI 0)), (0, .ref (a 0)), (1, .int (nI hw)), (2, .int (nI t)), (3, .int (nI u)), (4, .int (nI v))]) S.1 S.2.1 dX0_merge_33 hl (by decide) rfl (fun ls hl => ?_)
        have e0 : vX cI cZ a n mw nf sg fo L le sc li ba ca st = vX cI cZ a n mw nf sg fo L le sc (mgF hw t u v li 0) ba ca st := (by rw [mgF_0])
        exact lX0_merge_35 l dC dI cI cZ cJ a n mw nf sg fo L le sc li ba ca st hw t u v hI hh ht hu hv S hr hlk hK _ 0 0 (Nat.lt_succ_self _) (by omega) rfl _ _ (by rw [← e0]; exact hP) (by rw [← e0]; exact hD) hS ls (lv_sub hl [2, 3, 4, 5, 6, 1, 0] rfl)
      · exact absurd hh (by omega)
