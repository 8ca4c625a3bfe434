/-! ===== the class: writers, third part ===== -/
theorem fit_le {n : Nat} {sg fo L le : Nat → Nat} {w : Nat} (h : fit n sg fo L le w = true) : le w = n := by
  simp only [fit, Bool.and_eq_true, decide_eq_true_eq] at h; exact h.1
/-- w put among the candidates: from place p downwards, ahead of those that A says -/
def inC (A : Nat → Bool) (w : Nat) : Nat → (Nat → Nat) → (Nat → Nat)
  | 0, c => va_up c 0 w
  | p + 1, c => if A (c p) = true then inC A w p (va_up c (p + 1) (c p)) else va_up c (p + 1) w
theorem inC_t {A : Nat → Bool} {w q : Nat} {c : Nat → Nat} (hq : 0 < q) (h : A (c (q - 1)) = true) : inC A w (q - 1) (va_up c q (c (q - 1))) = inC A w q c := by
  obtain ⟨p, rfl⟩ : ∃ p, q = p + 1 := ⟨q - 1, by omega⟩
  rw [Nat.add_sub_cancel] at h ⊢
  rw [inC, if_pos h]
theorem inC_f {A : Nat → Bool} {w q : Nat} {c : Nat → Nat} (hq : 0 < q) (h : A (c (q - 1)) = false) : inC A w q c = va_up c q w := by
  obtain ⟨p, rfl⟩ : ∃ p, q = p + 1 := ⟨q - 1, by omega⟩
  rw [Nat.add_sub_cancel] at h
  rw [inC, if_neg (by rw [h]; decide)]
theorem inC_any {A : Nat → Bool} {w : Nat} {P : Nat → Prop} : ∀ {p : Nat} {c : Nat → Nat}, (∀ k, P (c k)) → P w → ∀ k, P (inC A w p c k) := by
  intro p
  induction p with
  | zero =>
    intro c hc hw k
    rw [inC]
    by_cases q : k = 0
    · subst q; rw [va_up_self]; exact hw
    · rw [va_up_ne _ _ q]; exact hc k
  | succ p ih =>
    intro c hc hw k
    rw [inC]
    split
    · refine ih (fun j => ?_) hw k
      by_cases q : j = p + 1
      · subst q; rw [va_up_self]; exact hc p
      · rw [va_up_ne _ _ q]; exact hc j
    · by_cases q : k = p + 1
      · subst q; rw [va_up_self]; exact hw
      · rw [va_up_ne _ _ q]; exact hc k
theorem inC_all' {A : Nat → Bool} {w : Nat} {P : Nat → Prop} (F : Nat) : ∀ {p : Nat} {c : Nat → Nat}, p ≤ F → (∀ k, k < p → P (c k)) → (∀ k, p < k → k < F + 1 → P (c k)) → P w → ∀ k, k < F + 1 → P (inC A w p c k) := by
  intro p
  induction p with
  | zero =>
    intro c _ _ h2 hw k hk
    rw [inC]
    by_cases q : k = 0
    · subst q; rw [va_up_self]; exact hw
    · rw [va_up_ne _ _ q]; exact h2 k (by omega) hk
  | succ p ih =>
    intro c hp h1 h2 hw k hk
    rw [inC]
    split
    · refine ih (by omega) (fun j hj => ?_) (fun j hj hj2 => ?_) hw k hk
      · rw [va_up_ne _ _ (by omega)]; exact h1 j (by omega)
      · by_cases q : j = p + 1
        · subst q; rw [va_up_self]; exact h1 p (by omega)
        · rw [va_up_ne _ _ q]; exact h2 j (by omega) hj2
    · by_cases q : k = p + 1
      · subst q; rw [va_up_self]; exact hw
      · rw [va_up_ne _ _ q]
        by_cases z : k < p + 1
        · exact h1 k z
        · exact h2 k (by omega) hk
theorem inC_all {A : Nat → Bool} {w : Nat} {P : Nat → Prop} {p : Nat} {c : Nat → Nat} (h1 : ∀ k, k < p → P (c k)) (hw : P w) (k : Nat) (hk : k < p + 1) : P (inC A w p c k) := inC_all' p (Nat.le_refl p) h1 (fun k a b => absurd b (by omega)) hw k hk
theorem iv_ca {n mw nf : Nat} {sg fo L le sc li ba ca : Nat → Nat} (hI : iv n mw nf sg fo L le sc li ba ca) {q x : Nat} (h5 : x < 250) (hx : x < mw) : iv n mw nf sg fo L le sc li ba (va_up ca q x) := by
  obtain ⟨h1, ⟨hsg, hfo, hL, hle, hsc, hli, hba, hca⟩, hv1, hv2, hv3, hv4, hv5, hv6, hv7⟩ := hI
  refine ⟨h1, ⟨hsg, hfo, hL, hle, hsc, hli, hba, fun k => ?_⟩, hv1, hv2, hv3, hv4, hv5, hv6, fun k hk => ?_⟩
  · by_cases z : k = q
    · subst z; rw [va_up_self]; exact h5
    · rw [va_up_ne _ _ z]; exact hca k
  · by_cases z : k = q
    · subst z; rw [va_up_self]; exact hx
    · rw [va_up_ne _ _ z]; exact hv7 k hk
theorem iv_sk {n mw nf f : Nat} {sg fo L le sc li ba ca c : Nat → Nat} (hI : iv n mw nf sg fo L le sc li ba ca) (hf : f ≤ mw) (h5 : ∀ k, c k < 250) (hx : ∀ k, k < f → c k < mw) : iv n mw f sg fo L le sc li ba c := by
  obtain ⟨⟨h1, h2, -⟩, ⟨hsg, hfo, hL, hle, hsc, hli, hba, hca⟩, hv1, hv2, hv3, hv4, hv5, hv6, hv7⟩ := hI
  exact ⟨⟨h1, h2, hf⟩, ⟨hsg, hfo, hL, hle, hsc, hli, hba, h5⟩, hv1, hv2, hv3, hv4, hv5, hv6, hx⟩
/-- the candidates behind the first i words -/
def skS (n : Nat) (sg fo L le sc li ba : Nat → Nat) (t : Nat) (ca : Nat → Nat) : Nat → Nat × (Nat → Nat)
  | 0 => (0, ca)
  | i + 1 => match skS n sg fo L le sc li ba t ca i, fre li ba t i, fit n sg fo L le i with
    | (f, c), true, true => (f + 1, inC (ahd L sc i) i f c)
    | (f, c), _, _ => (f, c)
/-- how often the row has each letter -/
def rcS (i : Nat) (sg fo st : Nat → Nat) : Nat → Nat := fun k => if k < 26 then cnt (fun j => decide (fsg sg fo j = 97 + k)) i else st k
def zrS (i : Nat) (st : Nat → Nat) : Nat → Nat := fun k => if k < i then 0 else st k
theorem zrS_0 {st : Nat → Nat} : zrS 0 st = st := by
  funext k; rw [zrS, if_neg (by omega)]
theorem zrS_s {i : Nat} {st : Nat → Nat} : va_up (zrS i st) i 0 = zrS (i + 1) st := by
  funext k
  by_cases q : k = i
  · subst q; rw [va_up_self, zrS, if_pos (by omega)]
  · rw [va_up_ne _ _ q, zrS, zrS]
    by_cases z : k < i
    · rw [if_pos z, if_pos (by omega)]
    · rw [if_neg z, if_neg (by omega)]
theorem rcS_b {i : Nat} {sg fo st : Nat → Nat} (h : fsg sg fo i = 63) : rcS i sg fo st = rcS (i + 1) sg fo st := by
  funext k
  rw [rcS, rcS]
  split
  · rw [cnt, decide_eq_false (by omega)]; rfl
  · rfl
theorem rcS_l {i : Nat} {sg fo st : Nat → Nat} (h : 97 ≤ fsg sg fo i ∧ fsg sg fo i ≤ 122) : va_up (rcS i sg fo st) (fsg sg fo i - 97) (rcS i sg fo st (fsg sg fo i - 97) + 1) = rcS (i + 1) sg fo st := by
  funext k
  by_cases q : k = fsg sg fo i - 97
  · subst q
    rw [va_up_self, rcS, rcS, if_pos (by omega), if_pos (by omega), cnt, decide_eq_true (by omega)]; rfl
  · rw [va_up_ne _ _ q, rcS, rcS]
    split
    · rw [cnt, decide_eq_false (by omega)]; rfl
    · rfl
set_option maxRecDepth 100000 in
set_option maxHeartbeats 1000000 in
theorem lX0_addCandidate_5 (l : Launch) (dC : Nat → ClassId) (dI : Nat → Nat → Nat) (cI cZ cJ : ClassId) (a : Nat → Nat) (n mw nf : Nat) (sg fo L le sc li ba ca st : Nat → Nat) (w : Nat) (hI : iv n mw nf sg fo L le sc li ba ca) (hw : w < mw) (hnf : nf < 250) (hc : ∀ k, k < nf → le (ca k) = le w)  {p : Program} {e : Env} {s : State} {m : MethodId} {below : List Frame} {meth : Method} {c : Code} (S : CallFix p m c cX0_addCandidate 3 s ([.ref (a 0), .int (nI w)] : List Value).toArray tbG RX0) (hr : meth.sig.returnType = none) (hlk : meth.locks = false) (hK : va_K (dC, dI) vcl (vty cI cZ cJ) s) :
    ∀ (fuel : Nat) (q : Nat) (cx : Nat → Nat), q < fuel → q ≤ nf → inC (ahd L sc w) w q cx = inC (ahd L sc w) w nf ca → (∀ k, k < q → cx k = ca k) → iv n mw nf sg fo L le sc li ba cx → ∀ (H : Heap) (locs : List Loc), va_P (dC, dI) vcl (vX cI cZ a n mw nf sg fo L le sc li ba cx st) H → va_D (wF (vX cI cZ a n mw nf sg fo L le sc li ba ca st)) (vX cI cZ a n mw nf sg fo L le sc li ba cx st) → va_S (wF (vX cI cZ a n mw nf sg fo L le sc li ba ca st)) s.heap H locs → ∀ ls : Array Slot, lv_has ls 3 [(0, .ref (a 0)), (1, .int (nI w)), (2, .int (nI q))] → W p l e ({ frames := 3, cells := 0, slots := 0, locals := 69 } : Room) s m ([.ref (a 0), .int (nI w)] : List Value).toArray below meth c H locs 0 0 (MQ below (Qw dC dI (vX cI cZ a n mw nf sg fo L le sc li ba ca st) (vX cI cZ a n mw (nf + 1) sg fo L le sc li ba (inC (ahd L sc w) w nf ca) st) none) ([.ref (a 0), .int (nI w)] : List Value).toArray s 0 0 (wF (vX cI cZ a n mw nf sg fo L le sc li ba ca st))) (F0 m 5 ls []) := by
  obtain ⟨⟨hn, hm, hf⟩, ⟨hsg, hfo, hL, hle, hsc, hli, hba, hca⟩, hv1, hv2, hv3, hv4, hv5, hv6, hv7⟩ := id hI
  intro fuel
  induction fuel with
  | zero =>
    intro q cx hq
    exact absurd hq (Nat.not_lt_zero _)
  | succ fuel ih =>
    intro q cx hq hq1 hin h18 hI2 H locs hP hD hS ls hl
    refine lv_iload_n S.1 S.2.1 dX0_addCandidate_5 rfl (lv_at hl 2 rfl) ?_
    refine n_if_le (x := q) (tgt := 45) S dX0_addCandidate_6 (by decide) (by omega) (fun h6 => ?_) (fun h6 => ?_)
    · refine lv_aload_n S.1 S.2.1 dX0_addCandidate_45 rfl (lv_at hl 0 rfl) ?_
      refine fX0_candidates (v := .ref (a 8)) S hK hP rfl rfl dX0_addCandidate_46 ?_
      refine lv_iload_n S.1 S.2.1 dX0_addCandidate_49 rfl (lv_at hl 2 rfl) ?_
      refine lv_iload_n S.1 S.2.1 dX0_addCandidate_50 rfl (lv_at hl 1 rfl) ?_
      refine n_iast S hK hP hD hS 8 0 rfl rfl dX0_addCandidate_51 (j := q) (x := w) (by decide) (by omega) (fun H locs hP hD hS => ?_)
      have hP : va_P (dC, dI) vcl (vX cI cZ a n mw nf sg fo L le sc li ba (va_up cx q w) st) H := hP
      have hD : va_D (wF (vX cI cZ a n mw nf sg fo L le sc li ba ca st)) (vX cI cZ a n mw nf sg fo L le sc li ba (va_up cx q w) st) := hD
      refine lv_aload_n S.1 S.2.1 dX0_addCandidate_52 rfl (lv_at hl 0 rfl) ?_
      refine lv_dup S.1 S.2.1 dX0_addCandidate_53 rfl ?_
      refine fX0_candidateCount (v := .int (nI nf)) S hK hP rfl rfl dX0_addCandidate_54 ?_
      refine lv_iconst (v := (nI 1)) S.1 S.2.1 dX0_addCandidate_57 (by decide) ?_
      refine n_iadd (x := nf) (y := 1) S dX0_addCandidate_58 ?_
      refine pX0_candidateCount S hK hP hD hS rfl (Nat.le_of_ble_eq_true rfl) dX0_addCandidate_59 (fun H locs hP hD hS => ?_)
      have hP : va_P (dC, dI) vcl (vX cI cZ a n mw (nf + 1) sg fo L le sc li ba (va_up cx q w) st) H := hP
      have hD : va_D (wF (vX cI cZ a n mw nf sg fo L le sc li ba ca st)) (vX cI cZ a n mw (nf + 1) sg fo L le sc li ba (va_up cx q w) st) := hD
      exact wr_retv S hr hlk hP (by rw [← hin]; first | (rw [inC_f (by omega) h22]; done) | (rw [h6]; rfl)) hS dX0_addCandidate_62
    · refine lv_aload_n S.1 S.2.1 dX0_addCandidate_9 rfl (lv_at hl 0 rfl) ?_
      refine lv_iload_n S.1 S.2.1 dX0_addCandidate_10 rfl (lv_at hl 1 rfl) ?_
      refine lv_aload_n S.1 S.2.1 dX0_addCandidate_11 rfl (lv_at hl 0 rfl) ?_
      refine fX0_candidates (v := .ref (a 8)) S hK hP rfl rfl dX0_addCandidate_12 ?_
      refine lv_iload_n S.1 S.2.1 dX0_addCandidate_15 rfl (lv_at hl 2 rfl) ?_
      refine lv_iconst (v := (nI 1)) S.1 S.2.1 dX0_addCandidate_16 (by decide) ?_
      refine n_isub (x := q) (y := 1) S dX0_addCandidate_17 (by omega) ?_
      refine n_iald S hK hP 8 0 rfl rfl dX0_addCandidate_18 (j := q - 1) (by decide) (by omega) ?_
      have b18 := h18 (q - 1) (by omega)
      refine rd_callV (C := RX0) (As := [.int (nI w), .int (nI (cx (q - 1)))]) (rest := []) S (kX0_isAhead l dC dI cI cZ cJ a n mw nf sg fo L le sc li ba cx st w (cx (q - 1)) hI2 (by omega) (by rw [b18]; exact hv7 _ (by omega)) (by rw [b18]; exact (hc _ (by omega)).symm)) rB_blind (fun U hU hW => ⟨by rw [hU]; exact hP, va_K.moved hW.alike hK⟩) (va_recv hK hP (ci := 0) (q0 := 0) rfl rfl) gX0_131 hdX0_isAhead (by decide) hl.1 rfl (Nat.le_of_ble_eq_true rfl) dX0_addCandidate_19 ⟨Nat.zero_le _, Nat.zero_le _⟩ ?_
      refine n_bif_eq (b := ahd L sc w (cx (q - 1))) (tgt := 45) S dX0_addCandidate_22 (by decide) (fun h22 => ?_) (fun h22 => ?_)
      · refine lv_aload_n S.1 S.2.1 dX0_addCandidate_45 rfl (lv_at hl 0 rfl) ?_
        refine fX0_candidates (v := .ref (a 8)) S hK hP rfl rfl dX0_addCandidate_46 ?_
        refine lv_iload_n S.1 S.2.1 dX0_addCandidate_49 rfl (lv_at hl 2 rfl) ?_
        refine lv_iload_n S.1 S.2.1 dX0_addCandidate_50 rfl (lv_at hl 1 rfl) ?_
        refine n_iast S hK hP hD hS 8 0 rfl rfl dX0_addCandidate_51 (j := q) (x := w) (by decide) (by omega) (fun H locs hP hD hS => ?_)
        have hP : va_P (dC, dI) vcl (vX cI cZ a n mw nf sg fo L le sc li ba (va_up cx q w) st) H := hP
        have hD : va_D (wF (vX cI cZ a n mw nf sg fo L le sc li ba ca st)) (vX cI cZ a n mw nf sg fo L le sc li ba (va_up cx q w) st) := hD
        refine lv_aload_n S.1 S.2.1 dX0_addCandidate_52 rfl (lv_at hl 0 rfl) ?_
        refine lv_dup S.1 S.2.1 dX0_addCandidate_53 rfl ?_
        refine fX0_candidateCount (v := .int (nI nf)) S hK hP rfl rfl dX0_addCandidate_54 ?_
        refine lv_iconst (v := (nI 1)) S.1 S.2.1 dX0_addCandidate_57 (by decide) ?_
        refine n_iadd (x := nf) (y := 1) S dX0_addCandidate_58 ?_
        refine pX0_candidateCount S hK hP hD hS rfl (Nat.le_of_ble_eq_true rfl) dX0_addCandidate_59 (fun H locs hP hD hS => ?_)
        have hP : va_P (dC, dI) vcl (vX cI cZ a n mw (nf + 1) sg fo L le sc li ba (va_up cx q w) st) H := hP
        have hD : va_D (wF (vX cI cZ a n mw nf sg fo L le sc li ba ca st)) (vX cI cZ a n mw (nf + 1) sg fo L le sc li ba (va_up cx q w) st) := hD
        exact wr_retv S hr hlk hP (by rw [← hin]; first | (rw [inC_f (by omega) h22]; done) | (rw [h6]; rfl)) hS dX0_addCandidate_62
      · refine lv_aload_n S.1 S.2.1 dX0_addCandidate_25 rfl (lv_at hl 0 rfl) ?_
        refine fX0_candidates (v := .ref (a 8)) S hK hP rfl rfl dX0_addCandidate_26 ?_
        refine lv_iload_n S.1 S.2.1 dX0_addCandidate_29 rfl (lv_at hl 2 rfl) ?_
        refine lv_aload_n S.1 S.2.1 dX0_addCandidate_30 rfl (lv_at hl 0 rfl) ?_
        refine fX0_candidates (v := .ref (a 8)) S hK hP rfl rfl dX0_addCandidate_31 ?_
        refine lv_iload_n S.1 S.2.1 dX0_addCandidate_34 rfl (lv_at hl 2 rfl) ?_
        refine lv_iconst (v := (nI 1)) S.1 S.2.1 dX0_addCandidate_35 (by decide) ?_
        refine n_isub (x := q) (y := 1) S dX0_addCandidate_36 (by omega) ?_
        refine n_iald S hK hP 8 0 rfl rfl dX0_addCandidate_37 (j := q - 1) (by decide) (by omega) ?_
        refine n_iast S hK hP hD hS 8 0 rfl rfl dX0_addCandidate_38 (j := q) (x := cx (q - 1)) (by decide) (by omega) (fun H locs hP hD hS => ?_)
        have hP : va_P (dC, dI) vcl (vX cI cZ a n mw nf sg fo L le sc li ba (va_up cx q (cx (q - 1))) st) H := hP
        have hD : va_D (wF (vX cI cZ a n mw nf sg fo L le sc li ba ca st)) (vX cI cZ a n mw nf sg fo L le sc li ba (va_up cx q (cx (q - 1))) st) := hD
        refine n_idec (lv' := [(2, .int (nI (q - 1))), (0, .ref (a 0)), (1, .int (nI w))]) (x := q) (k := 2) S dX0_addCandidate_39 hl rfl (by omega) (by decide) rfl (fun ls hl => ?_)
        refine lv_goto (tgt := 5) S.1 S.2.1 dX0_addCandidate_42 (by decide) ?_
        have e0 : vX cI cZ a n mw nf sg fo L le sc li ba (va_up cx q (cx (q - 1))) st = vX cI cZ a n mw nf sg fo L le sc li ba ((va_up cx q (cx (q - 1)))) st := rfl
        exact ih (q - 1) (va_up cx q (cx (q - 1))) (by omega) (by omega) (by rw [← hin, inC_t (by omega) h22]) (fun k hk => by rw [va_up_ne _ _ (by omega)]; exact h18 k (by omega)) (iv_ca hI2 (hI2.2.1.2.2.2.2.2.2.2 _) (by rw [b18]; exact hv7 _ (by omega))) _ _ (by rw [← e0]; exact hP) (by rw [← e0]; exact hD) hS ls (lv_sub hl [1, 2, 0] rfl)
set_option maxRecDepth 100000 in
set_option maxHeartbeats 1000000 in
theorem kX0_addCandidate (l : Launch) (dC : Nat → ClassId) (dI : Nat → Nat → Nat) (cI cZ cJ : ClassId) (a : Nat → Nat) (n mw nf : Nat) (sg fo L le sc li ba ca st : Nat → Nat) (w : Nat) (hI : iv n mw nf sg fo L le sc li ba ca) (hw : w < mw) (hnf : nf < 250) (hc : ∀ k, k < nf → le (ca k) = le w) : wr l yX0_addCandidate cX0_addCandidate 3 none 3 69 [.ref (a 0), .int (nI w)] dC dI cI cZ cJ (vX cI cZ a n mw nf sg fo L le sc li ba ca st) (vX cI cZ a n mw (nf + 1) sg fo L le sc li ba (inC (ahd L sc w) w nf ca) st) none := by
  refine wr_ofW RX0 (by decide) rfl (Nat.le_of_ble_eq_true rfl) ?_
  intro p e s m below meth c S hr hlk hK hP hD hS ls hl
  have hl : lv_has ls 3 [(0, .ref (a 0)), (1, .int (nI w))] := hl
  obtain ⟨⟨hn, hm, hf⟩, ⟨hsg, hfo, hL, hle, hsc, hli, hba, hca⟩, hv1, hv2, hv3, hv4, hv5, hv6, hv7⟩ := id hI
  refine lv_aload_n S.1 S.2.1 dX0_addCandidate_0 rfl (lv_at hl 0 rfl) ?_
  refine fX0_candidateCount (v := .int (nI nf)) S hK hP rfl rfl dX0_addCandidate_1 ?_
  refine lv_istore_n (lv' := [(2, .int (nI nf)), (0, .ref (a 0)), (1, .int (nI w))]) S.1 S.2.1 dX0_addCandidate_4 rfl hl (by decide) rfl (fun ls hl => ?_)
  exact lX0_addCandidate_5 l dC dI cI cZ cJ a n mw nf sg fo L le sc li ba ca st w hI hw hnf hc S hr hlk hK _ nf ca (Nat.lt_succ_self _) (Nat.le_refl _) rfl (fun _ _ => rfl) hI _ _ hP hD hS ls (lv_sub hl [1, 2, 0] rfl)

set_option maxRecDepth 100000 in
set_option maxHeartbeats 1000000 in
theorem lX0_seek_11 (l : Launch) (dC : Nat → ClassId) (dI : Nat → Nat → Nat) (cI cZ cJ : ClassId) (a : Nat → Nat) (n mw nf : Nat) (sg fo L le sc li ba ca st : Nat → Nat) (t : Nat) (hI : iv n mw nf sg fo L le sc li ba ca) (ht : t < 4)  {p : Program} {e : Env} {s : State} {m : MethodId} {below : List Frame} {meth : Method} {c : Code} (S : CallFix p m c cX0_seek 3 s ([.ref (a 0), .int (nI t)] : List Value).toArray tbG RX0) (hr : meth.sig.returnType = (some .int)) (hlk : meth.locks = false) (hK : va_K (dC, dI) vcl (vty cI cZ cJ) s) :
    ∀ (fuel : Nat) (i : Nat) (f : Nat) (cx : Nat → Nat), mw - i < fuel → i ≤ mw → (f, cx) = skS n sg fo L le sc li ba t ca i → f ≤ i → (∀ k, k < f → cx k < i ∧ le (cx k) = n) → (∀ k, cx k < 250) → ∀ (H : Heap) (locs : List Loc), va_P (dC, dI) vcl (vX cI cZ a n mw f sg fo L le sc li ba cx st) H → va_D (wF (vX cI cZ a n mw nf sg fo L le sc li ba ca st)) (vX cI cZ a n mw f sg fo L le sc li ba cx st) → va_S (wF (vX cI cZ a n mw nf sg fo L le sc li ba ca st)) s.heap H locs → ∀ ls : Array Slot, lv_has ls 3 [(0, .ref (a 0)), (1, .int (nI t)), (2, .int (nI i))] → W p l e ({ frames := 4, cells := 0, slots := 0, locals := 91 } : Room) s m ([.ref (a 0), .int (nI t)] : List Value).toArray below meth c H locs 0 0 (MQ below (Qw dC dI (vX cI cZ a n mw nf sg fo L le sc li ba ca st) (vX cI cZ a n mw ((skS n sg fo L le sc li ba t ca mw).1) sg fo L le sc li ba ((skS n sg fo L le sc li ba t ca mw).2) st) (some (.int (nI ((skS n sg fo L le sc li ba t ca mw).1))))) ([.ref (a 0), .int (nI t)] : List Value).toArray s 0 0 (wF (vX cI cZ a n mw nf sg fo L le sc li ba ca st))) (F0 m 11 ls []) := by
  obtain ⟨⟨hn, hm, hf⟩, ⟨hsg, hfo, hL, hle, hsc, hli, hba, hca⟩, hv1, hv2, hv3, hv4, hv5, hv6, hv7⟩ := id hI
  intro fuel
  induction fuel with
  | zero =>
    intro i f cx hq
    exact absurd hq (Nat.not_lt_zero _)
  | succ fuel ih =>
    intro i f cx hq hi hsk hfi hcc hc5 H locs hP hD hS ls hl
    have hI2 := iv_sk hI (show f ≤ mw by omega) hc5 (fun k hk => by have := (hcc k hk).1; omega)
    refine lv_iload_n S.1 S.2.1 dX0_seek_11 rfl (lv_at hl 2 rfl) ?_
    refine lv_aload_n S.1 S.2.1 dX0_seek_12 rfl (lv_at hl 0 rfl) ?_
    refine fX0_wordCount (v := .int (nI mw)) S hK hP rfl rfl dX0_seek_13 ?_
    refine n_icmp_ge (x := i) (y := mw) (tgt := 47) S dX0_seek_16 (by decide) (by omega) (by omega) (fun h16 => ?_) (fun h16 => ?_)
    · refine lv_aload_n S.1 S.2.1 dX0_seek_47 rfl (lv_at hl 0 rfl) ?_
      refine fX0_candidateCount (v := .int (nI f)) S hK hP rfl rfl dX0_seek_48 ?_
      exact wr_ret S hr hlk (rfl) (by rw [show mw = i by omega, ← hsk]) hP (by rw [show (skS n sg fo L le sc li ba t ca mw) = (f, cx) by rw [show mw = i by omega]; exact hsk.symm]) hS dX0_seek_51
    · refine lv_aload_n S.1 S.2.1 dX0_seek_19 rfl (lv_at hl 0 rfl) ?_
      refine lv_iload_n S.1 S.2.1 dX0_seek_20 rfl (lv_at hl 2 rfl) ?_
      refine lv_iload_n S.1 S.2.1 dX0_seek_21 rfl (lv_at hl 1 rfl) ?_
      refine rd_callV (C := RX0) (As := [.int (nI i), .int (nI t)]) (rest := []) S (kX0_isFreeIn l dC dI cI cZ cJ a n mw f sg fo L le sc li ba cx st i t hI2 (by omega) ht) rB_blind (fun U hU hW => ⟨by rw [hU]; exact hP, va_K.moved hW.alike hK⟩) (va_recv hK hP (ci := 0) (q0 := 0) rfl rfl) gX0_87 hdX0_isFreeIn (by decide) hl.1 rfl (Nat.le_of_ble_eq_true rfl) dX0_seek_22 ⟨Nat.zero_le _, Nat.zero_le _⟩ ?_
      refine n_bif_eq (b := fre li ba t i) (tgt := 41) S dX0_seek_25 (by decide) (fun h25 => ?_) (fun h25 => ?_)
      · refine n_iinc (lv' := [(2, .int (nI (i + 1))), (0, .ref (a 0)), (1, .int (nI t))]) (x := i) (k := 2) S dX0_seek_41 hl rfl (by decide) rfl (fun ls hl => ?_)
        refine lv_goto (tgt := 11) S.1 S.2.1 dX0_seek_44 (by decide) ?_
        exact ih (i + 1) f cx (by omega) (by omega) (by rw [skS, ← hsk]; first | (rw [h25, h33] <;> rfl) | (rw [h25] <;> rfl)) (by omega) (fun k hk => ⟨by have := (hcc k hk).1; omega, (hcc k hk).2⟩) hc5 _ _ hP hD hS ls (lv_sub hl [1, 2, 0] rfl)
      · refine lv_aload_n S.1 S.2.1 dX0_seek_28 rfl (lv_at hl 0 rfl) ?_
        refine lv_iload_n S.1 S.2.1 dX0_seek_29 rfl (lv_at hl 2 rfl) ?_
        refine rd_callV (C := RX0) (As := [.int (nI i)]) (rest := []) S (kX0_fits l dC dI cI cZ cJ a n mw f sg fo L le sc li ba cx st i hI2 (by omega)) rB_blind (fun U hU hW => ⟨by rw [hU]; exact hP, va_K.moved hW.alike hK⟩) (va_recv hK hP (ci := 0) (q0 := 0) rfl rfl) gX0_76 hdX0_fits (by decide) hl.1 rfl (Nat.le_of_ble_eq_true rfl) dX0_seek_30 ⟨Nat.zero_le _, Nat.zero_le _⟩ ?_
        refine n_bif_eq (b := fit n sg fo L le i) (tgt := 41) S dX0_seek_33 (by decide) (fun h33 => ?_) (fun h33 => ?_)
        · refine n_iinc (lv' := [(2, .int (nI (i + 1))), (0, .ref (a 0)), (1, .int (nI t))]) (x := i) (k := 2) S dX0_seek_41 hl rfl (by decide) rfl (fun ls hl => ?_)
          refine lv_goto (tgt := 11) S.1 S.2.1 dX0_seek_44 (by decide) ?_
          exact ih (i + 1) f cx (by omega) (by omega) (by rw [skS, ← hsk]; first | (rw [h25, h33] <;> rfl) | (rw [h25] <;> rfl)) (by omega) (fun k hk => ⟨by have := (hcc k hk).1; omega, (hcc k hk).2⟩) hc5 _ _ hP hD hS ls (lv_sub hl [1, 2, 0] rfl)
        · refine lv_aload_n S.1 S.2.1 dX0_seek_36 rfl (lv_at hl 0 rfl) ?_
          refine lv_iload_n S.1 S.2.1 dX0_seek_37 rfl (lv_at hl 2 rfl) ?_
          refine wr_callV (C := RX0) (As := [.int (nI i)]) (rest := []) S (kX0_addCandidate l dC dI cI cZ cJ a n mw f sg fo L le sc li ba cx st i hI2 (by omega) (by omega) (fun k hk => by rw [(hcc k hk).2]; exact (fit_le h33).symm)) hK [] [] hP hD hS rfl (va_recv hK hP (ci := 0) (q0 := 0) rfl rfl) gX0_90 hdX0_addCandidate (by decide) hl.1 rfl (Nat.le_of_ble_eq_true rfl) dX0_seek_38 ⟨Nat.zero_le _, Nat.zero_le _⟩ (fun H locs hP hD hS => ?_)
          have hP : va_P (dC, dI) vcl (vX cI cZ a n mw (f + 1) sg fo L le sc li ba (inC (ahd L sc i) i f cx) st) H := hP
          have hD : va_D (wF (vX cI cZ a n mw nf sg fo L le sc li ba ca st)) (vX cI cZ a n mw (f + 1) sg fo L le sc li ba (inC (ahd L sc i) i f cx) st) := hD
          refine n_iinc (lv' := [(2, .int (nI (i + 1))), (0, .ref (a 0)), (1, .int (nI t))]) (x := i) (k := 2) S dX0_seek_41 hl rfl (by decide) rfl (fun ls hl => ?_)
          refine lv_goto (tgt := 11) S.1 S.2.1 dX0_seek_44 (by decide) ?_
          have e0 : vX cI cZ a n mw (f + 1) sg fo L le sc li ba (inC (ahd L sc i) i f cx) st = vX cI cZ a n mw ((f + 1)) sg fo L le sc li ba ((inC (ahd L sc i) i f cx)) st := rfl
          exact ih (i + 1) (f + 1) (inC (ahd L sc i) i f cx) (by omega) (by omega) (by rw [skS, ← hsk]; first | (rw [h25, h33] <;> rfl) | (rw [h25] <;> rfl)) (by omega) (fun k hk => inC_all (P := fun x => x < i + 1 ∧ le x = n) (fun j hj => ⟨by have := (hcc j hj).1; omega, (hcc j hj).2⟩) ⟨by omega, fit_le h33⟩ k hk) (inC_any (P := fun x => x < 250) hc5 (by omega)) _ _ (by rw [← e0]; exact hP) (by rw [← e0]; exact hD) hS ls (lv_sub hl [1, 2, 0] rfl)
set_option maxRecDepth 100000 in
set_option maxHeartbeats 1000000 in
theorem kX0_seek (l : Launch) (dC : Nat → ClassId) (dI : Nat → Nat → Nat) (cI cZ cJ : ClassId) (a : Nat → Nat) (n mw nf : Nat) (sg fo L le sc li ba ca st : Nat → Nat) (t : Nat) (hI : iv n mw nf sg fo L le sc li ba ca) (ht : t < 4) : wr l yX0_seek cX0_seek 3 (some .int) 4 91 [.ref (a 0), .int (nI t)] dC dI cI cZ cJ (vX cI cZ a n mw nf sg fo L le sc li ba ca st) (vX cI cZ a n mw ((skS n sg fo L le sc li ba t ca mw).1) sg fo L le sc li ba ((skS n sg fo L le sc li ba t ca mw).2) st) (some (.int (nI ((skS n sg fo L le sc li ba t ca mw).1)))) := by
  refine wr_ofW RX0 (by decide) rfl (Nat.le_of_ble_eq_true rfl) ?_
  intro p e s m below meth c S hr hlk hK hP hD hS ls hl
  have hl : lv_has ls 3 [(0, .ref (a 0)), (1, .int (nI t))] := hl
  obtain ⟨⟨hn, hm, hf⟩, ⟨hsg, hfo, hL, hle, hsc, hli, hba, hca⟩, hv1, hv2, hv3, hv4, hv5, hv6, hv7⟩ := id hI
  refine lv_iload_n S.1 S.2.1 dX0_seek_0 rfl (lv_at hl 1 rfl) ?_
  refine rdv_callS (As := [.int (nI t)]) (rest := []) S (kX0_needList l t ht) tr_blind (fun _ _ _ => trivial) gX0_56 hdX0_needList (by decide) hl.1 rfl (Nat.le_of_ble_eq_true rfl) dX0_seek_1 ⟨Nat.zero_le _, Nat.zero_le _⟩ ?_
  refine lv_aload_n S.1 S.2.1 dX0_seek_4 rfl (lv_at hl 0 rfl) ?_
  refine lv_iconst (v := (nI 0)) S.1 S.2.1 dX0_seek_5 (by decide) ?_
  refine pX0_candidateCount S hK hP hD hS rfl (Nat.le_of_ble_eq_true rfl) dX0_seek_6 (fun H locs hP hD hS => ?_)
  have hP : va_P (dC, dI) vcl (vX cI cZ a n mw 0 sg fo L le sc li ba ca st) H := hP
  have hD : va_D (wF (vX cI cZ a n mw nf sg fo L le sc li ba ca st)) (vX cI cZ a n mw 0 sg fo L le sc li ba ca st) := hD
  refine lv_iconst (v := (nI 0)) S.1 S.2.1 dX0_seek_9 (by decide) ?_
  refine lv_istore_n (lv' := [(2, .int (nI 0)), (0, .ref (a 0)), (1, .int (nI t))]) S.1 S.2.1 dX0_seek_10 rfl hl (by decide) rfl (fun ls hl => ?_)
  exact lX0_seek_11 l dC dI cI cZ cJ a n mw nf sg fo L le sc li ba ca st t hI ht S hr hlk hK _ 0 0 ca (Nat.lt_succ_self _) (by omega) rfl (by omega) (fun k hk => absurd hk (Nat.not_lt_zero k)) hca _ _ hP hD hS ls (lv_sub hl [1, 2, 0] rfl)

set_option maxRecDepth 100000 in
set_option maxHeartbeats 1000000 in
theorem lX0_fillStock_25 (l : Launch) (dC : Nat → ClassId) (dI : Nat → Nat → Nat) (cI cZ cJ : ClassId) (a : Nat → Nat) (n mw nf : Nat) (sg fo L le sc li ba ca st : Nat → Nat) (hI : iv n mw nf sg fo L le sc li ba ca)  {p : Program} {e : Env} {s : State} {m : MethodId} {below : List Frame} {meth : Method} {c : Code} (S : CallFix p m c cX0_fillStock 4 s ([.ref (a 0)] : List Value).toArray tbG RX0) (hr : meth.sig.returnType = (some .int)) (hlk : meth.locks = false) (hK : va_K (dC, dI) vcl (vty cI cZ cJ) s) :
    ∀ (fuel : Nat) (i : Nat) (k : Nat), n - i < fuel → i ≤ n → k = cnt (fun j => decide (fsg sg fo j = 63)) i → ∀ (H : Heap) (locs : List Loc), va_P (dC, dI) vcl (vX cI cZ a n mw nf sg fo L le sc li ba ca (rcS i sg fo st)) H → va_D (wF (vX cI cZ a n mw nf sg fo L le sc li ba ca st)) (vX cI cZ a n mw nf sg fo L le sc li ba ca (rcS i sg fo st)) → va_S (wF (vX cI cZ a n mw nf sg fo L le sc li ba ca st)) s.heap H locs → ∀ ls : Array Slot, lv_has ls 4 [(0, .ref (a 0)), (1, .int (nI k)), (2, .int (nI i))] → W p l e ({ frames := 2, cells := 0, slots := 0, locals := 42 } : Room) s m ([.ref (a 0)] : List Value).toArray below meth c H locs 0 0 (MQ below (Qw dC dI (vX cI cZ a n mw nf sg fo L le sc li ba ca st) (vX cI cZ a n mw nf sg fo L le sc li ba ca (rcS n sg fo st)) (some (.int (nI (cnt (fun j => decide (fsg sg fo j = 63)) n))))) ([.ref (a 0)] : List Value).toArray s 0 0 (wF (vX cI cZ a n mw nf sg fo L le sc li ba ca st))) (F0 m 25 ls []) := by
  obtain ⟨⟨hn, hm, hf⟩, ⟨hsg, hfo, hL, hle, hsc, hli, hba, hca⟩, hv1, hv2, hv3, hv4, hv5, hv6, hv7⟩ := id hI
  intro fuel
  induction fuel with
  | zero =>
    intro i k hq
    exact absurd hq (Nat.not_lt_zero _)
  | succ fuel ih =>
    intro i k hq hi hk H locs hP hD hS ls hl
    have hki := cnt_le (fun j => decide (fsg sg fo j = 63)) i
    refine lv_iload_n S.1 S.2.1 dX0_fillStock_25 rfl (lv_at hl 2 rfl) ?_
    refine lv_aload_n S.1 S.2.1 dX0_fillStock_26 rfl (lv_at hl 0 rfl) ?_
    refine fX0_signCount (v := .int (nI n)) S hK hP rfl rfl dX0_fillStock_27 ?_
    refine n_icmp_ge (x := i) (y := n) (tgt := 71) S dX0_fillStock_30 (by decide) (by omega) (by omega) (fun h30 => ?_) (fun h30 => ?_)
    · refine lv_iload_n S.1 S.2.1 dX0_fillStock_71 rfl (lv_at hl 1 rfl) ?_
      exact wr_ret S hr hlk (rfl) (by rw [hk, show i = n by omega]) hP (by rw [show i = n by omega]) hS dX0_fillStock_72
    · refine lv_aload_n S.1 S.2.1 dX0_fillStock_33 rfl (lv_at hl 0 rfl) ?_
      refine lv_iload_n S.1 S.2.1 dX0_fillStock_34 rfl (lv_at hl 2 rfl) ?_
      refine rd_callV (C := RX0) (As := [.int (nI i)]) (rest := []) S (kX0_foldedSign l dC dI cI cZ cJ a n mw nf sg fo L le sc li ba ca (rcS i sg fo st) i (iv_r hI) (by omega)) rB_blind (fun U hU hW => ⟨by rw [hU]; exact hP, va_K.moved hW.alike hK⟩) (va_recv hK hP (ci := 0) (q0 := 0) rfl rfl) gX0_127 hdX0_foldedSign (by decide) hl.1 rfl (Nat.le_of_ble_eq_true rfl) dX0_fillStock_35 ⟨Nat.zero_le _, Nat.zero_le _⟩ ?_
      have b35 := fsg_in hI (show i < n by omega)
      refine lv_istore_n (lv' := [(3, .int (nI (fsg sg fo i))), (0, .ref (a 0)), (1, .int (nI k)), (2, .int (nI i))]) S.1 S.2.1 dX0_fillStock_38 rfl hl (by decide) rfl (fun ls hl => ?_)
      refine lv_iload_n S.1 S.2.1 dX0_fillStock_39 rfl (lv_at hl 0 rfl) ?_
      refine rd_callS (As := [.int (nI (fsg sg fo i))]) (rest := []) S (kX0_isLetter l ((nI (fsg sg fo i)))) tr_blind (fun _ _ _ => trivial) gX0_48 hdX0_isLetter (by decide) hl.1 rfl (Nat.le_of_ble_eq_true rfl) dX0_fillStock_40 ⟨Nat.zero_le _, Nat.zero_le _⟩ ?_
      rw [isL_n (show fsg sg fo i < 2 ^ 31 by omega)]
      refine n_bif_eq (b := decide (97 ≤ fsg sg fo i) && decide (fsg sg fo i < 123)) (tgt := 62) S dX0_fillStock_43 (by decide) (fun h43 => ?_) (fun h43 => ?_)
      · have h42 : fsg sg fo i = 63 := by
          rcases b35 with q | q
          · exact q
          · rw [decide_eq_true q.1, decide_eq_true (show fsg sg fo i < 123 by omega)] at h43; exact absurd h43 (by decide)
        refine n_iinc (lv' := [(1, .int (nI (k + 1))), (3, .int (nI (fsg sg fo i))), (0, .ref (a 0)), (2, .int (nI i))]) (x := k) (k := 2) S dX0_fillStock_62 hl rfl (by decide) rfl (fun ls hl => ?_)
        refine n_iinc (lv' := [(2, .int (nI (i + 1))), (1, .int (nI (k + 1))), (3, .int (nI (fsg sg fo i))), (0, .ref (a 0))]) (x := i) (k := 3) S dX0_fillStock_65 hl rfl (by decide) rfl (fun ls hl => ?_)
        refine lv_goto (tgt := 25) S.1 S.2.1 dX0_fillStock_68 (by decide) ?_
        have e0 : vX cI cZ a n mw nf sg fo L le sc li ba ca (rcS i sg fo st) = vX cI cZ a n mw nf sg fo L le sc li ba ca (rcS (i + 1) sg fo st) := (by first | rw [rcS_b h42] | rw [rcS_l (by omega)])
        exact ih (i + 1) (k + 1) (by omega) (by omega) (by rw [cnt, ← hk]; first | (rw [decide_eq_true h42]; rfl) | (rw [decide_eq_false h42]; rfl)) _ _ (by rw [← e0]; exact hP) (by rw [← e0]; exact hD) hS ls (lv_sub hl [3, 1, 0] rfl)
      · have h42 : ¬ fsg sg fo i = 63 := by intro q; rw [q] at h43; exact absurd h43 (by decide)
        refine lv_aload_n S.1 S.2.1 dX0_fillStock_46 rfl (lv_at hl 1 rfl) ?_
        refine fX0_stock (v := .ref (a 9)) S hK hP rfl rfl dX0_fillStock_47 ?_
        refine lv_iload_n S.1 S.2.1 dX0_fillStock_50 rfl (lv_at hl 0 rfl) ?_
        refine lv_bipush (v := (nI 97)) S.1 S.2.1 dX0_fillStock_51 (by decide) ?_
        refine n_isub (x := fsg sg fo i) (y := 97) S dX0_fillStock_53 (by omega) ?_
        refine lv_dup2_11 S.1 S.2.1 dX0_fillStock_54 rfl rfl ?_
        refine n_iald S hK hP 9 0 rfl rfl dX0_fillStock_55 (j := (fsg sg fo i) - 97) (by decide) (by omega) ?_
        refine lv_iconst (v := (nI 1)) S.1 S.2.1 dX0_fillStock_56 (by decide) ?_
        refine n_iadd (x := (rcS i sg fo st) ((fsg sg fo i) - 97)) (y := 1) S dX0_fillStock_57 ?_
        refine n_iast S hK hP hD hS 9 0 rfl rfl dX0_fillStock_58 (j := (fsg sg fo i) - 97) (x := ((rcS i sg fo st) ((fsg sg fo i) - 97)) + 1) (by decide) (by omega) (fun H locs hP hD hS => ?_)
        have hP : va_P (dC, dI) vcl (vX cI cZ a n mw nf sg fo L le sc li ba ca (va_up (rcS i sg fo st) ((fsg sg fo i) - 97) (((rcS i sg fo st) ((fsg sg fo i) - 97)) + 1))) H := hP
        have hD : va_D (wF (vX cI cZ a n mw nf sg fo L le sc li ba ca st)) (vX cI cZ a n mw nf sg fo L le sc li ba ca (va_up (rcS i sg fo st) ((fsg sg fo i) - 97) (((rcS i sg fo st) ((fsg sg fo i) - 97)) + 1))) := hD
        refine lv_goto (tgt := 65) S.1 S.2.1 dX0_fillStock_59 (by decide) ?_
        refine n_iinc (lv' := [(2, .int (nI (i + 1))), (3, .int (nI (fsg sg fo i))), (0, .ref (a 0)), (1, .int (nI k))]) (x := i) (k := 3) S dX0_fillStock_65 hl rfl (by decide) rfl (fun ls hl => ?_)
        refine lv_goto (tgt := 25) S.1 S.2.1 dX0_fillStock_68 (by decide) ?_
        have e0 : vX cI cZ a n mw nf sg fo L le sc li ba ca (va_up (rcS i sg fo st) ((fsg sg fo i) - 97) (((rcS i sg fo st) ((fsg sg fo i) - 97)) + 1)) = vX cI cZ a n mw nf sg fo L le sc li ba ca (rcS (i + 1) sg fo st) := (by first | rw [rcS_b h42] | rw [rcS_l (by omega)])
        exact ih (i + 1) k (by omega) (by omega) (by rw [cnt, ← hk]; first | (rw [decide_eq_true h42]; rfl) | (rw [decide_eq_false h42]; rfl)) _ _ (by rw [← e0]; exact hP) (by rw [← e0]; exact hD) hS ls (lv_sub hl [2, 3, 0] rfl)
set_option maxRecDepth 100000 in
set_option maxHeartbeats 1000000 in
theorem lX0_fillStock_2 (l : Launch) (dC : Nat → ClassId) (dI : Nat → Nat → Nat) (cI cZ cJ : ClassId) (a : Nat → Nat) (n mw nf : Nat) (sg fo L le sc li ba ca st : Nat → Nat) (hI : iv n mw nf sg fo L le sc li ba ca)  {p : Program} {e : Env} {s : State} {m : MethodId} {below : List Frame} {meth : Method} {c : Code} (S : CallFix p m c cX0_fillStock 4 s ([.ref (a 0)] : List Value).toArray tbG RX0) (hr : meth.sig.returnType = (some .int)) (hlk : meth.locks = false) (hK : va_K (dC, dI) vcl (vty cI cZ cJ) s) :
    ∀ (fuel : Nat) (i : Nat), 26 - i < fuel → i ≤ 26 → ∀ (H : Heap) (locs : List Loc), va_P (dC, dI) vcl (vX cI cZ a n mw nf sg fo L le sc li ba ca (zrS i st)) H → va_D (wF (vX cI cZ a n mw nf sg fo L le sc li ba ca st)) (vX cI cZ a n mw nf sg fo L le sc li ba ca (zrS i st)) → va_S (wF (vX cI cZ a n mw nf sg fo L le sc li ba ca st)) s.heap H locs → ∀ ls : Array Slot, lv_has ls 4 [(0, .ref (a 0)), (1, .int (nI i))] → W p l e ({ frames := 2, cells := 0, slots := 0, locals := 42 } : Room) s m ([.ref (a 0)] : List Value).toArray below meth c H locs 0 0 (MQ below (Qw dC dI (vX cI cZ a n mw nf sg fo L le sc li ba ca st) (vX cI cZ a n mw nf sg fo L le sc li ba ca (rcS n sg fo st)) (some (.int (nI (cnt (fun j => decide (fsg sg fo j = 63)) n))))) ([.ref (a 0)] : List Value).toArray s 0 0 (wF (vX cI cZ a n mw nf sg fo L le sc li ba ca st))) (F0 m 2 ls []) := by
  obtain ⟨⟨hn, hm, hf⟩, ⟨hsg, hfo, hL, hle, hsc, hli, hba, hca⟩, hv1, hv2, hv3, hv4, hv5, hv6, hv7⟩ := id hI
  intro fuel
  induction fuel with
  | zero =>
    intro i hq
    exact absurd hq (Nat.not_lt_zero _)
  | succ fuel ih =>
    intro i hq hi H locs hP hD hS ls hl
    refine lv_iload_n S.1 S.2.1 dX0_fillStock_2 rfl (lv_at hl 1 rfl) ?_
    refine lv_bipush (v := (nI 26)) S.1 S.2.1 dX0_fillStock_3 (by decide) ?_
    refine n_icmp_ge (x := i) (y := 26) (tgt := 21) S dX0_fillStock_5 (by decide) (by omega) (by omega) (fun h5 => ?_) (fun h5 => ?_)
    · refine lv_iconst (v := (nI 0)) S.1 S.2.1 dX0_fillStock_21 (by decide) ?_
      refine lv_istore_n (lv' := [(1, .int (nI 0)), (0, .ref (a 0))]) S.1 S.2.1 dX0_fillStock_22 rfl hl (by decide) rfl (fun ls hl => ?_)
      refine lv_iconst (v := (nI 0)) S.1 S.2.1 dX0_fillStock_23 (by decide) ?_
      refine lv_istore_n (lv' := [(2, .int (nI 0)), (1, .int (nI 0)), (0, .ref (a 0))]) S.1 S.2.1 dX0_fillStock_24 rfl hl (by decide) rfl (fun ls hl => ?_)
      have e0 : vX cI cZ a n mw nf sg fo L le sc li ba ca (zrS i st) = vX cI cZ a n mw nf sg fo L le sc li ba ca (rcS 0 sg fo st) := (by rw [show i = 26 by omega]; rfl)
      exact lX0_fillStock_25 l dC dI cI cZ cJ a n mw nf sg fo L le sc li ba ca st hI S hr hlk hK _ 0 0 (Nat.lt_succ_self _) (by omega) rfl _ _ (by rw [← e0]; exact hP) (by rw [← e0]; exact hD) hS ls (lv_sub hl [2, 1, 0] rfl)
    · refine lv_aload_n S.1 S.2.1 dX0_fillStock_8 rfl (lv_at hl 0 rfl) ?_
      refine fX0_stock (v := .ref (a 9)) S hK hP rfl rfl dX0_fillStock_9 ?_
      refine lv_iload_n S.1 S.2.1 dX0_fillStock_12 rfl (lv_at hl 1 rfl) ?_
      refine lv_iconst (v := (nI 0)) S.1 S.2.1 dX0_fillStock_13 (by decide) ?_
      refine n_iast S hK hP hD hS 9 0 rfl rfl dX0_fillStock_14 (j := i) (x := 0) (by decide) (by omega) (fun H locs hP hD hS => ?_)
      have hP : va_P (dC, dI) vcl (vX cI cZ a n mw nf sg fo L le sc li ba ca (va_up (zrS i st) i 0)) H := hP
      have hD : va_D (wF (vX cI cZ a n mw nf sg fo L le sc li ba ca st)) (vX cI cZ a n mw nf sg fo L le sc li ba ca (va_up (zrS i st) i 0)) := hD
      refine n_iinc (lv' := [(1, .int (nI (i + 1))), (0, .ref (a 0))]) (x := i) (k := 1) S dX0_fillStock_15 hl rfl (by decide) rfl (fun ls hl => ?_)
      refine lv_goto (tgt := 2) S.1 S.2.1 dX0_fillStock_18 (by decide) ?_
      have e0 : vX cI cZ a n mw nf sg fo L le sc li ba ca (va_up (zrS i st) i 0) = vX cI cZ a n mw nf sg fo L le sc li ba ca (zrS (i + 1) st) := (by rw [zrS_s])
      exact ih (i + 1) (by omega) (by omega) _ _ (by rw [← e0]; exact hP) (by rw [← e0]; exact hD) hS ls (lv_sub hl [1, 0] rfl)
set_option maxRecDepth 100000 in
set_option maxHeartbeats 1000000 in
theorem kX0_fillStock (l : Launch) (dC : Nat → ClassId) (dI : Nat → Nat → Nat) (cI cZ cJ : ClassId) (a : Nat → Nat) (n mw nf : Nat) (sg fo L le sc li ba ca st : Nat → Nat) (hI : iv n mw nf sg fo L le sc li ba ca) : wr l yX0_fillStock cX0_fillStock 4 (some .int) 2 42 [.ref (a 0)] dC dI cI cZ cJ (vX cI cZ a n mw nf sg fo L le sc li ba ca st) (vX cI cZ a n mw nf sg fo L le sc li ba ca (rcS n sg fo st)) (some (.int (nI (cnt (fun j => decide (fsg sg fo j = 63)) n)))) := by
  refine wr_ofW RX0 (by decide) rfl (Nat.le_of_ble_eq_true rfl) ?_
  intro p e s m below meth c S hr hlk hK hP hD hS ls hl
  have hl : lv_has ls 4 [(0, .ref (a 0))] := hl
  obtain ⟨⟨hn, hm, hf⟩, ⟨hsg, hfo, hL, hle, hsc, hli, hba, hca⟩, hv1, hv2, hv3, hv4, hv5, hv6, hv7⟩ := id hI
  refine lv_iconst (v := (nI 0)) S.1 S.2.1 dX0_fillStock_0 (by decide) ?_
  refine lv_istore_n (lv' := [(1, .int (nI 0)), (0, .ref (a 0))]) S.1 S.2.1 dX0_fillStock_1 rfl hl (by decide) rfl (fun ls hl => ?_)
  have e0 : vX cI cZ a n mw nf sg fo L le sc li ba ca st = vX cI cZ a n mw nf sg fo L le sc li ba ca (zrS 0 st) := (by rw [zrS_0])
  exact lX0_fillStock_2 l dC dI cI cZ cJ a n mw nf sg fo L le sc li ba ca st hI S hr hlk hK _ 0 (Nat.lt_succ_self _) (by omega) _ _ (by rw [← e0]; exact hP) (by rw [← e0]; exact hD) hS ls (lv_sub hl [1, 0] rfl)
