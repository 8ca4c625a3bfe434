/-! ===== the class: readers, second part ===== -/
/-- how often letter y is in word w -/
def tiw (L le : Nat → Nat) (y w : Nat) : Nat := cnt (fun j => decide (L (15 * w + j) = y)) (le w)
/-- w goes ahead of v -/
def ahd (L sc : Nat → Nat) (w v : Nat) : Bool := if sc w = sc v then decide (lcp (fun j => L (15 * w + j)) (fun j => L (15 * v + j)) 15 < 15) && decide (L (15 * w + lcp (fun j => L (15 * w + j)) (fun j => L (15 * v + j)) 15) < L (15 * v + lcp (fun j => L (15 * w + j)) (fun j => L (15 * v + j)) 15)) else decide (sc v < sc w)
theorem lcp_spec (f g : Nat → Nat) (b : Nat) : (∀ j, j < lcp f g b → f j = g j) ∧ (lcp f g b = b ∨ f (lcp f g b) ≠ g (lcp f g b)) := by
  induction b with
  | zero => exact ⟨fun j h => absurd h (Nat.not_lt_zero j), Or.inl rfl⟩
  | succ b ih =>
    simp only [lcp]
    by_cases q : lcp f g b = b ∧ f b = g b
    · rw [if_pos q]
      exact ⟨fun j hj => by
        by_cases z : j = b
        · rw [z]; exact q.2
        · exact ih.1 j (by rw [q.1]; omega), Or.inl rfl⟩
    · rw [if_neg q]
      refine ⟨ih.1, Or.inr ?_⟩
      rcases ih.2 with z | z
      · rw [z]; exact fun y => q ⟨z, y⟩
      · exact z
theorem ahd_eq {n mw nf : Nat} {sg fo L le sc li ba ca : Nat → Nat} (hI : iv n mw nf sg fo L le sc li ba ca) {w v i : Nat} (hw : w < mw) (hv : v < mw) (hwv : le w = le v) (hs : sc w = sc v) (ei : i = lcp (fun j => L (15 * w + j)) (fun j => L (15 * v + j)) (min (le w) (le v))) : ahd L sc w v = decide (lon L le w (nI i) < lon L le v (nI i)) := by
  obtain ⟨⟨hn, hm, hf⟩, ⟨hsg, hfo, hL, hle, hsc, hli, hba, hca⟩, hv1, hv2, hv3, hv4, hv5, hv6, hv7⟩ := id hI
  have hb := hle w
  have hb2 := hle v
  obtain ⟨s1, s2⟩ := lcp_spec (fun j => L (15 * w + j)) (fun j => L (15 * v + j)) (min (le w) (le v))
  have s0 := lcp_le (fun j => L (15 * w + j)) (fun j => L (15 * v + j)) (min (le w) (le v))
  rw [← ei] at s0 s1 s2
  by_cases q : i = min (le w) (le v)
  · have e1 : lcp (fun j => L (15 * w + j)) (fun j => L (15 * v + j)) 15 = 15 := lcp_at (Nat.le_refl _) (fun j hj => by
      by_cases z : j < le w
      · exact s1 j (by omega)
      · show L (15 * w + j) = L (15 * v + j)
        rw [hv5 w j (by omega) hj (Or.inr (by omega)), hv5 v j (by omega) hj (Or.inr (by omega))]) (Or.inl rfl)
    rw [ahd, if_pos hs, e1, lon_out (by omega) (by omega), lon_out (by omega) (by omega)]
    rfl
  · have e1 : lcp (fun j => L (15 * w + j)) (fun j => L (15 * v + j)) 15 = i := lcp_at (by omega) s1 (s2.elim (fun z => absurd z q) Or.inr)
    have a1 := hL (15 * w + i)
    have a2 := hL (15 * v + i)
    rw [ahd, if_pos hs, e1, lon_in (by omega) (hle w), lon_in (by omega) (hle v), decide_eq_true (show i < 15 by omega), Bool.true_and]
    simp only [nI_ltI (show L (15 * w + i) < 2 ^ 31 by omega) (show L (15 * v + i) < 2 ^ 31 by omega)]
def atP (L le ca : Nat → Nat) (x : Int32) (y k : Nat) : Bool := decide (lon L le (ca k) x = nI y)
def bgn (n : Nat) (sg fo L le li ba : Nat → Nat) (t w : Nat) : Bool := fre li ba t w && (decide (n ≤ le w) && mat n sg fo L w 0)
def edn (n : Nat) (sg fo L le li ba : Nat → Nat) (t w : Nat) : Bool := fre li ba t w && (decide (n ≤ le w) && mat n sg fo L w (le w - n))
def mnP (le li : Nat → Nat) (t : Nat) (y : Int32) (w : Nat) : Bool := inl li w t && decide (nI (le w) = y)
def mny (le li : Nat → Nat) (mw t : Nat) (y : Int32) : Int32 := if y < nI 1 ∨ nI 15 < y then -1 else nI (cnt (mnP le li t y) mw)
def ltF (L le li : Nat → Nat) (t y w : Nat) : Nat := if inl li w t = true then tiw L le y w else 0
def tel (le sc li ba : Nat → Nat) (w : Nat) (x : Int32) : Int32 := if x = nI 0 then nI (sc w) else if x = nI 1 then nI (li w) else if x = nI 2 then nI (ba w) else if x = nI 3 then nI (le w) else -1
def ffo (f : Nat) : Int32 := if f = 0 then -1 else nI (f - 1)
theorem ffo_z {f : Nat} (h : ffo f = -1) (hf : f ≤ 250) : f = 0 := by
  by_cases q : f = 0
  · exact q
  · rw [ffo, if_neg q] at h
    have := congrArg Int32.toInt h
    rw [nI_toInt (by omega)] at this
    have e1 : (-1 : Int32).toInt = -1 := by decide
    rw [e1] at this
    omega
def cmn (L le li ba : Nat → Nat) (t : Nat) : Nat → Nat × Nat
  | 0 => (0, 0)
  | w + 1 => match cmn L le li ba t w, fre li ba t w with
    | (f, k), true => if f = 0 then (w + 1, le w) else (f, min k (lcp (fun j => L (15 * (f - 1) + j)) (fun j => L (15 * w + j)) (min (le (f - 1)) (le w))))
    | (f, k), false => (f, k)
theorem tb_out4 {x : Int32} (h : ¬ x = nI 0 ∧ ¬ x = nI 1 ∧ ¬ x = nI 2 ∧ ¬ x = nI 3) : x.toInt < 0 ∨ (3 : Int) < x.toInt := by
  obtain ⟨h0, h1, h2, h3⟩ := h
  have n0 := lv_neT h0 (show (nI 0).toInt = 0 by decide)
  have n1 := lv_neT h1 (show (nI 1).toInt = 1 by decide)
  have n2 := lv_neT h2 (show (nI 2).toInt = 2 by decide)
  have n3 := lv_neT h3 (show (nI 3).toInt = 3 by decide)
  omega
set_option maxRecDepth 100000 in
theorem kX0_needLetter (l : Launch) (y : Nat) (hy : 97 ≤ y ∧ y ≤ 122) : rdv l yX0_needLetter cX0_needLetter 1 none 1 20 [.int (nI y)] (fun _ => True) := by
  refine rdv_ofW RX0 (by decide) rfl (Nat.le_of_ble_eq_true rfl) ?_
  intro p e s m below meth c S hr hlk hB ls hl
  have hl : lv_has ls 1 [(0, .int (nI y))] := hl
  refine lv_iload_n S.1 S.2.1 dX0_needLetter_0 rfl (lv_at hl 0 rfl) ?_
  refine rd_callS (As := [.int (nI y)]) (rest := []) S (kX0_isLetter l ((nI y))) tr_blind (fun _ _ _ => trivial) gX0_48 hdX0_isLetter (by decide) hl.1 rfl (Nat.le_of_ble_eq_true rfl) dX0_needLetter_1 ⟨Nat.zero_le _, Nat.zero_le _⟩ ?_
  rw [isL_n (by omega)]
  refine n_bif_ne (b := (decide (97 ≤ y) && decide (y < 123))) (tgt := 17) S dX0_needLetter_4 (by decide) (fun h4 => ?_) (fun h4 => ?_)
  · exact rdv_ret S hr hlk dX0_needLetter_17
  · exact absurd h4 (by simp; omega)

set_option maxRecDepth 100000 in
theorem kX0_needList (l : Launch) (t : Nat) (ht : t < 4) : rdv l yX0_needList cX0_needList 1 none 0 0 [.int (nI t)] (fun _ => True) := by
  refine rdv_ofW RX0 (by decide) rfl (Nat.le_of_ble_eq_true rfl) ?_
  intro p e s m below meth c S hr hlk hB ls hl
  have hl : lv_has ls 1 [(0, .int (nI t))] := hl
  refine lv_iload_n S.1 S.2.1 dX0_needList_0 rfl (lv_at hl 0 rfl) ?_
  refine n_if_lt (x := t) (tgt := 9) S dX0_needList_1 (by decide) (by omega) ?_
  refine lv_iload_n S.1 S.2.1 dX0_needList_4 rfl (lv_at hl 0 rfl) ?_
  refine lv_iconst (v := (nI 4)) S.1 S.2.1 dX0_needList_5 (by decide) ?_
  refine n_icmp_lt (x := t) (y := 4) (tgt := 19) S dX0_needList_6 (by decide) (by omega) (by omega) (fun h6 => ?_) (fun h6 => ?_)
  · exact rdv_ret S hr hlk dX0_needList_19
  · exact absurd ht (by omega)

set_option maxRecDepth 100000 in
theorem kX0_needWord (l : Launch) (dC : Nat → ClassId) (dI : Nat → Nat → Nat) (cI cZ cJ : ClassId) (a : Nat → Nat) (n mw nf : Nat) (sg fo L le sc li ba ca st : Nat → Nat) (w : Nat) (hI : iv n mw nf sg fo L le sc li ba ca) (hw : w < mw) : rdv l yX0_needWord cX0_needWord 2 none 0 0 [.ref (a 0), .int (nI w)] (rB dC dI cI cZ cJ (vX cI cZ a n mw nf sg fo L le sc li ba ca st)) := by
  refine rdv_ofW RX0 (by decide) rfl (Nat.le_of_ble_eq_true rfl) ?_
  intro p e s m below meth c S hr hlk hB ls hl
  obtain ⟨hP, hK⟩ := hB
  have hl : lv_has ls 2 [(0, .ref (a 0)), (1, .int (nI w))] := hl
  obtain ⟨⟨hn, hm, hf⟩, ⟨hsg, hfo, hL, hle, hsc, hli, hba, hca⟩, hv1, hv2, hv3, hv4, hv5, hv6, hv7⟩ := id hI
  refine lv_iload_n S.1 S.2.1 dX0_needWord_0 rfl (lv_at hl 1 rfl) ?_
  refine n_if_lt (x := w) (tgt := 12) S dX0_needWord_1 (by decide) (by omega) ?_
  refine lv_iload_n S.1 S.2.1 dX0_needWord_4 rfl (lv_at hl 1 rfl) ?_
  refine lv_aload_n S.1 S.2.1 dX0_needWord_5 rfl (lv_at hl 0 rfl) ?_
  refine fX0_wordCount (v := .int (nI mw)) S hK hP rfl rfl dX0_needWord_6 ?_
  refine n_icmp_lt (x := w) (y := mw) (tgt := 22) S dX0_needWord_9 (by decide) (by omega) (by omega) (fun h9 => ?_) (fun h9 => ?_)
  · exact rdv_ret S hr hlk dX0_needWord_22
  · exact absurd hw (by omega)

set_option maxRecDepth 100000 in
theorem lX0_timesInWord_5 (l : Launch) (dC : Nat → ClassId) (dI : Nat → Nat → Nat) (cI cZ cJ : ClassId) (a : Nat → Nat) (n mw nf : Nat) (sg fo L le sc li ba ca st : Nat → Nat) (w : Nat) (y : Nat) (hI : iv n mw nf sg fo L le sc li ba ca) (hw : w < 250) (hy : y ≤ 122)  {p : Program} {e : Env} {s : State} {m : MethodId} {below : List Frame} {meth : Method} {c : Code} (S : CallFix p m c cX0_timesInWord 5 s ([.ref (a 0), .int (nI w), .int (nI y)] : List Value).toArray tbG RX0) (hr : meth.sig.returnType = (some .int)) (hlk : meth.locks = false) (hK : va_K (dC, dI) vcl (vty cI cZ cJ) s) (hP : va_P (dC, dI) vcl (vX cI cZ a n mw nf sg fo L le sc li ba ca st) s.heap) :
    ∀ (fuel : Nat) (i : Nat) (k : Nat), le w - i < fuel → i ≤ le w → k = cnt (fun j => decide (L (15 * w + j) = y)) i → ∀ ls : Array Slot, lv_has ls 5 [(0, .ref (a 0)), (1, .int (nI w)), (2, .int (nI y)), (3, .int (nI k)), (4, .int (nI i))] → W p l e ({ frames := 1, cells := 0, slots := 0, locals := 22 } : Room) s m ([.ref (a 0), .int (nI w), .int (nI y)] : List Value).toArray below meth c s.heap [] 0 0 (MQ below (QcRead (nI (tiw L le y w))) [.ref (a 0), .int (nI w), .int (nI y)].toArray s 0 0 (fun _ => False)) (F0 m 5 ls []) := by
  obtain ⟨⟨hn, hm, hf⟩, ⟨hsg, hfo, hL, hle, hsc, hli, hba, hca⟩, hv1, hv2, hv3, hv4, hv5, hv6, hv7⟩ := id hI
  intro fuel
  induction fuel with
  | zero =>
    intro i k hq
    exact absurd hq (Nat.not_lt_zero _)
  | succ fuel ih =>
    intro i k hq hi hk ls hl
    have hlew := hle w
    have hki := cnt_le (fun j => decide (L (15 * w + j) = y)) i
    refine lv_iload S.1 S.2.1 dX0_timesInWord_5 (lv_at hl 4 rfl) ?_
    refine lv_aload_n S.1 S.2.1 dX0_timesInWord_7 rfl (lv_at hl 0 rfl) ?_
    refine fX0_wordLengths (v := .ref (a 4)) S hK hP rfl rfl dX0_timesInWord_8 ?_
    refine lv_iload_n S.1 S.2.1 dX0_timesInWord_11 rfl (lv_at hl 1 rfl) ?_
    refine n_iald S hK hP 4 0 rfl rfl dX0_timesInWord_12 (j := w) (by decide) (by omega) ?_
    have b12 := hle w
    refine n_icmp_ge (x := i) (y := le w) (tgt := 36) S dX0_timesInWord_13 (by decide) (by omega) (by omega) (fun h13 => ?_) (fun h13 => ?_)
    · refine lv_iload_n S.1 S.2.1 dX0_timesInWord_36 rfl (lv_at hl 3 rfl) ?_
      exact rd_ret S hr hlk (rfl) (by rw [hk, tiw, show le w = i by omega]) dX0_timesInWord_37
    · refine lv_aload_n S.1 S.2.1 dX0_timesInWord_16 rfl (lv_at hl 0 rfl) ?_
      refine lv_iload_n S.1 S.2.1 dX0_timesInWord_17 rfl (lv_at hl 1 rfl) ?_
      refine lv_iload S.1 S.2.1 dX0_timesInWord_18 (lv_at hl 4 rfl) ?_
      refine rd_callV (C := RX0) (As := [.int (nI w), .int (nI i)]) (rest := []) S (kX0_letterOrNone l dC dI cI cZ cJ a n mw nf sg fo L le sc li ba ca st w (nI i) hI (by omega)) rB_blind (fun U hU hW => ⟨by rw [hU]; exact hP, va_K.moved hW.alike hK⟩) (va_recv hK hP (ci := 0) (q0 := 0) rfl rfl) gX0_100 hdX0_letterOrNone (by decide) hl.1 rfl (Nat.le_of_ble_eq_true rfl) dX0_timesInWord_20 ⟨Nat.zero_le _, Nat.zero_le _⟩ ?_
      rw [lon_in (by omega) (hle w)]
      have b20 := hL (15 * w + i)
      refine lv_iload_n S.1 S.2.1 dX0_timesInWord_23 rfl (lv_at hl 2 rfl) ?_
      refine n_icmp_ne (x := L (15 * w + i)) (y := y) (tgt := 30) S dX0_timesInWord_24 (by decide) (by omega) (by omega) (fun h24 => ?_) (fun h24 => ?_)
      · refine n_iinc (lv' := [(4, .int (nI (i + 1))), (0, .ref (a 0)), (1, .int (nI w)), (2, .int (nI y)), (3, .int (nI k))]) (x := i) (k := 4) S dX0_timesInWord_30 hl rfl (by decide) rfl (fun ls hl => ?_)
        refine lv_goto (tgt := 5) S.1 S.2.1 dX0_timesInWord_33 (by decide) ?_
        exact ih (i + 1) k (by omega) (by omega) (by rw [cnt, ← hk]; first | (rw [decide_eq_true h24]; done) | (rw [decide_eq_true h24]; rfl) | (rw [decide_eq_false h24]; rfl)) ls (lv_sub hl [1, 2, 3, 4, 0] rfl)
      · have hP1 : (decide (L (15 * w + i) = y)).toNat = 1 := by rw [decide_eq_true h24]; rfl
        refine n_iinc (lv' := [(3, .int (nI (k + 1))), (0, .ref (a 0)), (1, .int (nI w)), (2, .int (nI y)), (4, .int (nI i))]) (x := k) (k := 3) S dX0_timesInWord_27 hl rfl (by decide) rfl (fun ls hl => ?_)
        refine n_iinc (lv' := [(4, .int (nI (i + 1))), (3, .int (nI (k + 1))), (0, .ref (a 0)), (1, .int (nI w)), (2, .int (nI y))]) (x := i) (k := 4) S dX0_timesInWord_30 hl rfl (by decide) rfl (fun ls hl => ?_)
        refine lv_goto (tgt := 5) S.1 S.2.1 dX0_timesInWord_33 (by decide) ?_
        exact ih (i + 1) (k + 1) (by omega) (by omega) (by rw [cnt, ← hk]; first | (rw [decide_eq_true h24]; done) | (rw [decide_eq_true h24]; rfl) | (rw [decide_eq_false h24]; rfl)) ls (lv_sub hl [2, 3, 4, 1, 0] rfl)
set_option maxRecDepth 100000 in
theorem kX0_timesInWord (l : Launch) (dC : Nat → ClassId) (dI : Nat → Nat → Nat) (cI cZ cJ : ClassId) (a : Nat → Nat) (n mw nf : Nat) (sg fo L le sc li ba ca st : Nat → Nat) (w : Nat) (y : Nat) (hI : iv n mw nf sg fo L le sc li ba ca) (hw : w < 250) (hy : y ≤ 122) : rd l yX0_timesInWord cX0_timesInWord 5 (some .int) 1 22 [.ref (a 0), .int (nI w), .int (nI y)] (rB dC dI cI cZ cJ (vX cI cZ a n mw nf sg fo L le sc li ba ca st)) (nI (tiw L le y w)) := by
  refine rd_ofW RX0 (by decide) rfl (Nat.le_of_ble_eq_true rfl) ?_
  intro p e s m below meth c S hr hlk hB ls hl
  obtain ⟨hP, hK⟩ := hB
  have hl : lv_has ls 5 [(0, .ref (a 0)), (1, .int (nI w)), (2, .int (nI y))] := hl
  obtain ⟨⟨hn, hm, hf⟩, ⟨hsg, hfo, hL, hle, hsc, hli, hba, hca⟩, hv1, hv2, hv3, hv4, hv5, hv6, hv7⟩ := id hI
  refine lv_iconst (v := (nI 0)) S.1 S.2.1 dX0_timesInWord_0 (by decide) ?_
  refine lv_istore_n (lv' := [(3, .int (nI 0)), (0, .ref (a 0)), (1, .int (nI w)), (2, .int (nI y))]) S.1 S.2.1 dX0_timesInWord_1 rfl hl (by decide) rfl (fun ls hl => ?_)
  refine lv_iconst (v := (nI 0)) S.1 S.2.1 dX0_timesInWord_2 (by decide) ?_
  refine lv_istore (lv' := [(4, .int (nI 0)), (3, .int (nI 0)), (0, .ref (a 0)), (1, .int (nI w)), (2, .int (nI y))]) S.1 S.2.1 dX0_timesInWord_3 hl (by decide) rfl (fun ls hl => ?_)
  exact lX0_timesInWord_5 l dC dI cI cZ cJ a n mw nf sg fo L le sc li ba ca st w y hI hw hy S hr hlk hK hP _ 0 0 (Nat.lt_succ_self _) (by omega) rfl ls (lv_sub hl [2, 3, 4, 1, 0] rfl)

set_option maxRecDepth 100000 in
theorem lX0_sharedBeginning_19 (l : Launch) (dC : Nat → ClassId) (dI : Nat → Nat → Nat) (cI cZ cJ : ClassId) (a : Nat → Nat) (n mw nf : Nat) (sg fo L le sc li ba ca st : Nat → Nat) (w : Nat) (v : Nat) (hI : iv n mw nf sg fo L le sc li ba ca) (hw : w < 250) (hvv : v < 250)  {p : Program} {e : Env} {s : State} {m : MethodId} {below : List Frame} {meth : Method} {c : Code} (S : CallFix p m c cX0_sharedBeginning 5 s ([.ref (a 0), .int (nI w), .int (nI v)] : List Value).toArray tbG RX0) (hr : meth.sig.returnType = (some .int)) (hlk : meth.locks = false) (hK : va_K (dC, dI) vcl (vty cI cZ cJ) s) (hP : va_P (dC, dI) vcl (vX cI cZ a n mw nf sg fo L le sc li ba ca st) s.heap) :
    ∀ (fuel : Nat) (i : Nat), min (le w) (le v) - i < fuel → i ≤ min (le w) (le v) → (∀ j, j < i → L (15 * w + j) = L (15 * v + j)) → ∀ ls : Array Slot, lv_has ls 5 [(0, .ref (a 0)), (1, .int (nI w)), (2, .int (nI v)), (3, .int (nI (min (le w) (le v)))), (4, .int (nI i))] → W p l e ({ frames := 1, cells := 0, slots := 0, locals := 22 } : Room) s m ([.ref (a 0), .int (nI w), .int (nI v)] : List Value).toArray below meth c s.heap [] 0 0 (MQ below (QcRead (nI (lcp (fun j => L (15 * w + j)) (fun j => L (15 * v + j)) (min (le w) (le v))))) [.ref (a 0), .int (nI w), .int (nI v)].toArray s 0 0 (fun _ => False)) (F0 m 19 ls []) := by
  obtain ⟨⟨hn, hm, hf⟩, ⟨hsg, hfo, hL, hle, hsc, hli, hba, hca⟩, hv1, hv2, hv3, hv4, hv5, hv6, hv7⟩ := id hI
  intro fuel
  induction fuel with
  | zero =>
    intro i hq
    exact absurd hq (Nat.not_lt_zero _)
  | succ fuel ih =>
    intro i hq hi hq1 ls hl
    have hlew := hle w
    have hlev := hle v
    refine lv_iload S.1 S.2.1 dX0_sharedBeginning_19 (lv_at hl 4 rfl) ?_
    refine lv_iload_n S.1 S.2.1 dX0_sharedBeginning_21 rfl (lv_at hl 3 rfl) ?_
    refine n_icmp_ge (x := i) (y := min (le w) (le v)) (tgt := 48) S dX0_sharedBeginning_22 (by decide) (by omega) (by omega) (fun h22 => ?_) (fun h22 => ?_)
    · refine lv_iload S.1 S.2.1 dX0_sharedBeginning_48 (lv_at hl 4 rfl) ?_
      exact rd_ret S hr hlk (rfl) (by rw [lcp_at (by omega) hq1 (by first | exact Or.inr h39 | exact Or.inl (by omega))]) dX0_sharedBeginning_50
    · refine lv_aload_n S.1 S.2.1 dX0_sharedBeginning_25 rfl (lv_at hl 0 rfl) ?_
      refine lv_iload_n S.1 S.2.1 dX0_sharedBeginning_26 rfl (lv_at hl 1 rfl) ?_
      refine lv_iload S.1 S.2.1 dX0_sharedBeginning_27 (lv_at hl 4 rfl) ?_
      refine rd_callV (C := RX0) (As := [.int (nI w), .int (nI i)]) (rest := []) S (kX0_letterOrNone l dC dI cI cZ cJ a n mw nf sg fo L le sc li ba ca st w (nI i) hI (by omega)) rB_blind (fun U hU hW => ⟨by rw [hU]; exact hP, va_K.moved hW.alike hK⟩) (va_recv hK hP (ci := 0) (q0 := 0) rfl rfl) gX0_100 hdX0_letterOrNone (by decide) hl.1 rfl (Nat.le_of_ble_eq_true rfl) dX0_sharedBeginning_29 ⟨Nat.zero_le _, Nat.zero_le _⟩ ?_
      rw [lon_in (by omega) (hle w)]
      have b29 := hL (15 * w + i)
      refine lv_aload_n S.1 S.2.1 dX0_sharedBeginning_32 rfl (lv_at hl 0 rfl) ?_
      refine lv_iload_n S.1 S.2.1 dX0_sharedBeginning_33 rfl (lv_at hl 2 rfl) ?_
      refine lv_iload S.1 S.2.1 dX0_sharedBeginning_34 (lv_at hl 4 rfl) ?_
      refine rd_callV (C := RX0) (As := [.int (nI v), .int (nI i)]) (rest := [.int (nI (L (15 * w + i)))]) S (kX0_letterOrNone l dC dI cI cZ cJ a n mw nf sg fo L le sc li ba ca st v (nI i) hI hvv) rB_blind (fun U hU hW => ⟨by rw [hU]; exact hP, va_K.moved hW.alike hK⟩) (va_recv hK hP (ci := 0) (q0 := 0) rfl rfl) gX0_100 hdX0_letterOrNone (by decide) hl.1 rfl (Nat.le_of_ble_eq_true rfl) dX0_sharedBeginning_36 ⟨Nat.zero_le _, Nat.zero_le _⟩ ?_
      rw [lon_in (by omega) (hle v)]
      have b36 := hL (15 * v + i)
      refine n_icmp_ne (x := L (15 * w + i)) (y := L (15 * v + i)) (tgt := 48) S dX0_sharedBeginning_39 (by decide) (by omega) (by omega) (fun h39 => ?_) (fun h39 => ?_)
      · refine lv_iload S.1 S.2.1 dX0_sharedBeginning_48 (lv_at hl 4 rfl) ?_
        exact rd_ret S hr hlk (rfl) (by rw [lcp_at (by omega) hq1 (by first | exact Or.inr h39 | exact Or.inl (by omega))]) dX0_sharedBeginning_50
      · refine n_iinc (lv' := [(4, .int (nI (i + 1))), (0, .ref (a 0)), (1, .int (nI w)), (2, .int (nI v)), (3, .int (nI (min (le w) (le v))))]) (x := i) (k := 4) S dX0_sharedBeginning_42 hl rfl (by decide) rfl (fun ls hl => ?_)
        refine lv_goto (tgt := 19) S.1 S.2.1 dX0_sharedBeginning_45 (by decide) ?_
        exact ih (i + 1) (by omega) (by omega) (lt_s hq1 h39) ls (lv_sub hl [1, 2, 3, 4, 0] rfl)
set_option maxRecDepth 100000 in
theorem kX0_sharedBeginning (l : Launch) (dC : Nat → ClassId) (dI : Nat → Nat → Nat) (cI cZ cJ : ClassId) (a : Nat → Nat) (n mw nf : Nat) (sg fo L le sc li ba ca st : Nat → Nat) (w : Nat) (v : Nat) (hI : iv n mw nf sg fo L le sc li ba ca) (hw : w < 250) (hvv : v < 250) : rd l yX0_sharedBeginning cX0_sharedBeginning 5 (some .int) 1 22 [.ref (a 0), .int (nI w), .int (nI v)] (rB dC dI cI cZ cJ (vX cI cZ a n mw nf sg fo L le sc li ba ca st)) (nI (lcp (fun j => L (15 * w + j)) (fun j => L (15 * v + j)) (min (le w) (le v)))) := by
  refine rd_ofW RX0 (by decide) rfl (Nat.le_of_ble_eq_true rfl) ?_
  intro p e s m below meth c S hr hlk hB ls hl
  obtain ⟨hP, hK⟩ := hB
  have hl : lv_has ls 5 [(0, .ref (a 0)), (1, .int (nI w)), (2, .int (nI v))] := hl
  obtain ⟨⟨hn, hm, hf⟩, ⟨hsg, hfo, hL, hle, hsc, hli, hba, hca⟩, hv1, hv2, hv3, hv4, hv5, hv6, hv7⟩ := id hI
  refine lv_aload_n S.1 S.2.1 dX0_sharedBeginning_0 rfl (lv_at hl 0 rfl) ?_
  refine fX0_wordLengths (v := .ref (a 4)) S hK hP rfl rfl dX0_sharedBeginning_1 ?_
  refine lv_iload_n S.1 S.2.1 dX0_sharedBeginning_4 rfl (lv_at hl 1 rfl) ?_
  refine n_iald S hK hP 4 0 rfl rfl dX0_sharedBeginning_5 (j := w) (by decide) (by omega) ?_
  have b5 := hle w
  refine lv_aload_n S.1 S.2.1 dX0_sharedBeginning_6 rfl (lv_at hl 0 rfl) ?_
  refine fX0_wordLengths (v := .ref (a 4)) S hK hP rfl rfl dX0_sharedBeginning_7 ?_
  refine lv_iload_n S.1 S.2.1 dX0_sharedBeginning_10 rfl (lv_at hl 2 rfl) ?_
  refine n_iald S hK hP 4 0 rfl rfl dX0_sharedBeginning_11 (j := v) (by decide) (by omega) ?_
  have b11 := hle v
  refine n_min (x := le w) (y := le v) S hl.1 (by decide) (Nat.le_of_ble_eq_true rfl) ⟨Nat.zero_le _, Nat.zero_le _⟩ (by omega) (by omega) dX0_sharedBeginning_12 ?_
  refine lv_istore_n (lv' := [(3, .int (nI (min (le w) (le v)))), (0, .ref (a 0)), (1, .int (nI w)), (2, .int (nI v))]) S.1 S.2.1 dX0_sharedBeginning_15 rfl hl (by decide) rfl (fun ls hl => ?_)
  refine lv_iconst (v := (nI 0)) S.1 S.2.1 dX0_sharedBeginning_16 (by decide) ?_
  refine lv_istore (lv' := [(4, .int (nI 0)), (3, .int (nI (min (le w) (le v)))), (0, .ref (a 0)), (1, .int (nI w)), (2, .int (nI v))]) S.1 S.2.1 dX0_sharedBeginning_17 hl (by decide) rfl (fun ls hl => ?_)
  exact lX0_sharedBeginning_19 l dC dI cI cZ cJ a n mw nf sg fo L le sc li ba ca st w v hI hw hvv S hr hlk hK hP _ 0 (Nat.lt_succ_self _) (by omega) (fun j hj => absurd hj (Nat.not_lt_zero j)) ls (lv_sub hl [2, 3, 4, 1, 0] rfl)

set_option maxRecDepth 100000 in
theorem kX0_isAhead (l : Launch) (dC : Nat → ClassId) (dI : Nat → Nat → Nat) (cI cZ cJ : ClassId) (a : Nat → Nat) (n mw nf : Nat) (sg fo L le sc li ba ca st : Nat → Nat) (w : Nat) (v : Nat) (hI : iv n mw nf sg fo L le sc li ba ca) (hw : w < mw) (hvv : v < mw) (hwv : le w = le v) : rd l yX0_isAhead cX0_isAhead 4 (some .boolean) 2 46 [.ref (a 0), .int (nI w), .int (nI v)] (rB dC dI cI cZ cJ (vX cI cZ a n mw nf sg fo L le sc li ba ca st)) (nI (ahd L sc w v).toNat) := by
  refine rd_ofW RX0 (by decide) rfl (Nat.le_of_ble_eq_true rfl) ?_
  intro p e s m below meth c S hr hlk hB ls hl
  obtain ⟨hP, hK⟩ := hB
  have hl : lv_has ls 4 [(0, .ref (a 0)), (1, .int (nI w)), (2, .int (nI v))] := hl
  obtain ⟨⟨hn, hm, hf⟩, ⟨hsg, hfo, hL, hle, hsc, hli, hba, hca⟩, hv1, hv2, hv3, hv4, hv5, hv6, hv7⟩ := id hI
  refine lv_aload_n S.1 S.2.1 dX0_isAhead_0 rfl (lv_at hl 0 rfl) ?_
  refine fX0_wordScores (v := .ref (a 5)) S hK hP rfl rfl dX0_isAhead_1 ?_
  refine lv_iload_n S.1 S.2.1 dX0_isAhead_4 rfl (lv_at hl 1 rfl) ?_
  refine n_iald S hK hP 5 0 rfl rfl dX0_isAhead_5 (j := w) (by decide) (by omega) ?_
  have b5 := hsc w
  refine lv_aload_n S.1 S.2.1 dX0_isAhead_6 rfl (lv_at hl 0 rfl) ?_
  refine fX0_wordScores (v := .ref (a 5)) S hK hP rfl rfl dX0_isAhead_7 ?_
  refine lv_iload_n S.1 S.2.1 dX0_isAhead_10 rfl (lv_at hl 2 rfl) ?_
  refine n_iald S hK hP 5 0 rfl rfl dX0_isAhead_11 (j := v) (by decide) (by omega) ?_
  have b11 := hsc v
  refine n_icmp_eq (x := sc w) (y := sc v) (tgt := 36) S dX0_isAhead_12 (by decide) (by omega) (by omega) (fun h12 => ?_) (fun h12 => ?_)
  · refine lv_aload_n S.1 S.2.1 dX0_isAhead_36 rfl (lv_at hl 0 rfl) ?_
    refine lv_iload_n S.1 S.2.1 dX0_isAhead_37 rfl (lv_at hl 1 rfl) ?_
    refine lv_iload_n S.1 S.2.1 dX0_isAhead_38 rfl (lv_at hl 2 rfl) ?_
    refine rd_callV (C := RX0) (As := [.int (nI w), .int (nI v)]) (rest := []) S (kX0_sharedBeginning l dC dI cI cZ cJ a n mw nf sg fo L le sc li ba ca st w v hI (by omega) (by omega)) rB_blind (fun U hU hW => ⟨by rw [hU]; exact hP, va_K.moved hW.alike hK⟩) (va_recv hK hP (ci := 0) (q0 := 0) rfl rfl) gX0_115 hdX0_sharedBeginning (by decide) hl.1 rfl (Nat.le_of_ble_eq_true rfl) dX0_isAhead_39 ⟨Nat.zero_le _, Nat.zero_le _⟩ ?_
    obtain ⟨i, ei⟩ : ∃ i, i = lcp (fun j => L (15 * w + j)) (fun j => L (15 * v + j)) (min (le w) (le v)) := ⟨_, rfl⟩
    rw [← ei]
    have hle1 := hle w
    refine lv_istore_n (lv' := [(3, .int (nI i)), (0, .ref (a 0)), (1, .int (nI w)), (2, .int (nI v))]) S.1 S.2.1 dX0_isAhead_42 rfl hl (by decide) rfl (fun ls hl => ?_)
    refine lv_aload_n S.1 S.2.1 dX0_isAhead_43 rfl (lv_at hl 1 rfl) ?_
    refine lv_iload_n S.1 S.2.1 dX0_isAhead_44 rfl (lv_at hl 2 rfl) ?_
    refine lv_iload_n S.1 S.2.1 dX0_isAhead_45 rfl (lv_at hl 0 rfl) ?_
    refine rd_callV (C := RX0) (As := [.int (nI w), .int (nI i)]) (rest := []) S (kX0_letterOrNone l dC dI cI cZ cJ a n mw nf sg fo L le sc li ba ca st w (nI i) hI (by omega)) rB_blind (fun U hU hW => ⟨by rw [hU]; exact hP, va_K.moved hW.alike hK⟩) (va_recv hK hP (ci := 0) (q0 := 0) rfl rfl) gX0_100 hdX0_letterOrNone (by decide) hl.1 rfl (Nat.le_of_ble_eq_true rfl) dX0_isAhead_46 ⟨Nat.zero_le _, Nat.zero_le _⟩ ?_
    refine lv_aload_n S.1 S.2.1 dX0_isAhead_49 rfl (lv_at hl 1 rfl) ?_
    refine lv_iload_n S.1 S.2.1 dX0_isAhead_50 rfl (lv_at hl 3 rfl) ?_
    refine lv_iload_n S.1 S.2.1 dX0_isAhead_51 rfl (lv_at hl 0 rfl) ?_
    refine rd_callV (C := RX0) (As := [.int (nI v), .int (nI i)]) (rest := [.int (lon L le w (nI i))]) S (kX0_letterOrNone l dC dI cI cZ cJ a n mw nf sg fo L le sc li ba ca st v (nI i) hI (by omega)) rB_blind (fun U hU hW => ⟨by rw [hU]; exact hP, va_K.moved hW.alike hK⟩) (va_recv hK hP (ci := 0) (q0 := 0) rfl rfl) gX0_100 hdX0_letterOrNone (by decide) hl.1 rfl (Nat.le_of_ble_eq_true rfl) dX0_isAhead_52 ⟨Nat.zero_le _, Nat.zero_le _⟩ ?_
    refine lv_icmp_ge (tgt := 62) S.1 S.2.1 dX0_isAhead_55 (by decide) (fun h55 => ?_) (fun h55 => ?_)
    · refine lv_iconst (v := (nI 0)) S.1 S.2.1 dX0_isAhead_62 (by decide) ?_
      exact rd_ret S hr hlk (rfl) (by rw [ahd_eq hI hw hvv hwv h12 ei]; first | (rw [decide_eq_true (Int32.not_le.mp h55)]; rfl) | (rw [decide_eq_false (Int32.not_lt.mpr h55)]; rfl)) dX0_isAhead_63
    · refine lv_iconst (v := (nI 1)) S.1 S.2.1 dX0_isAhead_58 (by decide) ?_
      refine lv_goto (tgt := 63) S.1 S.2.1 dX0_isAhead_59 (by decide) ?_
      exact rd_ret S hr hlk (rfl) (by rw [ahd_eq hI hw hvv hwv h12 ei]; first | (rw [decide_eq_true (Int32.not_le.mp h55)]; rfl) | (rw [decide_eq_false (Int32.not_lt.mpr h55)]; rfl)) dX0_isAhead_63
  · refine lv_aload_n S.1 S.2.1 dX0_isAhead_15 rfl (lv_at hl 0 rfl) ?_
    refine fX0_wordScores (v := .ref (a 5)) S hK hP rfl rfl dX0_isAhead_16 ?_
    refine lv_iload_n S.1 S.2.1 dX0_isAhead_19 rfl (lv_at hl 1 rfl) ?_
    refine n_iald S hK hP 5 0 rfl rfl dX0_isAhead_20 (j := w) (by decide) (by omega) ?_
    have b20 := hsc w
    refine lv_aload_n S.1 S.2.1 dX0_isAhead_21 rfl (lv_at hl 0 rfl) ?_
    refine fX0_wordScores (v := .ref (a 5)) S hK hP rfl rfl dX0_isAhead_22 ?_
    refine lv_iload_n S.1 S.2.1 dX0_isAhead_25 rfl (lv_at hl 2 rfl) ?_
    refine n_iald S hK hP 5 0 rfl rfl dX0_isAhead_26 (j := v) (by decide) (by omega) ?_
    have b26 := hsc v
    refine n_icmp_le (x := sc w) (y := sc v) (tgt := 34) S dX0_isAhead_27 (by decide) (by omega) (by omega) (fun h27 => ?_) (fun h27 => ?_)
    · refine lv_iconst (v := (nI 0)) S.1 S.2.1 dX0_isAhead_34 (by decide) ?_
      exact rd_ret S hr hlk (rfl) (by first | (rw [ahd, if_neg h12, decide_eq_true (by omega)]; rfl) | (rw [ahd, if_neg h12, decide_eq_false (by omega)]; rfl)) dX0_isAhead_35
    · refine lv_iconst (v := (nI 1)) S.1 S.2.1 dX0_isAhead_30 (by decide) ?_
      refine lv_goto (tgt := 35) S.1 S.2.1 dX0_isAhead_31 (by decide) ?_
      exact rd_ret S hr hlk (rfl) (by first | (rw [ahd, if_neg h12, decide_eq_true (by omega)]; rfl) | (rw [ahd, if_neg h12, decide_eq_false (by omega)]; rfl)) dX0_isAhead_35

set_option maxRecDepth 100000 in
theorem kX0_candidate (l : Launch) (dC : Nat → ClassId) (dI : Nat → Nat → Nat) (cI cZ cJ : ClassId) (a : Nat → Nat) (n mw nf : Nat) (sg fo L le sc li ba ca st : Nat → Nat) (k : Nat) (hI : iv n mw nf sg fo L le sc li ba ca) (hk : k < nf) : rd l yX0_candidate cX0_candidate 2 (some .int) 0 0 [.ref (a 0), .int (nI k)] (rB dC dI cI cZ cJ (vX cI cZ a n mw nf sg fo L le sc li ba ca st)) (nI (ca k)) := by
  refine rd_ofW RX0 (by decide) rfl (Nat.le_of_ble_eq_true rfl) ?_
  intro p e s m below meth c S hr hlk hB ls hl
  obtain ⟨hP, hK⟩ := hB
  have hl : lv_has ls 2 [(0, .ref (a 0)), (1, .int (nI k))] := hl
  obtain ⟨⟨hn, hm, hf⟩, ⟨hsg, hfo, hL, hle, hsc, hli, hba, hca⟩, hv1, hv2, hv3, hv4, hv5, hv6, hv7⟩ := id hI
  refine lv_iload_n S.1 S.2.1 dX0_candidate_0 rfl (lv_at hl 1 rfl) ?_
  refine n_if_lt (x := k) (tgt := 12) S dX0_candidate_1 (by decide) (by omega) ?_
  refine lv_iload_n S.1 S.2.1 dX0_candidate_4 rfl (lv_at hl 1 rfl) ?_
  refine lv_aload_n S.1 S.2.1 dX0_candidate_5 rfl (lv_at hl 0 rfl) ?_
  refine fX0_candidateCount (v := .int (nI nf)) S hK hP rfl rfl dX0_candidate_6 ?_
  refine n_icmp_lt (x := k) (y := nf) (tgt := 22) S dX0_candidate_9 (by decide) (by omega) (by omega) (fun h9 => ?_) (fun h9 => ?_)
  · refine lv_aload_n S.1 S.2.1 dX0_candidate_22 rfl (lv_at hl 0 rfl) ?_
    refine fX0_candidates (v := .ref (a 8)) S hK hP rfl rfl dX0_candidate_23 ?_
    refine lv_iload_n S.1 S.2.1 dX0_candidate_26 rfl (lv_at hl 1 rfl) ?_
    refine n_iald S hK hP 8 0 rfl rfl dX0_candidate_27 (j := k) (by decide) (by omega) ?_
    have b27 := hca k
    exact rd_ret S hr hlk (rfl) (rfl) dX0_candidate_28
  · exact absurd hk (by omega)

set_option maxRecDepth 100000 in
theorem lX0_at_9 (l : Launch) (dC : Nat → ClassId) (dI : Nat → Nat → Nat) (cI cZ cJ : ClassId) (a : Nat → Nat) (n mw nf : Nat) (sg fo L le sc li ba ca st : Nat → Nat) (x : Int32) (y : Nat) (hI : iv n mw nf sg fo L le sc li ba ca) (hy : 97 ≤ y ∧ y ≤ 122)  {p : Program} {e : Env} {s : State} {m : MethodId} {below : List Frame} {meth : Method} {c : Code} (S : CallFix p m c cX0_at 5 s ([.ref (a 0), .int x, .int (nI y)] : List Value).toArray tbG RX0) (hr : meth.sig.returnType = (some .int)) (hlk : meth.locks = false) (hK : va_K (dC, dI) vcl (vty cI cZ cJ) s) (hP : va_P (dC, dI) vcl (vX cI cZ a n mw nf sg fo L le sc li ba ca st) s.heap) :
    ∀ (fuel : Nat) (i : Nat) (k : Nat), nf - i < fuel → i ≤ nf → k = cnt (atP L le ca x y) i → ∀ ls : Array Slot, lv_has ls 5 [(0, .ref (a 0)), (1, .int x), (2, .int (nI y)), (3, .int (nI k)), (4, .int (nI i))] → W p l e ({ frames := 2, cells := 0, slots := 0, locals := 40 } : Room) s m ([.ref (a 0), .int x, .int (nI y)] : List Value).toArray below meth c s.heap [] 0 0 (MQ below (QcRead (nI (cnt (atP L le ca x y) nf))) [.ref (a 0), .int x, .int (nI y)].toArray s 0 0 (fun _ => False)) (F0 m 9 ls []) := by
  obtain ⟨⟨hn, hm, hf⟩, ⟨hsg, hfo, hL, hle, hsc, hli, hba, hca⟩, hv1, hv2, hv3, hv4, hv5, hv6, hv7⟩ := id hI
  intro fuel
  induction fuel with
  | zero =>
    intro i k hq
    exact absurd hq (Nat.not_lt_zero _)
  | succ fuel ih =>
    intro i k hq hi hk ls hl
    have hki := cnt_le (atP L le ca x y) i
    refine lv_iload S.1 S.2.1 dX0_at_9 (lv_at hl 4 rfl) ?_
    refine lv_aload_n S.1 S.2.1 dX0_at_11 rfl (lv_at hl 0 rfl) ?_
    refine fX0_candidateCount (v := .int (nI nf)) S hK hP rfl rfl dX0_at_12 ?_
    refine n_icmp_ge (x := i) (y := nf) (tgt := 43) S dX0_at_15 (by decide) (by omega) (by omega) (fun h15 => ?_) (fun h15 => ?_)
    · refine lv_iload_n S.1 S.2.1 dX0_at_43 rfl (lv_at hl 3 rfl) ?_
      exact rd_ret S hr hlk (rfl) (by rw [hk, show i = nf by omega]) dX0_at_44
    · refine lv_aload_n S.1 S.2.1 dX0_at_18 rfl (lv_at hl 0 rfl) ?_
      refine lv_aload_n S.1 S.2.1 dX0_at_19 rfl (lv_at hl 0 rfl) ?_
      refine fX0_candidates (v := .ref (a 8)) S hK hP rfl rfl dX0_at_20 ?_
      refine lv_iload S.1 S.2.1 dX0_at_23 (lv_at hl 4 rfl) ?_
      refine n_iald S hK hP 8 0 rfl rfl dX0_at_25 (j := i) (by decide) (by omega) ?_
      have b25 := hca i
      refine lv_iload_n S.1 S.2.1 dX0_at_26 rfl (lv_at hl 1 rfl) ?_
      refine rd_callV (C := RX0) (As := [.int (nI (ca i)), .int x]) (rest := []) S (kX0_letterOrNone l dC dI cI cZ cJ a n mw nf sg fo L le sc li ba ca st (ca i) x hI (hca i)) rB_blind (fun U hU hW => ⟨by rw [hU]; exact hP, va_K.moved hW.alike hK⟩) (va_recv hK hP (ci := 0) (q0 := 0) rfl rfl) gX0_100 hdX0_letterOrNone (by decide) hl.1 rfl (Nat.le_of_ble_eq_true rfl) dX0_at_27 ⟨Nat.zero_le _, Nat.zero_le _⟩ ?_
      refine lv_iload_n S.1 S.2.1 dX0_at_30 rfl (lv_at hl 2 rfl) ?_
      refine lv_icmp_ne (tgt := 37) S.1 S.2.1 dX0_at_31 (by decide) (fun h31 => ?_) (fun h31 => ?_)
      · refine n_iinc (lv' := [(4, .int (nI (i + 1))), (0, .ref (a 0)), (1, .int x), (2, .int (nI y)), (3, .int (nI k))]) (x := i) (k := 4) S dX0_at_37 hl rfl (by decide) rfl (fun ls hl => ?_)
        refine lv_goto (tgt := 9) S.1 S.2.1 dX0_at_40 (by decide) ?_
        exact ih (i + 1) k (by omega) (by omega) (by rw [cnt, ← hk, atP]; first | (rw [decide_eq_true (Classical.not_not.mp h31)]; done) | (rw [decide_eq_true h31]; done) | (rw [decide_eq_true h31]; rfl) | (rw [decide_eq_false h31]; rfl)) ls (lv_sub hl [1, 2, 3, 4, 0] rfl)
      · refine n_iinc (lv' := [(3, .int (nI (k + 1))), (0, .ref (a 0)), (1, .int x), (2, .int (nI y)), (4, .int (nI i))]) (x := k) (k := 3) S dX0_at_34 hl rfl (by decide) rfl (fun ls hl => ?_)
        refine n_iinc (lv' := [(4, .int (nI (i + 1))), (3, .int (nI (k + 1))), (0, .ref (a 0)), (1, .int x), (2, .int (nI y))]) (x := i) (k := 4) S dX0_at_37 hl rfl (by decide) rfl (fun ls hl => ?_)
        refine lv_goto (tgt := 9) S.1 S.2.1 dX0_at_40 (by decide) ?_
        exact ih (i + 1) (k + 1) (by omega) (by omega) (by rw [cnt, ← hk, atP]; first | (rw [decide_eq_true (Classical.not_not.mp h31)]; done) | (rw [decide_eq_true h31]; done) | (rw [decide_eq_true h31]; rfl) | (rw [decide_eq_false h31]; rfl)) ls (lv_sub hl [2, 3, 4, 1, 0] rfl)
set_option maxRecDepth 100000 in
theorem kX0_at (l : Launch) (dC : Nat → ClassId) (dI : Nat → Nat → Nat) (cI cZ cJ : ClassId) (a : Nat → Nat) (n mw nf : Nat) (sg fo L le sc li ba ca st : Nat → Nat) (x : Int32) (y : Nat) (hI : iv n mw nf sg fo L le sc li ba ca) (hy : 97 ≤ y ∧ y ≤ 122) : rd l yX0_at cX0_at 5 (some .int) 2 40 [.ref (a 0), .int x, .int (nI y)] (rB dC dI cI cZ cJ (vX cI cZ a n mw nf sg fo L le sc li ba ca st)) (nI (cnt (atP L le ca x y) nf)) := by
  refine rd_ofW RX0 (by decide) rfl (Nat.le_of_ble_eq_true rfl) ?_
  intro p e s m below meth c S hr hlk hB ls hl
  obtain ⟨hP, hK⟩ := hB
  have hl : lv_has ls 5 [(0, .ref (a 0)), (1, .int x), (2, .int (nI y))] := hl
  obtain ⟨⟨hn, hm, hf⟩, ⟨hsg, hfo, hL, hle, hsc, hli, hba, hca⟩, hv1, hv2, hv3, hv4, hv5, hv6, hv7⟩ := id hI
  refine lv_iload_n S.1 S.2.1 dX0_at_0 rfl (lv_at hl 2 rfl) ?_
  refine rdv_callS (As := [.int (nI y)]) (rest := []) S (kX0_needLetter l y hy) tr_blind (fun _ _ _ => trivial) gX0_52 hdX0_needLetter (by decide) hl.1 rfl (Nat.le_of_ble_eq_true rfl) dX0_at_1 ⟨Nat.zero_le _, Nat.zero_le _⟩ ?_
  refine lv_iconst (v := (nI 0)) S.1 S.2.1 dX0_at_4 (by decide) ?_
  refine lv_istore_n (lv' := [(3, .int (nI 0)), (0, .ref (a 0)), (1, .int x), (2, .int (nI y))]) S.1 S.2.1 dX0_at_5 rfl hl (by decide) rfl (fun ls hl => ?_)
  refine lv_iconst (v := (nI 0)) S.1 S.2.1 dX0_at_6 (by decide) ?_
  refine lv_istore (lv' := [(4, .int (nI 0)), (3, .int (nI 0)), (0, .ref (a 0)), (1, .int x), (2, .int (nI y))]) S.1 S.2.1 dX0_at_7 hl (by decide) rfl (fun ls hl => ?_)
  exact lX0_at_9 l dC dI cI cZ cJ a n mw nf sg fo L le sc li ba ca st x y hI hy S hr hlk hK hP _ 0 0 (Nat.lt_succ_self _) (by omega) rfl ls (lv_sub hl [2, 3, 4, 1, 0] rfl)

set_option maxRecDepth 100000 in
theorem lX0_begins_8 (l : Launch) (dC : Nat → ClassId) (dI : Nat → Nat → Nat) (cI cZ cJ : ClassId) (a : Nat → Nat) (n mw nf : Nat) (sg fo L le sc li ba ca st : Nat → Nat) (t : Nat) (hI : iv n mw nf sg fo L le sc li ba ca) (ht : t < 4)  {p : Program} {e : Env} {s : State} {m : MethodId} {below : List Frame} {meth : Method} {c : Code} (S : CallFix p m c cX0_begins 4 s ([.ref (a 0), .int (nI t)] : List Value).toArray tbG RX0) (hr : meth.sig.returnType = (some .int)) (hlk : meth.locks = false) (hK : va_K (dC, dI) vcl (vty cI cZ cJ) s) (hP : va_P (dC, dI) vcl (vX cI cZ a n mw nf sg fo L le sc li ba ca st) s.heap) :
    ∀ (fuel : Nat) (i : Nat) (k : Nat), mw - i < fuel → i ≤ mw → k = cnt (bgn n sg fo L le li ba t) i → ∀ ls : Array Slot, lv_has ls 4 [(0, .ref (a 0)), (1, .int (nI t)), (2, .int (nI k)), (3, .int (nI i))] → W p l e ({ frames := 3, cells := 0, slots := 0, locals := 66 } : Room) s m ([.ref (a 0), .int (nI t)] : List Value).toArray below meth c s.heap [] 0 0 (MQ below (QcRead (nI (cnt (bgn n sg fo L le li ba t) mw))) [.ref (a 0), .int (nI t)].toArray s 0 0 (fun _ => False)) (F0 m 8 ls []) := by
  obtain ⟨⟨hn, hm, hf⟩, ⟨hsg, hfo, hL, hle, hsc, hli, hba, hca⟩, hv1, hv2, hv3, hv4, hv5, hv6, hv7⟩ := id hI
  intro fuel
  induction fuel with
  | zero =>
    intro i k hq
    exact absurd hq (Nat.not_lt_zero _)
  | succ fuel ih =>
    intro i k hq hi hk ls hl
    have hki := cnt_le (bgn n sg fo L le li ba t) i
    have hlei := hle i
    refine lv_iload_n S.1 S.2.1 dX0_begins_8 rfl (lv_at hl 3 rfl) ?_
    refine lv_aload_n S.1 S.2.1 dX0_begins_9 rfl (lv_at hl 0 rfl) ?_
    refine fX0_wordCount (v := .int (nI mw)) S hK hP rfl rfl dX0_begins_10 ?_
    refine n_icmp_ge (x := i) (y := mw) (tgt := 43) S dX0_begins_13 (by decide) (by omega) (by omega) (fun h13 => ?_) (fun h13 => ?_)
    · refine lv_iload_n S.1 S.2.1 dX0_begins_43 rfl (lv_at hl 2 rfl) ?_
      exact rd_ret S hr hlk (rfl) (by rw [hk, show i = mw by omega]) dX0_begins_44
    · refine lv_aload_n S.1 S.2.1 dX0_begins_16 rfl (lv_at hl 0 rfl) ?_
      refine lv_iload_n S.1 S.2.1 dX0_begins_17 rfl (lv_at hl 3 rfl) ?_
      refine lv_iload_n S.1 S.2.1 dX0_begins_18 rfl (lv_at hl 1 rfl) ?_
      refine rd_callV (C := RX0) (As := [.int (nI i), .int (nI t)]) (rest := []) S (kX0_isFreeIn l dC dI cI cZ cJ a n mw nf sg fo L le sc li ba ca st i t hI (by omega) ht) rB_blind (fun U hU hW => ⟨by rw [hU]; exact hP, va_K.moved hW.alike hK⟩) (va_recv hK hP (ci := 0) (q0 := 0) rfl rfl) gX0_87 hdX0_isFreeIn (by decide) hl.1 rfl (Nat.le_of_ble_eq_true rfl) dX0_begins_19 ⟨Nat.zero_le _, Nat.zero_le _⟩ ?_
      refine n_bif_eq (b := fre li ba t i) (tgt := 37) S dX0_begins_22 (by decide) (fun h22 => ?_) (fun h22 => ?_)
      · refine n_iinc (lv' := [(3, .int (nI (i + 1))), (0, .ref (a 0)), (1, .int (nI t)), (2, .int (nI k))]) (x := i) (k := 3) S dX0_begins_37 hl rfl (by decide) rfl (fun ls hl => ?_)
        refine lv_goto (tgt := 8) S.1 S.2.1 dX0_begins_40 (by decide) ?_
        exact ih (i + 1) k (by omega) (by omega) (by rw [cnt, ← hk, bgn, h22]; first | (rw [Nat.zero_add] at h31; rw [h31]; rfl) | rfl) ls (lv_sub hl [1, 2, 3, 0] rfl)
      · refine lv_aload_n S.1 S.2.1 dX0_begins_25 rfl (lv_at hl 0 rfl) ?_
        refine lv_iload_n S.1 S.2.1 dX0_begins_26 rfl (lv_at hl 3 rfl) ?_
        refine lv_iconst (v := (nI 0)) S.1 S.2.1 dX0_begins_27 (by decide) ?_
        refine rd_callV (C := RX0) (As := [.int (nI i), .int (nI 0)]) (rest := []) S (kX0_hasRowAt l dC dI cI cZ cJ a n mw nf sg fo L le sc li ba ca st i 0 hI (by omega) (by omega)) rB_blind (fun U hU hW => ⟨by rw [hU]; exact hP, va_K.moved hW.alike hK⟩) (va_recv hK hP (ci := 0) (q0 := 0) rfl rfl) gX0_103 hdX0_hasRowAt (by decide) hl.1 rfl (Nat.le_of_ble_eq_true rfl) dX0_begins_28 ⟨Nat.zero_le _, Nat.zero_le _⟩ ?_
        refine n_bif_eq (b := (decide (0 + n ≤ le i) && mat n sg fo L i 0)) (tgt := 37) S dX0_begins_31 (by decide) (fun h31 => ?_) (fun h31 => ?_)
        · refine n_iinc (lv' := [(3, .int (nI (i + 1))), (0, .ref (a 0)), (1, .int (nI t)), (2, .int (nI k))]) (x := i) (k := 3) S dX0_begins_37 hl rfl (by decide) rfl (fun ls hl => ?_)
          refine lv_goto (tgt := 8) S.1 S.2.1 dX0_begins_40 (by decide) ?_
          exact ih (i + 1) k (by omega) (by omega) (by rw [cnt, ← hk, bgn, h22]; first | (rw [Nat.zero_add] at h31; rw [h31]; rfl) | rfl) ls (lv_sub hl [1, 2, 3, 0] rfl)
        · refine n_iinc (lv' := [(2, .int (nI (k + 1))), (0, .ref (a 0)), (1, .int (nI t)), (3, .int (nI i))]) (x := k) (k := 2) S dX0_begins_34 hl rfl (by decide) rfl (fun ls hl => ?_)
          refine n_iinc (lv' := [(3, .int (nI (i + 1))), (2, .int (nI (k + 1))), (0, .ref (a 0)), (1, .int (nI t))]) (x := i) (k := 3) S dX0_begins_37 hl rfl (by decide) rfl (fun ls hl => ?_)
          refine lv_goto (tgt := 8) S.1 S.2.1 dX0_begins_40 (by decide) ?_
          exact ih (i + 1) (k + 1) (by omega) (by omega) (by rw [cnt, ← hk, bgn, h22]; first | (rw [Nat.zero_add] at h31; rw [h31]; rfl) | rfl) ls (lv_sub hl [2, 3, 1, 0] rfl)
set_option maxRecDepth 100000 in
theorem kX0_begins (l : Launch) (dC : Nat → ClassId) (dI : Nat → Nat → Nat) (cI cZ cJ : ClassId) (a : Nat → Nat) (n mw nf : Nat) (sg fo L le sc li ba ca st : Nat → Nat) (t : Nat) (hI : iv n mw nf sg fo L le sc li ba ca) (ht : t < 4) : rd l yX0_begins cX0_begins 4 (some .int) 3 66 [.ref (a 0), .int (nI t)] (rB dC dI cI cZ cJ (vX cI cZ a n mw nf sg fo L le sc li ba ca st)) (nI (cnt (bgn n sg fo L le li ba t) mw)) := by
  refine rd_ofW RX0 (by decide) rfl (Nat.le_of_ble_eq_true rfl) ?_
  intro p e s m below meth c S hr hlk hB ls hl
  obtain ⟨hP, hK⟩ := hB
  have hl : lv_has ls 4 [(0, .ref (a 0)), (1, .int (nI t))] := hl
  obtain ⟨⟨hn, hm, hf⟩, ⟨hsg, hfo, hL, hle, hsc, hli, hba, hca⟩, hv1, hv2, hv3, hv4, hv5, hv6, hv7⟩ := id hI
  refine lv_iload_n S.1 S.2.1 dX0_begins_0 rfl (lv_at hl 1 rfl) ?_
  refine rdv_callS (As := [.int (nI t)]) (rest := []) S (kX0_needList l t ht) tr_blind (fun _ _ _ => trivial) gX0_56 hdX0_needList (by decide) hl.1 rfl (Nat.le_of_ble_eq_true rfl) dX0_begins_1 ⟨Nat.zero_le _, Nat.zero_le _⟩ ?_
  refine lv_iconst (v := (nI 0)) S.1 S.2.1 dX0_begins_4 (by decide) ?_
  refine lv_istore_n (lv' := [(2, .int (nI 0)), (0, .ref (a 0)), (1, .int (nI t))]) S.1 S.2.1 dX0_begins_5 rfl hl (by decide) rfl (fun ls hl => ?_)
  refine lv_iconst (v := (nI 0)) S.1 S.2.1 dX0_begins_6 (by decide) ?_
  refine lv_istore_n (lv' := [(3, .int (nI 0)), (2, .int (nI 0)), (0, .ref (a 0)), (1, .int (nI t))]) S.1 S.2.1 dX0_begins_7 rfl hl (by decide) rfl (fun ls hl => ?_)
  exact lX0_begins_8 l dC dI cI cZ cJ a n mw nf sg fo L le sc li ba ca st t hI ht S hr hlk hK hP _ 0 0 (Nat.lt_succ_self _) (by omega) rfl ls (lv_sub hl [2, 3, 1, 0] rfl)

set_option maxRecDepth 100000 in
theorem lX0_ends_8 (l : Launch) (dC : Nat → ClassId) (dI : Nat → Nat → Nat) (cI cZ cJ : ClassId) (a : Nat → Nat) (n mw nf : Nat) (sg fo L le sc li ba ca st : Nat → Nat) (t : Nat) (hI : iv n mw nf sg fo L le sc li ba ca) (ht : t < 4)  {p : Program} {e : Env} {s : State} {m : MethodId} {below : List Frame} {meth : Method} {c : Code} (S : CallFix p m c cX0_ends 4 s ([.ref (a 0), .int (nI t)] : List Value).toArray tbG RX0) (hr : meth.sig.returnType = (some .int)) (hlk : meth.locks = false) (hK : va_K (dC, dI) vcl (vty cI cZ cJ) s) (hP : va_P (dC, dI) vcl (vX cI cZ a n mw nf sg fo L le sc li ba ca st) s.heap) :
    ∀ (fuel : Nat) (i : Nat) (k : Nat), mw - i < fuel → i ≤ mw → k = cnt (edn n sg fo L le li ba t) i → ∀ ls : Array Slot, lv_has ls 4 [(0, .ref (a 0)), (1, .int (nI t)), (2, .int (nI k)), (3, .int (nI i))] → W p l e ({ frames := 3, cells := 0, slots := 0, locals := 66 } : Room) s m ([.ref (a 0), .int (nI t)] : List Value).toArray below meth c s.heap [] 0 0 (MQ below (QcRead (nI (cnt (edn n sg fo L le li ba t) mw))) [.ref (a 0), .int (nI t)].toArray s 0 0 (fun _ => False)) (F0 m 8 ls []) := by
  obtain ⟨⟨hn, hm, hf⟩, ⟨hsg, hfo, hL, hle, hsc, hli, hba, hca⟩, hv1, hv2, hv3, hv4, hv5, hv6, hv7⟩ := id hI
  intro fuel
  induction fuel with
  | zero =>
    intro i k hq
    exact absurd hq (Nat.not_lt_zero _)
  | succ fuel ih =>
    intro i k hq hi hk ls hl
    have hki := cnt_le (edn n sg fo L le li ba t) i
    have hlei := hle i
    refine lv_iload_n S.1 S.2.1 dX0_ends_8 rfl (lv_at hl 3 rfl) ?_
    refine lv_aload_n S.1 S.2.1 dX0_ends_9 rfl (lv_at hl 0 rfl) ?_
    refine fX0_wordCount (v := .int (nI mw)) S hK hP rfl rfl dX0_ends_10 ?_
    refine n_icmp_ge (x := i) (y := mw) (tgt := 53) S dX0_ends_13 (by decide) (by omega) (by omega) (fun h13 => ?_) (fun h13 => ?_)
    · refine lv_iload_n S.1 S.2.1 dX0_ends_53 rfl (lv_at hl 2 rfl) ?_
      exact rd_ret S hr hlk (rfl) (by rw [hk, show i = mw by omega]) dX0_ends_54
    · refine lv_aload_n S.1 S.2.1 dX0_ends_16 rfl (lv_at hl 0 rfl) ?_
      refine lv_iload_n S.1 S.2.1 dX0_ends_17 rfl (lv_at hl 3 rfl) ?_
      refine lv_iload_n S.1 S.2.1 dX0_ends_18 rfl (lv_at hl 1 rfl) ?_
      refine rd_callV (C := RX0) (As := [.int (nI i), .int (nI t)]) (rest := []) S (kX0_isFreeIn l dC dI cI cZ cJ a n mw nf sg fo L le sc li ba ca st i t hI (by omega) ht) rB_blind (fun U hU hW => ⟨by rw [hU]; exact hP, va_K.moved hW.alike hK⟩) (va_recv hK hP (ci := 0) (q0 := 0) rfl rfl) gX0_87 hdX0_isFreeIn (by decide) hl.1 rfl (Nat.le_of_ble_eq_true rfl) dX0_ends_19 ⟨Nat.zero_le _, Nat.zero_le _⟩ ?_
      refine n_bif_eq (b := fre li ba t i) (tgt := 47) S dX0_ends_22 (by decide) (fun h22 => ?_) (fun h22 => ?_)
      · refine n_iinc (lv' := [(3, .int (nI (i + 1))), (0, .ref (a 0)), (1, .int (nI t)), (2, .int (nI k))]) (x := i) (k := 3) S dX0_ends_47 hl rfl (by decide) rfl (fun ls hl => ?_)
        refine lv_goto (tgt := 8) S.1 S.2.1 dX0_ends_50 (by decide) ?_
        exact ih (i + 1) k (by omega) (by omega) (by rw [cnt, ← hk, edn, h22]; first | exact absurd rfl h41 | (rw [decide_eq_true h37, h41]; rfl) | (rw [decide_eq_false h37]; rfl) | rfl) ls (lv_sub hl [1, 2, 3, 0] rfl)
      · refine lv_aload_n S.1 S.2.1 dX0_ends_25 rfl (lv_at hl 0 rfl) ?_
        refine lv_iload_n S.1 S.2.1 dX0_ends_26 rfl (lv_at hl 3 rfl) ?_
        refine lv_aload_n S.1 S.2.1 dX0_ends_27 rfl (lv_at hl 0 rfl) ?_
        refine fX0_wordLengths (v := .ref (a 4)) S hK hP rfl rfl dX0_ends_28 ?_
        refine lv_iload_n S.1 S.2.1 dX0_ends_31 rfl (lv_at hl 3 rfl) ?_
        refine n_iald S hK hP 4 0 rfl rfl dX0_ends_32 (j := i) (by decide) (by omega) ?_
        have b32 := hle i
        refine lv_aload_n S.1 S.2.1 dX0_ends_33 rfl (lv_at hl 0 rfl) ?_
        refine fX0_signCount (v := .int (nI n)) S hK hP rfl rfl dX0_ends_34 ?_
        by_cases h37 : n ≤ le i
        · refine n_isub (x := le i) (y := n) S dX0_ends_37 h37 ?_
          refine rd_callV (C := RX0) (As := [.int (nI i), .int (nI (le i - n))]) (rest := []) S (kX0_hasRowAt l dC dI cI cZ cJ a n mw nf sg fo L le sc li ba ca st i (le i - n) hI (by omega) (by omega)) rB_blind (fun U hU hW => ⟨by rw [hU]; exact hP, va_K.moved hW.alike hK⟩) (va_recv hK hP (ci := 0) (q0 := 0) rfl rfl) gX0_103 hdX0_hasRowAt (by decide) hl.1 rfl (Nat.le_of_ble_eq_true rfl) dX0_ends_38 ⟨Nat.zero_le _, Nat.zero_le _⟩ ?_
          rw [show decide (le i - n + n ≤ le i) = true from decide_eq_true (by omega), Bool.true_and]
          refine n_bif_eq (b := mat n sg fo L i (le i - n)) (tgt := 47) S dX0_ends_41 (by decide) (fun h41 => ?_) (fun h41 => ?_)
          · refine n_iinc (lv' := [(3, .int (nI (i + 1))), (0, .ref (a 0)), (1, .int (nI t)), (2, .int (nI k))]) (x := i) (k := 3) S dX0_ends_47 hl rfl (by decide) rfl (fun ls hl => ?_)
            refine lv_goto (tgt := 8) S.1 S.2.1 dX0_ends_50 (by decide) ?_
            exact ih (i + 1) k (by omega) (by omega) (by rw [cnt, ← hk, edn, h22]; first | exact absurd rfl h41 | (rw [decide_eq_true h37, h41]; rfl) | (rw [decide_eq_false h37]; rfl) | rfl) ls (lv_sub hl [1, 2, 3, 0] rfl)
          · refine n_iinc (lv' := [(2, .int (nI (k + 1))), (0, .ref (a 0)), (1, .int (nI t)), (3, .int (nI i))]) (x := k) (k := 2) S dX0_ends_44 hl rfl (by decide) rfl (fun ls hl => ?_)
            refine n_iinc (lv' := [(3, .int (nI (i + 1))), (2, .int (nI (k + 1))), (0, .ref (a 0)), (1, .int (nI t))]) (x := i) (k := 3) S dX0_ends_47 hl rfl (by decide) rfl (fun ls hl => ?_)
            refine lv_goto (tgt := 8) S.1 S.2.1 dX0_ends_50 (by decide) ?_
            exact ih (i + 1) (k + 1) (by omega) (by omega) (by rw [cnt, ← hk, edn, h22]; first | exact absurd rfl h41 | (rw [decide_eq_true h37, h41]; rfl) | (rw [decide_eq_false h37]; rfl) | rfl) ls (lv_sub hl [2, 3, 1, 0] rfl)
        · refine lv_isub S.1 S.2.1 dX0_ends_37 ?_
          refine rd_callV (C := RX0) (As := [.int (nI i), .int (nI (le i) - nI n)]) (rest := []) S (kX0_hasRowAtN l dC dI cI cZ cJ a n mw nf sg fo L le sc li ba ca st i ((nI (le i) - nI n)) hI (pk_sneg (by omega) (by omega))) rB_blind (fun U hU hW => ⟨by rw [hU]; exact hP, va_K.moved hW.alike hK⟩) (va_recv hK hP (ci := 0) (q0 := 0) rfl rfl) gX0_103 hdX0_hasRowAt (by decide) hl.1 rfl (Nat.le_of_ble_eq_true rfl) dX0_ends_38 ⟨Nat.zero_le _, Nat.zero_le _⟩ ?_
          refine n_if_eq (x := 0) (tgt := 47) S dX0_ends_41 (by decide) (by omega) (fun h41 => ?_) (fun h41 => ?_)
          · refine n_iinc (lv' := [(3, .int (nI (i + 1))), (0, .ref (a 0)), (1, .int (nI t)), (2, .int (nI k))]) (x := i) (k := 3) S dX0_ends_47 hl rfl (by decide) rfl (fun ls hl => ?_)
            refine lv_goto (tgt := 8) S.1 S.2.1 dX0_ends_50 (by decide) ?_
            exact ih (i + 1) k (by omega) (by omega) (by rw [cnt, ← hk, edn, h22]; first | exact absurd rfl h41 | (rw [decide_eq_true h37, h41]; rfl) | (rw [decide_eq_false h37]; rfl) | rfl) ls (lv_sub hl [1, 2, 3, 0] rfl)
          · refine n_iinc (lv' := [(2, .int (nI (k + 1))), (0, .ref (a 0)), (1, .int (nI t)), (3, .int (nI i))]) (x := k) (k := 2) S dX0_ends_44 hl rfl (by decide) rfl (fun ls hl => ?_)
            refine n_iinc (lv' := [(3, .int (nI (i + 1))), (2, .int (nI (k + 1))), (0, .ref (a 0)), (1, .int (nI t))]) (x := i) (k := 3) S dX0_ends_47 hl rfl (by decide) rfl (fun ls hl => ?_)
            refine lv_goto (tgt := 8) S.1 S.2.1 dX0_ends_50 (by decide) ?_
            exact ih (i + 1) (k + 1) (by omega) (by omega) (by rw [cnt, ← hk, edn, h22]; first | exact absurd rfl h41 | (rw [decide_eq_true h37, h41]; rfl) | (rw [decide_eq_false h37]; rfl) | rfl) ls (lv_sub hl [2, 3, 1, 0] rfl)
set_option maxRecDepth 100000 in
theorem kX0_ends (l : Launch) (dC : Nat → ClassId) (dI : Nat → Nat → Nat) (cI cZ cJ : ClassId) (a : Nat → Nat) (n mw nf : Nat) (sg fo L le sc li ba ca st : Nat → Nat) (t : Nat) (hI : iv n mw nf sg fo L le sc li ba ca) (ht : t < 4) : rd l yX0_ends cX0_ends 4 (some .int) 3 66 [.ref (a 0), .int (nI t)] (rB dC dI cI cZ cJ (vX cI cZ a n mw nf sg fo L le sc li ba ca st)) (nI (cnt (edn n sg fo L le li ba t) mw)) := by
  refine rd_ofW RX0 (by decide) rfl (Nat.le_of_ble_eq_true rfl) ?_
  intro p e s m below meth c S hr hlk hB ls hl
  obtain ⟨hP, hK⟩ := hB
  have hl : lv_has ls 4 [(0, .ref (a 0)), (1, .int (nI t))] := hl
  obtain ⟨⟨hn, hm, hf⟩, ⟨hsg, hfo, hL, hle, hsc, hli, hba, hca⟩, hv1, hv2, hv3, hv4, hv5, hv6, hv7⟩ := id hI
  refine lv_iload_n S.1 S.2.1 dX0_ends_0 rfl (lv_at hl 1 rfl) ?_
  refine rdv_callS (As := [.int (nI t)]) (rest := []) S (kX0_needList l t ht) tr_blind (fun _ _ _ => trivial) gX0_56 hdX0_needList (by decide) hl.1 rfl (Nat.le_of_ble_eq_true rfl) dX0_ends_1 ⟨Nat.zero_le _, Nat.zero_le _⟩ ?_
  refine lv_iconst (v := (nI 0)) S.1 S.2.1 dX0_ends_4 (by decide) ?_
  refine lv_istore_n (lv' := [(2, .int (nI 0)), (0, .ref (a 0)), (1, .int (nI t))]) S.1 S.2.1 dX0_ends_5 rfl hl (by decide) rfl (fun ls hl => ?_)
  refine lv_iconst (v := (nI 0)) S.1 S.2.1 dX0_ends_6 (by decide) ?_
  refine lv_istore_n (lv' := [(3, .int (nI 0)), (2, .int (nI 0)), (0, .ref (a 0)), (1, .int (nI t))]) S.1 S.2.1 dX0_ends_7 rfl hl (by decide) rfl (fun ls hl => ?_)
  exact lX0_ends_8 l dC dI cI cZ cJ a n mw nf sg fo L le sc li ba ca st t hI ht S hr hlk hK hP _ 0 0 (Nat.lt_succ_self _) (by omega) rfl ls (lv_sub hl [2, 3, 1, 0] rfl)

set_option maxRecDepth 100000 in
theorem lX0_many_22 (l : Launch) (dC : Nat → ClassId) (dI : Nat → Nat → Nat) (cI cZ cJ : ClassId) (a : Nat → Nat) (n mw nf : Nat) (sg fo L le sc li ba ca st : Nat → Nat) (t : Nat) (y : Int32) (hI : iv n mw nf sg fo L le sc li ba ca) (ht : t < 4)  {p : Program} {e : Env} {s : State} {m : MethodId} {below : List Frame} {meth : Method} {c : Code} (S : CallFix p m c cX0_many 5 s ([.ref (a 0), .int (nI t), .int y] : List Value).toArray tbG RX0) (hr : meth.sig.returnType = (some .int)) (hlk : meth.locks = false) (hK : va_K (dC, dI) vcl (vty cI cZ cJ) s) (hP : va_P (dC, dI) vcl (vX cI cZ a n mw nf sg fo L le sc li ba ca st) s.heap) :
    ∀ (fuel : Nat) (i : Nat) (k : Nat), mw - i < fuel → ¬ (y < nI 1 ∨ nI 15 < y) → i ≤ mw → k = cnt (mnP le li t y) i → ∀ ls : Array Slot, lv_has ls 5 [(0, .ref (a 0)), (1, .int (nI t)), (2, .int y), (3, .int (nI k)), (4, .int (nI i))] → W p l e ({ frames := 1, cells := 0, slots := 0, locals := 22 } : Room) s m ([.ref (a 0), .int (nI t), .int y] : List Value).toArray below meth c s.heap [] 0 0 (MQ below (QcRead (mny le li mw t y)) [.ref (a 0), .int (nI t), .int y].toArray s 0 0 (fun _ => False)) (F0 m 22 ls []) := by
  obtain ⟨⟨hn, hm, hf⟩, ⟨hsg, hfo, hL, hle, hsc, hli, hba, hca⟩, hv1, hv2, hv3, hv4, hv5, hv6, hv7⟩ := id hI
  intro fuel
  induction fuel with
  | zero =>
    intro i k hq
    exact absurd hq (Nat.not_lt_zero _)
  | succ fuel ih =>
    intro i k hq h6 hi hk ls hl
    have hki := cnt_le (mnP le li t y) i
    refine lv_iload S.1 S.2.1 dX0_many_22 (lv_at hl 4 rfl) ?_
    refine lv_aload_n S.1 S.2.1 dX0_many_24 rfl (lv_at hl 0 rfl) ?_
    refine fX0_wordCount (v := .int (nI mw)) S hK hP rfl rfl dX0_many_25 ?_
    refine n_icmp_ge (x := i) (y := mw) (tgt := 61) S dX0_many_28 (by decide) (by omega) (by omega) (fun h28 => ?_) (fun h28 => ?_)
    · refine lv_iload_n S.1 S.2.1 dX0_many_61 rfl (lv_at hl 3 rfl) ?_
      exact rd_ret S hr hlk (rfl) (by rw [mny, if_neg h6, hk, show i = mw by omega]) dX0_many_62
    · refine lv_aload_n S.1 S.2.1 dX0_many_31 rfl (lv_at hl 0 rfl) ?_
      refine lv_iload S.1 S.2.1 dX0_many_32 (lv_at hl 4 rfl) ?_
      refine lv_iload_n S.1 S.2.1 dX0_many_34 rfl (lv_at hl 1 rfl) ?_
      refine rd_callV (C := RX0) (As := [.int (nI i), .int (nI t)]) (rest := []) S (kX0_isOf l dC dI cI cZ cJ a n mw nf sg fo L le sc li ba ca st i t hI (by omega) ht) rB_blind (fun U hU hW => ⟨by rw [hU]; exact hP, va_K.moved hW.alike hK⟩) (va_recv hK hP (ci := 0) (q0 := 0) rfl rfl) gX0_79 hdX0_isOf (by decide) hl.1 rfl (Nat.le_of_ble_eq_true rfl) dX0_many_35 ⟨Nat.zero_le _, Nat.zero_le _⟩ ?_
      refine n_bif_eq (b := inl li i t) (tgt := 55) S dX0_many_38 (by decide) (fun h38 => ?_) (fun h38 => ?_)
      · refine n_iinc (lv' := [(4, .int (nI (i + 1))), (0, .ref (a 0)), (1, .int (nI t)), (2, .int y), (3, .int (nI k))]) (x := i) (k := 4) S dX0_many_55 hl rfl (by decide) rfl (fun ls hl => ?_)
        refine lv_goto (tgt := 22) S.1 S.2.1 dX0_many_58 (by decide) ?_
        exact ih (i + 1) k (by omega) h6 (by omega) (by rw [cnt, ← hk, mnP, h38]; first | (rw [decide_eq_true h49]; rfl) | (rw [decide_eq_false h49]; rfl) | rfl) ls (lv_sub hl [1, 2, 3, 4, 0] rfl)
      · refine lv_aload_n S.1 S.2.1 dX0_many_41 rfl (lv_at hl 0 rfl) ?_
        refine fX0_wordLengths (v := .ref (a 4)) S hK hP rfl rfl dX0_many_42 ?_
        refine lv_iload S.1 S.2.1 dX0_many_45 (lv_at hl 4 rfl) ?_
        refine n_iald S hK hP 4 0 rfl rfl dX0_many_47 (j := i) (by decide) (by omega) ?_
        have b47 := hle i
        refine lv_iload_n S.1 S.2.1 dX0_many_48 rfl (lv_at hl 2 rfl) ?_
        refine lv_icmp_ne (tgt := 55) S.1 S.2.1 dX0_many_49 (by decide) (fun h49 => ?_) (fun h49 => ?_)
        · refine n_iinc (lv' := [(4, .int (nI (i + 1))), (0, .ref (a 0)), (1, .int (nI t)), (2, .int y), (3, .int (nI k))]) (x := i) (k := 4) S dX0_many_55 hl rfl (by decide) rfl (fun ls hl => ?_)
          refine lv_goto (tgt := 22) S.1 S.2.1 dX0_many_58 (by decide) ?_
          exact ih (i + 1) k (by omega) h6 (by omega) (by rw [cnt, ← hk, mnP, h38]; first | (rw [decide_eq_true h49]; rfl) | (rw [decide_eq_false h49]; rfl) | rfl) ls (lv_sub hl [1, 2, 3, 4, 0] rfl)
        · refine n_iinc (lv' := [(3, .int (nI (k + 1))), (0, .ref (a 0)), (1, .int (nI t)), (2, .int y), (4, .int (nI i))]) (x := k) (k := 3) S dX0_many_52 hl rfl (by decide) rfl (fun ls hl => ?_)
          refine n_iinc (lv' := [(4, .int (nI (i + 1))), (3, .int (nI (k + 1))), (0, .ref (a 0)), (1, .int (nI t)), (2, .int y)]) (x := i) (k := 4) S dX0_many_55 hl rfl (by decide) rfl (fun ls hl => ?_)
          refine lv_goto (tgt := 22) S.1 S.2.1 dX0_many_58 (by decide) ?_
          exact ih (i + 1) (k + 1) (by omega) h6 (by omega) (by rw [cnt, ← hk, mnP, h38]; first | (rw [decide_eq_true h49]; rfl) | (rw [decide_eq_false h49]; rfl) | rfl) ls (lv_sub hl [2, 3, 4, 1, 0] rfl)
set_option maxRecDepth 100000 in
theorem kX0_many (l : Launch) (dC : Nat → ClassId) (dI : Nat → Nat → Nat) (cI cZ cJ : ClassId) (a : Nat → Nat) (n mw nf : Nat) (sg fo L le sc li ba ca st : Nat → Nat) (t : Nat) (y : Int32) (hI : iv n mw nf sg fo L le sc li ba ca) (ht : t < 4) : rd l yX0_many cX0_many 5 (some .int) 1 22 [.ref (a 0), .int (nI t), .int y] (rB dC dI cI cZ cJ (vX cI cZ a n mw nf sg fo L le sc li ba ca st)) (mny le li mw t y) := by
  refine rd_ofW RX0 (by decide) rfl (Nat.le_of_ble_eq_true rfl) ?_
  intro p e s m below meth c S hr hlk hB ls hl
  obtain ⟨hP, hK⟩ := hB
  have hl : lv_has ls 5 [(0, .ref (a 0)), (1, .int (nI t)), (2, .int y)] := hl
  obtain ⟨⟨hn, hm, hf⟩, ⟨hsg, hfo, hL, hle, hsc, hli, hba, hca⟩, hv1, hv2, hv3, hv4, hv5, hv6, hv7⟩ := id hI
  refine lv_iload_n S.1 S.2.1 dX0_many_0 rfl (lv_at hl 1 rfl) ?_
  refine rdv_callS (As := [.int (nI t)]) (rest := []) S (kX0_needList l t ht) tr_blind (fun _ _ _ => trivial) gX0_56 hdX0_needList (by decide) hl.1 rfl (Nat.le_of_ble_eq_true rfl) dX0_many_1 ⟨Nat.zero_le _, Nat.zero_le _⟩ ?_
  refine lv_iload_n S.1 S.2.1 dX0_many_4 rfl (lv_at hl 2 rfl) ?_
  refine lv_iconst (v := (nI 1)) S.1 S.2.1 dX0_many_5 (by decide) ?_
  refine lv_icmp_lt (tgt := 15) S.1 S.2.1 dX0_many_6 (by decide) (fun h6 => ?_) (fun h6 => ?_)
  · refine lv_iconst (v := -1) S.1 S.2.1 dX0_many_15 (by decide) ?_
    exact rd_ret S hr hlk (rfl) (by rw [mny, if_pos (by first | exact Or.inr (Int32.not_le.mp h12) | exact Or.inl h6)]) dX0_many_16
  · refine lv_iload_n S.1 S.2.1 dX0_many_9 rfl (lv_at hl 2 rfl) ?_
    refine lv_bipush (v := (nI 15)) S.1 S.2.1 dX0_many_10 (by decide) ?_
    refine lv_icmp_le (tgt := 17) S.1 S.2.1 dX0_many_12 (by decide) (fun h12 => ?_) (fun h12 => ?_)
    · refine lv_iconst (v := (nI 0)) S.1 S.2.1 dX0_many_17 (by decide) ?_
      refine lv_istore_n (lv' := [(3, .int (nI 0)), (0, .ref (a 0)), (1, .int (nI t)), (2, .int y)]) S.1 S.2.1 dX0_many_18 rfl hl (by decide) rfl (fun ls hl => ?_)
      refine lv_iconst (v := (nI 0)) S.1 S.2.1 dX0_many_19 (by decide) ?_
      refine lv_istore (lv' := [(4, .int (nI 0)), (3, .int (nI 0)), (0, .ref (a 0)), (1, .int (nI t)), (2, .int y)]) S.1 S.2.1 dX0_many_20 hl (by decide) rfl (fun ls hl => ?_)
      exact lX0_many_22 l dC dI cI cZ cJ a n mw nf sg fo L le sc li ba ca st t y hI ht S hr hlk hK hP _ 0 0 (Nat.lt_succ_self _) (fun q => q.elim h6 (fun q => absurd h12 (Int32.not_le.mpr q))) (by omega) rfl ls (lv_sub hl [2, 3, 4, 1, 0] rfl)
    · refine lv_iconst (v := -1) S.1 S.2.1 dX0_many_15 (by decide) ?_
      exact rd_ret S hr hlk (rfl) (by rw [mny, if_pos (by first | exact Or.inr (Int32.not_le.mp h12) | exact Or.inl h6)]) dX0_many_16

set_option maxRecDepth 100000 in
theorem lX0_letters_13 (l : Launch) (dC : Nat → ClassId) (dI : Nat → Nat → Nat) (cI cZ cJ : ClassId) (a : Nat → Nat) (n mw nf : Nat) (sg fo L le sc li ba ca st : Nat → Nat) (t : Nat) (y : Nat) (hI : iv n mw nf sg fo L le sc li ba ca) (ht : t < 4) (hy : 97 ≤ y ∧ y ≤ 122)  {p : Program} {e : Env} {s : State} {m : MethodId} {below : List Frame} {meth : Method} {c : Code} (S : CallFix p m c cX0_letters 5 s ([.ref (a 0), .int (nI t), .int (nI y)] : List Value).toArray tbG RX0) (hr : meth.sig.returnType = (some .int)) (hlk : meth.locks = false) (hK : va_K (dC, dI) vcl (vty cI cZ cJ) s) (hP : va_P (dC, dI) vcl (vX cI cZ a n mw nf sg fo L le sc li ba ca st) s.heap) :
    ∀ (fuel : Nat) (i : Nat) (k : Nat), mw - i < fuel → i ≤ mw → k = smm (ltF L le li t y) i → ∀ ls : Array Slot, lv_has ls 5 [(0, .ref (a 0)), (1, .int (nI t)), (2, .int (nI y)), (3, .int (nI k)), (4, .int (nI i))] → W p l e ({ frames := 2, cells := 0, slots := 0, locals := 46 } : Room) s m ([.ref (a 0), .int (nI t), .int (nI y)] : List Value).toArray below meth c s.heap [] 0 0 (MQ below (QcRead (nI (smm (ltF L le li t y) mw))) [.ref (a 0), .int (nI t), .int (nI y)].toArray s 0 0 (fun _ => False)) (F0 m 13 ls []) := by
  obtain ⟨⟨hn, hm, hf⟩, ⟨hsg, hfo, hL, hle, hsc, hli, hba, hca⟩, hv1, hv2, hv3, hv4, hv5, hv6, hv7⟩ := id hI
  intro fuel
  induction fuel with
  | zero =>
    intro i k hq
    exact absurd hq (Nat.not_lt_zero _)
  | succ fuel ih =>
    intro i k hq hi hk ls hl
    refine lv_iload S.1 S.2.1 dX0_letters_13 (lv_at hl 4 rfl) ?_
    refine lv_aload_n S.1 S.2.1 dX0_letters_15 rfl (lv_at hl 0 rfl) ?_
    refine fX0_wordCount (v := .int (nI mw)) S hK hP rfl rfl dX0_letters_16 ?_
    refine n_icmp_ge (x := i) (y := mw) (tgt := 48) S dX0_letters_19 (by decide) (by omega) (by omega) (fun h19 => ?_) (fun h19 => ?_)
    · refine lv_iload_n S.1 S.2.1 dX0_letters_48 rfl (lv_at hl 3 rfl) ?_
      exact rd_ret S hr hlk (rfl) (by rw [hk, show i = mw by omega]) dX0_letters_49
    · refine lv_aload_n S.1 S.2.1 dX0_letters_22 rfl (lv_at hl 0 rfl) ?_
      refine lv_iload S.1 S.2.1 dX0_letters_23 (lv_at hl 4 rfl) ?_
      refine lv_iload_n S.1 S.2.1 dX0_letters_25 rfl (lv_at hl 1 rfl) ?_
      refine rd_callV (C := RX0) (As := [.int (nI i), .int (nI t)]) (rest := []) S (kX0_isOf l dC dI cI cZ cJ a n mw nf sg fo L le sc li ba ca st i t hI (by omega) ht) rB_blind (fun U hU hW => ⟨by rw [hU]; exact hP, va_K.moved hW.alike hK⟩) (va_recv hK hP (ci := 0) (q0 := 0) rfl rfl) gX0_79 hdX0_isOf (by decide) hl.1 rfl (Nat.le_of_ble_eq_true rfl) dX0_letters_26 ⟨Nat.zero_le _, Nat.zero_le _⟩ ?_
      refine n_bif_eq (b := inl li i t) (tgt := 42) S dX0_letters_29 (by decide) (fun h29 => ?_) (fun h29 => ?_)
      · refine n_iinc (lv' := [(4, .int (nI (i + 1))), (0, .ref (a 0)), (1, .int (nI t)), (2, .int (nI y)), (3, .int (nI k))]) (x := i) (k := 4) S dX0_letters_42 hl rfl (by decide) rfl (fun ls hl => ?_)
        refine lv_goto (tgt := 13) S.1 S.2.1 dX0_letters_45 (by decide) ?_
        exact ih (i + 1) k (by omega) (by omega) (by rw [smm, ← hk, ltF, h29]; rfl) ls (lv_sub hl [1, 2, 3, 4, 0] rfl)
      · refine lv_iload_n S.1 S.2.1 dX0_letters_32 rfl (lv_at hl 3 rfl) ?_
        refine lv_aload_n S.1 S.2.1 dX0_letters_33 rfl (lv_at hl 0 rfl) ?_
        refine lv_iload S.1 S.2.1 dX0_letters_34 (lv_at hl 4 rfl) ?_
        refine lv_iload_n S.1 S.2.1 dX0_letters_36 rfl (lv_at hl 2 rfl) ?_
        refine rd_callV (C := RX0) (As := [.int (nI i), .int (nI y)]) (rest := [.int (nI k)]) S (kX0_timesInWord l dC dI cI cZ cJ a n mw nf sg fo L le sc li ba ca st i y hI (by omega) (by omega)) rB_blind (fun U hU hW => ⟨by rw [hU]; exact hP, va_K.moved hW.alike hK⟩) (va_recv hK hP (ci := 0) (q0 := 0) rfl rfl) gX0_109 hdX0_timesInWord (by decide) hl.1 rfl (Nat.le_of_ble_eq_true rfl) dX0_letters_37 ⟨Nat.zero_le _, Nat.zero_le _⟩ ?_
        refine n_iadd (x := k) (y := tiw L le y i) S dX0_letters_40 ?_
        refine lv_istore_n (lv' := [(3, .int (nI (k + (tiw L le y i)))), (0, .ref (a 0)), (1, .int (nI t)), (2, .int (nI y)), (4, .int (nI i))]) S.1 S.2.1 dX0_letters_41 rfl hl (by decide) rfl (fun ls hl => ?_)
        refine n_iinc (lv' := [(4, .int (nI (i + 1))), (3, .int (nI (k + (tiw L le y i)))), (0, .ref (a 0)), (1, .int (nI t)), (2, .int (nI y))]) (x := i) (k := 4) S dX0_letters_42 hl rfl (by decide) rfl (fun ls hl => ?_)
        refine lv_goto (tgt := 13) S.1 S.2.1 dX0_letters_45 (by decide) ?_
        exact ih (i + 1) (k + (tiw L le y i)) (by omega) (by omega) (by rw [smm, ← hk, ltF, h29]; rfl) ls (lv_sub hl [2, 3, 4, 1, 0] rfl)
set_option maxRecDepth 100000 in
theorem kX0_letters (l : Launch) (dC : Nat → ClassId) (dI : Nat → Nat → Nat) (cI cZ cJ : ClassId) (a : Nat → Nat) (n mw nf : Nat) (sg fo L le sc li ba ca st : Nat → Nat) (t : Nat) (y : Nat) (hI : iv n mw nf sg fo L le sc li ba ca) (ht : t < 4) (hy : 97 ≤ y ∧ y ≤ 122) : rd l yX0_letters cX0_letters 5 (some .int) 2 46 [.ref (a 0), .int (nI t), .int (nI y)] (rB dC dI cI cZ cJ (vX cI cZ a n mw nf sg fo L le sc li ba ca st)) (nI (smm (ltF L le li t y) mw)) := by
  refine rd_ofW RX0 (by decide) rfl (Nat.le_of_ble_eq_true rfl) ?_
  intro p e s m below meth c S hr hlk hB ls hl
  obtain ⟨hP, hK⟩ := hB
  have hl : lv_has ls 5 [(0, .ref (a 0)), (1, .int (nI t)), (2, .int (nI y))] := hl
  obtain ⟨⟨hn, hm, hf⟩, ⟨hsg, hfo, hL, hle, hsc, hli, hba, hca⟩, hv1, hv2, hv3, hv4, hv5, hv6, hv7⟩ := id hI
  refine lv_iload_n S.1 S.2.1 dX0_letters_0 rfl (lv_at hl 1 rfl) ?_
  refine rdv_callS (As := [.int (nI t)]) (rest := []) S (kX0_needList l t ht) tr_blind (fun _ _ _ => trivial) gX0_56 hdX0_needList (by decide) hl.1 rfl (Nat.le_of_ble_eq_true rfl) dX0_letters_1 ⟨Nat.zero_le _, Nat.zero_le _⟩ ?_
  refine lv_iload_n S.1 S.2.1 dX0_letters_4 rfl (lv_at hl 2 rfl) ?_
  refine rdv_callS (As := [.int (nI y)]) (rest := []) S (kX0_needLetter l y hy) tr_blind (fun _ _ _ => trivial) gX0_52 hdX0_needLetter (by decide) hl.1 rfl (Nat.le_of_ble_eq_true rfl) dX0_letters_5 ⟨Nat.zero_le _, Nat.zero_le _⟩ ?_
  refine lv_iconst (v := (nI 0)) S.1 S.2.1 dX0_letters_8 (by decide) ?_
  refine lv_istore_n (lv' := [(3, .int (nI 0)), (0, .ref (a 0)), (1, .int (nI t)), (2, .int (nI y))]) S.1 S.2.1 dX0_letters_9 rfl hl (by decide) rfl (fun ls hl => ?_)
  refine lv_iconst (v := (nI 0)) S.1 S.2.1 dX0_letters_10 (by decide) ?_
  refine lv_istore (lv' := [(4, .int (nI 0)), (3, .int (nI 0)), (0, .ref (a 0)), (1, .int (nI t)), (2, .int (nI y))]) S.1 S.2.1 dX0_letters_11 hl (by decide) rfl (fun ls hl => ?_)
  exact lX0_letters_13 l dC dI cI cZ cJ a n mw nf sg fo L le sc li ba ca st t y hI ht hy S hr hlk hK hP _ 0 0 (Nat.lt_succ_self _) (by omega) rfl ls (lv_sub hl [2, 3, 4, 1, 0] rfl)

set_option maxRecDepth 100000 in
theorem kX0_letter (l : Launch) (dC : Nat → ClassId) (dI : Nat → Nat → Nat) (cI cZ cJ : ClassId) (a : Nat → Nat) (n mw nf : Nat) (sg fo L le sc li ba ca st : Nat → Nat) (w : Nat) (x : Int32) (hI : iv n mw nf sg fo L le sc li ba ca) (hw : w < mw) : rd l yX0_letter cX0_letter 3 (some .int) 1 22 [.ref (a 0), .int (nI w), .int x] (rB dC dI cI cZ cJ (vX cI cZ a n mw nf sg fo L le sc li ba ca st)) (lon L le w x) := by
  refine rd_ofW RX0 (by decide) rfl (Nat.le_of_ble_eq_true rfl) ?_
  intro p e s m below meth c S hr hlk hB ls hl
  obtain ⟨hP, hK⟩ := hB
  have hl : lv_has ls 3 [(0, .ref (a 0)), (1, .int (nI w)), (2, .int x)] := hl
  obtain ⟨⟨hn, hm, hf⟩, ⟨hsg, hfo, hL, hle, hsc, hli, hba, hca⟩, hv1, hv2, hv3, hv4, hv5, hv6, hv7⟩ := id hI
  refine lv_aload_n S.1 S.2.1 dX0_letter_0 rfl (lv_at hl 0 rfl) ?_
  refine lv_iload_n S.1 S.2.1 dX0_letter_1 rfl (lv_at hl 1 rfl) ?_
  refine rdv_callV (C := RX0) (As := [.int (nI w)]) (rest := []) S (kX0_needWord l dC dI cI cZ cJ a n mw nf sg fo L le sc li ba ca st w hI hw) rB_blind (fun U hU hW => ⟨by rw [hU]; exact hP, va_K.moved hW.alike hK⟩) (va_recv hK hP (ci := 0) (q0 := 0) rfl rfl) gX0_112 hdX0_needWord (by decide) hl.1 rfl (Nat.le_of_ble_eq_true rfl) dX0_letter_2 ⟨Nat.zero_le _, Nat.zero_le _⟩ ?_
  refine lv_aload_n S.1 S.2.1 dX0_letter_5 rfl (lv_at hl 0 rfl) ?_
  refine lv_iload_n S.1 S.2.1 dX0_letter_6 rfl (lv_at hl 1 rfl) ?_
  refine lv_iload_n S.1 S.2.1 dX0_letter_7 rfl (lv_at hl 2 rfl) ?_
  refine rd_callV (C := RX0) (As := [.int (nI w), .int x]) (rest := []) S (kX0_letterOrNone l dC dI cI cZ cJ a n mw nf sg fo L le sc li ba ca st w x hI (by omega)) rB_blind (fun U hU hW => ⟨by rw [hU]; exact hP, va_K.moved hW.alike hK⟩) (va_recv hK hP (ci := 0) (q0 := 0) rfl rfl) gX0_100 hdX0_letterOrNone (by decide) hl.1 rfl (Nat.le_of_ble_eq_true rfl) dX0_letter_8 ⟨Nat.zero_le _, Nat.zero_le _⟩ ?_
  exact rd_ret S hr hlk (rfl) (rfl) dX0_letter_11

set_option maxRecDepth 100000 in
theorem kX0_tell (l : Launch) (dC : Nat → ClassId) (dI : Nat → Nat → Nat) (cI cZ cJ : ClassId) (a : Nat → Nat) (n mw nf : Nat) (sg fo L le sc li ba ca st : Nat → Nat) (w : Nat) (x : Int32) (hI : iv n mw nf sg fo L le sc li ba ca) (hw : w < mw) : rd l yX0_tell cX0_tell 3 (some .int) 1 21 [.ref (a 0), .int (nI w), .int x] (rB dC dI cI cZ cJ (vX cI cZ a n mw nf sg fo L le sc li ba ca st)) (tel le sc li ba w x) := by
  refine rd_ofW RX0 (by decide) rfl (Nat.le_of_ble_eq_true rfl) ?_
  intro p e s m below meth c S hr hlk hB ls hl
  obtain ⟨hP, hK⟩ := hB
  have hl : lv_has ls 3 [(0, .ref (a 0)), (1, .int (nI w)), (2, .int x)] := hl
  obtain ⟨⟨hn, hm, hf⟩, ⟨hsg, hfo, hL, hle, hsc, hli, hba, hca⟩, hv1, hv2, hv3, hv4, hv5, hv6, hv7⟩ := id hI
  refine lv_aload_n S.1 S.2.1 dX0_tell_0 rfl (lv_at hl 0 rfl) ?_
  refine lv_iload_n S.1 S.2.1 dX0_tell_1 rfl (lv_at hl 1 rfl) ?_
  refine rdv_callV (C := RX0) (As := [.int (nI w)]) (rest := []) S (kX0_needWord l dC dI cI cZ cJ a n mw nf sg fo L le sc li ba ca st w hI hw) rB_blind (fun U hU hW => ⟨by rw [hU]; exact hP, va_K.moved hW.alike hK⟩) (va_recv hK hP (ci := 0) (q0 := 0) rfl rfl) gX0_112 hdX0_needWord (by decide) hl.1 rfl (Nat.le_of_ble_eq_true rfl) dX0_tell_2 ⟨Nat.zero_le _, Nat.zero_le _⟩ ?_
  refine lv_iload_n S.1 S.2.1 dX0_tell_5 rfl (lv_at hl 2 rfl) ?_
  by_cases q0 : x = nI 0
  · refine lv_tableIn (tgt := 36) S.1 S.2.1 dX0_tell_6 (by rw [q0]; decide) (by rw [q0]; decide) (by rw [q0]; rfl) (by decide) ?_
    refine lv_aload_n S.1 S.2.1 dX0_tell_36 rfl (lv_at hl 0 rfl) ?_
    refine fX0_wordScores (v := .ref (a 5)) S hK hP rfl rfl dX0_tell_37 ?_
    refine lv_iload_n S.1 S.2.1 dX0_tell_40 rfl (lv_at hl 1 rfl) ?_
    refine n_iald S hK hP 5 0 rfl rfl dX0_tell_41 (j := w) (by decide) (by omega) ?_
    have b41 := hsc w
    exact rd_ret S hr hlk (rfl) (by rw [tel, if_pos q0]) dX0_tell_42
  by_cases q1 : x = nI 1
  · refine lv_tableIn (tgt := 43) S.1 S.2.1 dX0_tell_6 (by rw [q1]; decide) (by rw [q1]; decide) (by rw [q1]; rfl) (by decide) ?_
    refine lv_aload_n S.1 S.2.1 dX0_tell_43 rfl (lv_at hl 0 rfl) ?_
    refine fX0_wordListBits (v := .ref (a 6)) S hK hP rfl rfl dX0_tell_44 ?_
    refine lv_iload_n S.1 S.2.1 dX0_tell_47 rfl (lv_at hl 1 rfl) ?_
    refine n_iald S hK hP 6 0 rfl rfl dX0_tell_48 (j := w) (by decide) (by omega) ?_
    have b48 := hli w
    exact rd_ret S hr hlk (rfl) (by rw [tel, if_neg q0, if_pos q1]) dX0_tell_49
  by_cases q2 : x = nI 2
  · refine lv_tableIn (tgt := 50) S.1 S.2.1 dX0_tell_6 (by rw [q2]; decide) (by rw [q2]; decide) (by rw [q2]; rfl) (by decide) ?_
    refine lv_aload_n S.1 S.2.1 dX0_tell_50 rfl (lv_at hl 0 rfl) ?_
    refine fX0_wordBarred (v := .ref (a 7)) S hK hP rfl rfl dX0_tell_51 ?_
    refine lv_iload_n S.1 S.2.1 dX0_tell_54 rfl (lv_at hl 1 rfl) ?_
    refine n_zald S hK hP 7 1 rfl rfl dX0_tell_55 (j := w) (by decide) (by omega) ?_
    have b55 := hba w
    refine n_if_eq (x := ba w) (tgt := 63) S dX0_tell_56 (by decide) (by omega) (fun h56 => ?_) (fun h56 => ?_)
    · refine lv_iconst (v := (nI 0)) S.1 S.2.1 dX0_tell_63 (by decide) ?_
      exact rd_ret S hr hlk (rfl) (by rw [tel, if_neg q0, if_neg q1, if_pos q2]; have := hba w; first | rw [h56] | rw [show ba w = 1 by omega]) dX0_tell_64
    · refine lv_iconst (v := (nI 1)) S.1 S.2.1 dX0_tell_59 (by decide) ?_
      refine lv_goto (tgt := 64) S.1 S.2.1 dX0_tell_60 (by decide) ?_
      exact rd_ret S hr hlk (rfl) (by rw [tel, if_neg q0, if_neg q1, if_pos q2]; have := hba w; first | rw [h56] | rw [show ba w = 1 by omega]) dX0_tell_64
  by_cases q3 : x = nI 3
  · refine lv_tableIn (tgt := 65) S.1 S.2.1 dX0_tell_6 (by rw [q3]; decide) (by rw [q3]; decide) (by rw [q3]; rfl) (by decide) ?_
    refine lv_aload_n S.1 S.2.1 dX0_tell_65 rfl (lv_at hl 0 rfl) ?_
    refine fX0_wordLengths (v := .ref (a 4)) S hK hP rfl rfl dX0_tell_66 ?_
    refine lv_iload_n S.1 S.2.1 dX0_tell_69 rfl (lv_at hl 1 rfl) ?_
    refine n_iald S hK hP 4 0 rfl rfl dX0_tell_70 (j := w) (by decide) (by omega) ?_
    have b70 := hle w
    exact rd_ret S hr hlk (rfl) (by rw [tel, if_neg q0, if_neg q1, if_neg q2, if_pos q3]) dX0_tell_71
  refine lv_tableOut (tgt := 72) S.1 S.2.1 dX0_tell_6 (tb_out4 ⟨q0, q1, q2, q3⟩) (by decide) ?_
  refine lv_iconst (v := -1) S.1 S.2.1 dX0_tell_72 (by decide) ?_
  exact rd_ret S hr hlk (rfl) (by rw [tel, if_neg q0, if_neg q1, if_neg q2, if_neg q3]) dX0_tell_73

set_option maxRecDepth 100000 in
theorem lX0_common_11 (l : Launch) (dC : Nat → ClassId) (dI : Nat → Nat → Nat) (cI cZ cJ : ClassId) (a : Nat → Nat) (n mw nf : Nat) (sg fo L le sc li ba ca st : Nat → Nat) (t : Nat) (hI : iv n mw nf sg fo L le sc li ba ca) (ht : t < 4)  {p : Program} {e : Env} {s : State} {m : MethodId} {below : List Frame} {meth : Method} {c : Code} (S : CallFix p m c cX0_common 5 s ([.ref (a 0), .int (nI t)] : List Value).toArray tbG RX0) (hr : meth.sig.returnType = (some .int)) (hlk : meth.locks = false) (hK : va_K (dC, dI) vcl (vty cI cZ cJ) s) (hP : va_P (dC, dI) vcl (vX cI cZ a n mw nf sg fo L le sc li ba ca st) s.heap) :
    ∀ (fuel : Nat) (i : Nat) (f : Nat) (k : Nat), mw - i < fuel → i ≤ mw → (f, k) = cmn L le li ba t i → k ≤ 15 ∧ f ≤ i → ∀ ls : Array Slot, lv_has ls 5 [(0, .ref (a 0)), (1, .int (nI t)), (2, .int (ffo f)), (3, .int (nI k)), (4, .int (nI i))] → W p l e ({ frames := 2, cells := 0, slots := 0, locals := 46 } : Room) s m ([.ref (a 0), .int (nI t)] : List Value).toArray below meth c s.heap [] 0 0 (MQ below (QcRead (nI ((cmn L le li ba t mw).2))) [.ref (a 0), .int (nI t)].toArray s 0 0 (fun _ => False)) (F0 m 11 ls []) := by
  obtain ⟨⟨hn, hm, hf⟩, ⟨hsg, hfo, hL, hle, hsc, hli, hba, hca⟩, hv1, hv2, hv3, hv4, hv5, hv6, hv7⟩ := id hI
  intro fuel
  induction fuel with
  | zero =>
    intro i f k hq
    exact absurd hq (Nat.not_lt_zero _)
  | succ fuel ih =>
    intro i f k hq hi hc hk ls hl
    have hlei := hle i
    refine lv_iload S.1 S.2.1 dX0_common_11 (lv_at hl 4 rfl) ?_
    refine lv_aload_n S.1 S.2.1 dX0_common_13 rfl (lv_at hl 0 rfl) ?_
    refine fX0_wordCount (v := .int (nI mw)) S hK hP rfl rfl dX0_common_14 ?_
    refine n_icmp_ge (x := i) (y := mw) (tgt := 67) S dX0_common_17 (by decide) (by omega) (by omega) (fun h17 => ?_) (fun h17 => ?_)
    · refine lv_iload_n S.1 S.2.1 dX0_common_67 rfl (lv_at hl 3 rfl) ?_
      exact rd_ret S hr hlk (rfl) (by rw [show mw = i by omega, ← hc]) dX0_common_68
    · refine lv_aload_n S.1 S.2.1 dX0_common_20 rfl (lv_at hl 0 rfl) ?_
      refine lv_iload S.1 S.2.1 dX0_common_21 (lv_at hl 4 rfl) ?_
      refine lv_iload_n S.1 S.2.1 dX0_common_23 rfl (lv_at hl 1 rfl) ?_
      refine rd_callV (C := RX0) (As := [.int (nI i), .int (nI t)]) (rest := []) S (kX0_isFreeIn l dC dI cI cZ cJ a n mw nf sg fo L le sc li ba ca st i t hI (by omega) ht) rB_blind (fun U hU hW => ⟨by rw [hU]; exact hP, va_K.moved hW.alike hK⟩) (va_recv hK hP (ci := 0) (q0 := 0) rfl rfl) gX0_87 hdX0_isFreeIn (by decide) hl.1 rfl (Nat.le_of_ble_eq_true rfl) dX0_common_24 ⟨Nat.zero_le _, Nat.zero_le _⟩ ?_
      refine n_bif_eq (b := fre li ba t i) (tgt := 61) S dX0_common_27 (by decide) (fun h27 => ?_) (fun h27 => ?_)
      · refine n_iinc (lv' := [(4, .int (nI (i + 1))), (0, .ref (a 0)), (1, .int (nI t)), (2, .int (ffo f)), (3, .int (nI k))]) (x := i) (k := 4) S dX0_common_61 hl rfl (by decide) rfl (fun ls hl => ?_)
        refine lv_goto (tgt := 11) S.1 S.2.1 dX0_common_64 (by decide) ?_
        exact ih (i + 1) f k (by omega) (by omega) (by first | (rw [cmn, ← hc, h27]; done) | (have hf0 : f = 0 := ffo_z h32 (by omega); rw [cmn, ← hc, h27, hf0]; rfl) | (rw [cmn, ← hc, h27]; exact (if_neg hf1).symm)) (by omega) ls (lv_sub hl [1, 2, 3, 4, 0] (by first | rfl | (rw [show ffo f = nI (f - 1) from if_neg hf1]; rfl)))
      · refine lv_iload_n S.1 S.2.1 dX0_common_30 rfl (lv_at hl 2 rfl) ?_
        refine lv_iconst (v := -1) S.1 S.2.1 dX0_common_31 (by decide) ?_
        refine lv_icmp_ne (tgt := 49) S.1 S.2.1 dX0_common_32 (by decide) (fun h32 => ?_) (fun h32 => ?_)
        · have hf1 : f ≠ 0 := fun q => h32 (by rw [q]; rfl)
          rw [show ffo f = nI (f - 1) from if_neg hf1] at hl
          refine lv_iload_n S.1 S.2.1 dX0_common_49 rfl (lv_at hl 3 rfl) ?_
          refine lv_aload_n S.1 S.2.1 dX0_common_50 rfl (lv_at hl 0 rfl) ?_
          refine lv_iload_n S.1 S.2.1 dX0_common_51 rfl (lv_at hl 2 rfl) ?_
          refine lv_iload S.1 S.2.1 dX0_common_52 (lv_at hl 4 rfl) ?_
          refine rd_callV (C := RX0) (As := [.int (nI (f - 1)), .int (nI i)]) (rest := [.int (nI k)]) S (kX0_sharedBeginning l dC dI cI cZ cJ a n mw nf sg fo L le sc li ba ca st (f - 1) i hI (by omega) (by omega)) rB_blind (fun U hU hW => ⟨by rw [hU]; exact hP, va_K.moved hW.alike hK⟩) (va_recv hK hP (ci := 0) (q0 := 0) rfl rfl) gX0_115 hdX0_sharedBeginning (by decide) hl.1 rfl (Nat.le_of_ble_eq_true rfl) dX0_common_54 ⟨Nat.zero_le _, Nat.zero_le _⟩ ?_
          have b54 := lcp_le (fun j => L (15 * (f - 1) + j)) (fun j => L (15 * i + j)) (min (le (f - 1)) (le i))
          refine n_min (x := k) (y := lcp (fun j => L (15 * (f - 1) + j)) (fun j => L (15 * i + j)) (min (le (f - 1)) (le i))) S hl.1 (by decide) (Nat.le_of_ble_eq_true rfl) ⟨Nat.zero_le _, Nat.zero_le _⟩ (by omega) (by omega) dX0_common_57 ?_
          refine lv_istore_n (lv' := [(3, .int (nI (min k (lcp (fun j => L (15 * (f - 1) + j)) (fun j => L (15 * i + j)) (min (le (f - 1)) (le i)))))), (0, .ref (a 0)), (1, .int (nI t)), (2, .int (nI (f - 1))), (4, .int (nI i))]) S.1 S.2.1 dX0_common_60 rfl hl (by decide) rfl (fun ls hl => ?_)
          refine n_iinc (lv' := [(4, .int (nI (i + 1))), (3, .int (nI (min k (lcp (fun j => L (15 * (f - 1) + j)) (fun j => L (15 * i + j)) (min (le (f - 1)) (le i)))))), (0, .ref (a 0)), (1, .int (nI t)), (2, .int (nI (f - 1)))]) (x := i) (k := 4) S dX0_common_61 hl rfl (by decide) rfl (fun ls hl => ?_)
          refine lv_goto (tgt := 11) S.1 S.2.1 dX0_common_64 (by decide) ?_
          exact ih (i + 1) f (min k (lcp (fun j => L (15 * (f - 1) + j)) (fun j => L (15 * i + j)) (min (le (f - 1)) (le i)))) (by omega) (by omega) (by first | (rw [cmn, ← hc, h27]; done) | (have hf0 : f = 0 := ffo_z h32 (by omega); rw [cmn, ← hc, h27, hf0]; rfl) | (rw [cmn, ← hc, h27]; exact (if_neg hf1).symm)) (by omega) ls (lv_sub hl [2, 3, 4, 1, 0] (by first | rfl | (rw [show ffo f = nI (f - 1) from if_neg hf1]; rfl)))
        · refine lv_iload S.1 S.2.1 dX0_common_35 (lv_at hl 4 rfl) ?_
          refine lv_istore_n (lv' := [(2, .int (nI i)), (0, .ref (a 0)), (1, .int (nI t)), (3, .int (nI k)), (4, .int (nI i))]) S.1 S.2.1 dX0_common_37 rfl hl (by decide) rfl (fun ls hl => ?_)
          refine lv_aload_n S.1 S.2.1 dX0_common_38 rfl (lv_at hl 1 rfl) ?_
          refine fX0_wordLengths (v := .ref (a 4)) S hK hP rfl rfl dX0_common_39 ?_
          refine lv_iload S.1 S.2.1 dX0_common_42 (lv_at hl 4 rfl) ?_
          refine n_iald S hK hP 4 0 rfl rfl dX0_common_44 (j := i) (by decide) (by omega) ?_
          have b44 := hle i
          refine lv_istore_n (lv' := [(3, .int (nI (le i))), (2, .int (nI i)), (0, .ref (a 0)), (1, .int (nI t)), (4, .int (nI i))]) S.1 S.2.1 dX0_common_45 rfl hl (by decide) rfl (fun ls hl => ?_)
          refine lv_goto (tgt := 61) S.1 S.2.1 dX0_common_46 (by decide) ?_
          refine n_iinc (lv' := [(4, .int (nI (i + 1))), (3, .int (nI (le i))), (2, .int (nI i)), (0, .ref (a 0)), (1, .int (nI t))]) (x := i) (k := 4) S dX0_common_61 hl rfl (by decide) rfl (fun ls hl => ?_)
          refine lv_goto (tgt := 11) S.1 S.2.1 dX0_common_64 (by decide) ?_
          exact ih (i + 1) (i + 1) (le i) (by omega) (by omega) (by first | (rw [cmn, ← hc, h27]; done) | (have hf0 : f = 0 := ffo_z h32 (by omega); rw [cmn, ← hc, h27, hf0]; rfl) | (rw [cmn, ← hc, h27]; exact (if_neg hf1).symm)) (by omega) ls (lv_sub hl [3, 4, 2, 1, 0] (by first | rfl | (rw [show ffo f = nI (f - 1) from if_neg hf1]; rfl)))
set_option maxRecDepth 100000 in
theorem kX0_common (l : Launch) (dC : Nat → ClassId) (dI : Nat → Nat → Nat) (cI cZ cJ : ClassId) (a : Nat → Nat) (n mw nf : Nat) (sg fo L le sc li ba ca st : Nat → Nat) (t : Nat) (hI : iv n mw nf sg fo L le sc li ba ca) (ht : t < 4) : rd l yX0_common cX0_common 5 (some .int) 2 46 [.ref (a 0), .int (nI t)] (rB dC dI cI cZ cJ (vX cI cZ a n mw nf sg fo L le sc li ba ca st)) (nI ((cmn L le li ba t mw).2)) := by
  refine rd_ofW RX0 (by decide) rfl (Nat.le_of_ble_eq_true rfl) ?_
  intro p e s m below meth c S hr hlk hB ls hl
  obtain ⟨hP, hK⟩ := hB
  have hl : lv_has ls 5 [(0, .ref (a 0)), (1, .int (nI t))] := hl
  obtain ⟨⟨hn, hm, hf⟩, ⟨hsg, hfo, hL, hle, hsc, hli, hba, hca⟩, hv1, hv2, hv3, hv4, hv5, hv6, hv7⟩ := id hI
  refine lv_iload_n S.1 S.2.1 dX0_common_0 rfl (lv_at hl 1 rfl) ?_
  refine rdv_callS (As := [.int (nI t)]) (rest := []) S (kX0_needList l t ht) tr_blind (fun _ _ _ => trivial) gX0_56 hdX0_needList (by decide) hl.1 rfl (Nat.le_of_ble_eq_true rfl) dX0_common_1 ⟨Nat.zero_le _, Nat.zero_le _⟩ ?_
  refine lv_iconst (v := -1) S.1 S.2.1 dX0_common_4 (by decide) ?_
  refine lv_istore_n (lv' := [(2, .int (-1)), (0, .ref (a 0)), (1, .int (nI t))]) S.1 S.2.1 dX0_common_5 rfl hl (by decide) rfl (fun ls hl => ?_)
  refine lv_iconst (v := (nI 0)) S.1 S.2.1 dX0_common_6 (by decide) ?_
  refine lv_istore_n (lv' := [(3, .int (nI 0)), (2, .int (-1)), (0, .ref (a 0)), (1, .int (nI t))]) S.1 S.2.1 dX0_common_7 rfl hl (by decide) rfl (fun ls hl => ?_)
  refine lv_iconst (v := (nI 0)) S.1 S.2.1 dX0_common_8 (by decide) ?_
  refine lv_istore (lv' := [(4, .int (nI 0)), (3, .int (nI 0)), (2, .int (-1)), (0, .ref (a 0)), (1, .int (nI t))]) S.1 S.2.1 dX0_common_9 hl (by decide) rfl (fun ls hl => ?_)
  exact lX0_common_11 l dC dI cI cZ cJ a n mw nf sg fo L le sc li ba ca st t hI ht S hr hlk hK hP _ 0 0 0 (Nat.lt_succ_self _) (by omega) rfl (by omega) ls (lv_sub hl [3, 4, 2, 1, 0] (by first | rfl | (rw [show ffo f = nI (f - 1) from if_neg hf1]; rfl)))
