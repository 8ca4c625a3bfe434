/-! ===== the class: mixed ===== -/
theorem nI_dn (b d : Nat) : (nI b - nI d) + Int32.ofInt (-1) = nI b - nI (d + 1) := by
  have e1 : Int32.ofInt (-1) = -(1 : Int32) := by decide
  rw [e1, nI_succ, Int32.sub_eq_add_neg, Int32.sub_eq_add_neg, Int32.neg_add, Int32.sub_eq_add_neg (-nI d), ← Int32.add_assoc]
theorem iz_ge {b d : Nat} (h : ¬ nI b - nI d < 0) (hb : b < 2 ^ 30) (hd : d < 2 ^ 30) : d ≤ b := by
  rw [Int32.lt_iff_toInt_lt, pk_sub_toInt hb hd, Int32.toInt_zero] at h
  omega
theorem iz_ng {b d : Nat} (h : nI b - nI d < 0) (hb : b < 2 ^ 30) (hd : d < 2 ^ 30) : ¬ d ≤ b := by
  rw [Int32.lt_iff_toInt_lt, pk_sub_toInt hb hd, Int32.toInt_zero] at h
  omega
/-- what is left of the row's letters when the first i letters of word w took theirs -/
def skW (n : Nat) (sg fo L : Nat → Nat) (w i : Nat) (st : Nat → Nat) : Nat → Nat := fun k => if k < 26 then rcn sg fo n k - wcn L w i k else st k
theorem skW_0 {n : Nat} {sg fo L st : Nat → Nat} {w : Nat} : rcS n sg fo st = skW n sg fo L w 0 st := by
  funext k
  rw [rcS, skW]
  split
  · rfl
  · rfl
theorem skW_le {n : Nat} {sg fo L st : Nat → Nat} {w i k : Nat} (h : k < 26) : skW n sg fo L w i st k ≤ n := by
  rw [skW, if_pos h]
  have := cnt_le (fun j => decide (fsg sg fo j = 97 + k)) n
  have e1 : rcn sg fo n k ≤ n := this
  omega
theorem wcn_s {L : Nat → Nat} {w i k : Nat} (h : L (15 * w + i) = 97 + k) : wcn L w (i + 1) k = wcn L w i k + 1 := by
  rw [wcn, cnt, decide_eq_true h]; rfl
theorem wcn_o {L : Nat → Nat} {w i k : Nat} (h : ¬ L (15 * w + i) = 97 + k) : wcn L w (i + 1) k = wcn L w i k := by
  rw [wcn, cnt, decide_eq_false h]; rfl
theorem skW_t {n : Nat} {sg fo L st : Nat → Nat} {w i : Nat} (h : 97 ≤ L (15 * w + i) ∧ L (15 * w + i) ≤ 122) (h0 : 0 < skW n sg fo L w i st (L (15 * w + i) - 97)) : va_up (skW n sg fo L w i st) (L (15 * w + i) - 97) (skW n sg fo L w i st (L (15 * w + i) - 97) - 1) = skW n sg fo L w (i + 1) st := by
  funext k
  by_cases q : k = L (15 * w + i) - 97
  · subst q
    rw [va_up_self, skW, skW, if_pos (by omega), if_pos (by omega), wcn_s (by omega)]; omega
  · rw [va_up_ne _ _ q, skW, skW]
    split
    · rw [wcn_o (by omega)]
    · rfl
theorem skW_f {n : Nat} {sg fo L st : Nat → Nat} {w i : Nat} (h : 97 ≤ L (15 * w + i) ∧ L (15 * w + i) ≤ 122) (h0 : skW n sg fo L w i st (L (15 * w + i) - 97) = 0) : skW n sg fo L w i st = skW n sg fo L w (i + 1) st := by
  funext k
  by_cases q : k = L (15 * w + i) - 97
  · subst q
    rw [h0]
    rw [skW, if_pos (by omega)] at h0
    rw [skW, if_pos (by omega), wcn_s (by omega)]; omega
  · rw [skW, skW]
    split
    · rw [wcn_o (by omega)]
    · rfl
theorem mx_t {n : Nat} {sg fo L st : Nat → Nat} {w i : Nat} (h : 97 ≤ L (15 * w + i) ∧ L (15 * w + i) ≤ 122) (h0 : 0 < skW n sg fo L w i st (L (15 * w + i) - 97)) : smm (fun k => wcn L w (i + 1) k - rcn sg fo n k) 26 = smm (fun k => wcn L w i k - rcn sg fo n k) 26 := by
  rw [skW, if_pos (by omega)] at h0
  refine smm_congr (fun k hk => ?_)
  by_cases q : k = L (15 * w + i) - 97
  · subst q
    rw [wcn_s (by omega)]; omega
  · rw [wcn_o (by omega)]
theorem mx_f {n : Nat} {sg fo L st : Nat → Nat} {w i : Nat} (h : 97 ≤ L (15 * w + i) ∧ L (15 * w + i) ≤ 122) (h0 : skW n sg fo L w i st (L (15 * w + i) - 97) = 0) : smm (fun k => wcn L w (i + 1) k - rcn sg fo n k) 26 = smm (fun k => wcn L w i k - rcn sg fo n k) 26 + 1 := by
  rw [skW, if_pos (by omega)] at h0
  refine smm_one (x := L (15 * w + i) - 97) (by omega) ?_ (fun k hk => ?_)
  · rw [wcn_s (by omega)]; omega
  · rw [wcn_o (by omega)]
def mxP (n : Nat) (sg fo L le li ba : Nat → Nat) (t w : Nat) : Bool := fre li ba t w && mxd n sg fo L le w
set_option maxRecDepth 100000 in
set_option maxHeartbeats 1000000 in
theorem lX0_isRowInSomeOrder_22 (l : Launch) (dC : Nat → ClassId) (dI : Nat → Nat → Nat) (cI cZ cJ : ClassId) (a : Nat → Nat) (n mw nf : Nat) (sg fo L le sc li ba ca st : Nat → Nat) (w : Nat) (hI : iv n mw nf sg fo L le sc li ba ca) (hw : w < mw)  {p : Program} {e : Env} {s : State} {m : MethodId} {below : List Frame} {meth : Method} {c : Code} (S : CallFix p m c cX0_isRowInSomeOrder 5 s ([.ref (a 0), .int (nI w)] : List Value).toArray tbG RX0) (hr : meth.sig.returnType = (some .boolean)) (hlk : meth.locks = false) (hK : va_K (dC, dI) vcl (vty cI cZ cJ) s) :
    ∀ (fuel : Nat) (b : Nat) (d : Nat) (i : Nat), n - i < fuel → le w = n → b = (cnt (fun j => decide (fsg sg fo j = 63)) n) → i ≤ n → d = smm (fun k => wcn L w i k - rcn sg fo n k) 26 → d ≤ i → ∀ (H : Heap) (locs : List Loc), va_P (dC, dI) vcl (vX cI cZ a n mw nf sg fo L le sc li ba ca (skW n sg fo L w i st)) H → va_D (wF (vX cI cZ a n mw nf sg fo L le sc li ba ca st)) (vX cI cZ a n mw nf sg fo L le sc li ba ca (skW n sg fo L w i st)) → va_S (wF (vX cI cZ a n mw nf sg fo L le sc li ba ca st)) s.heap H locs → ∀ ls : Array Slot, lv_has ls 5 [(0, .ref (a 0)), (1, .int (nI w)), (2, .int (nI b - nI d)), (3, .int (nI i))] → W p l e ({ frames := 3, cells := 0, slots := 0, locals := 65 } : Room) s m ([.ref (a 0), .int (nI w)] : List Value).toArray below meth c H locs 0 0 (MQ below (QwE dC dI (vX cI cZ a n mw nf sg fo L le sc li ba ca st) (fun z => vX cI cZ a n mw nf sg fo L le sc li ba ca z) (some (.int (nI (mxd n sg fo L le w).toNat)))) ([.ref (a 0), .int (nI w)] : List Value).toArray s 0 0 (wF (vX cI cZ a n mw nf sg fo L le sc li ba ca st))) (F0 m 22 ls []) := by
  obtain ⟨⟨hn, hm, hf⟩, ⟨hsg, hfo, hL, hle, hsc, hli, hba, hca⟩, hv1, hv2, hv3, hv4, hv5, hv6, hv7⟩ := id hI
  intro fuel
  induction fuel with
  | zero =>
    intro b d i hq
    exact absurd hq (Nat.not_lt_zero _)
  | succ fuel ih =>
    intro b d i hq hl0 eb hi ed hd H locs hP hD hS ls hl
    have hb1 : b ≤ n := by rw [eb]; exact cnt_le _ n
    refine lv_iload_n S.1 S.2.1 dX0_isRowInSomeOrder_22 rfl (lv_at hl 3 rfl) ?_
    refine lv_aload_n S.1 S.2.1 dX0_isRowInSomeOrder_23 rfl (lv_at hl 0 rfl) ?_
    refine fX0_signCount (v := .int (nI n)) S hK hP rfl rfl dX0_isRowInSomeOrder_24 ?_
    refine n_icmp_ge (x := i) (y := n) (tgt := 86) S dX0_isRowInSomeOrder_27 (by decide) (by omega) (by omega) (fun h27 => ?_) (fun h27 => ?_)
    · have ed2 : d = smm (fun k => wcn L w n k - rcn sg fo n k) 26 := by rw [ed, show i = n by omega]
      refine lv_iload_n S.1 S.2.1 dX0_isRowInSomeOrder_86 rfl (lv_at hl 2 rfl) ?_
      refine lv_if_lt (tgt := 94) S.1 S.2.1 dX0_isRowInSomeOrder_87 (by decide) (fun h87 => ?_) (fun h87 => ?_)
      · refine lv_iconst (v := (nI 0)) S.1 S.2.1 dX0_isRowInSomeOrder_94 (by decide) ?_
        exact wrE_ret (z := (skW n sg fo L w i st)) S hr hlk (rfl) (by first | (rw [mxd_t hl0 ((mx_key hI hw hl0).mp (by rw [← ed2, ← eb]; exact iz_ge h87 (by omega) (by omega)))]; rfl) | (rw [mxd_n (fun q => iz_ng h87 (by omega) (by omega) (by rw [ed2, eb]; exact (mx_key hI hw hl0).mpr q))]; rfl)) hP (rfl) hS dX0_isRowInSomeOrder_95
      · refine lv_iconst (v := (nI 1)) S.1 S.2.1 dX0_isRowInSomeOrder_90 (by decide) ?_
        refine lv_goto (tgt := 95) S.1 S.2.1 dX0_isRowInSomeOrder_91 (by decide) ?_
        exact wrE_ret (z := (skW n sg fo L w i st)) S hr hlk (rfl) (by first | (rw [mxd_t hl0 ((mx_key hI hw hl0).mp (by rw [← ed2, ← eb]; exact iz_ge h87 (by omega) (by omega)))]; rfl) | (rw [mxd_n (fun q => iz_ng h87 (by omega) (by omega) (by rw [ed2, eb]; exact (mx_key hI hw hl0).mpr q))]; rfl)) hP (rfl) hS dX0_isRowInSomeOrder_95
    · refine lv_aload_n S.1 S.2.1 dX0_isRowInSomeOrder_30 rfl (lv_at hl 0 rfl) ?_
      refine lv_iload_n S.1 S.2.1 dX0_isRowInSomeOrder_31 rfl (lv_at hl 1 rfl) ?_
      refine lv_iload_n S.1 S.2.1 dX0_isRowInSomeOrder_32 rfl (lv_at hl 3 rfl) ?_
      refine rd_callV (C := RX0) (As := [.int (nI w), .int (nI i)]) (rest := []) S (kX0_letterOrNone l dC dI cI cZ cJ a n mw nf sg fo L le sc li ba ca (skW n sg fo L w i st) w (nI i) hI (by omega)) rB_blind (fun U hU hW => ⟨by rw [hU]; exact hP, va_K.moved hW.alike hK⟩) (va_recv hK hP (ci := 0) (q0 := 0) rfl rfl) gX0_100 hdX0_letterOrNone (by decide) hl.1 rfl (Nat.le_of_ble_eq_true rfl) dX0_isRowInSomeOrder_33 ⟨Nat.zero_le _, Nat.zero_le _⟩ ?_
      rw [lon_in (by omega) (hle w)]
      have b33 := hL (15 * w + i)
      have c33 := hv4 w i hw (by omega)
      refine lv_bipush (v := (nI 97)) S.1 S.2.1 dX0_isRowInSomeOrder_36 (by decide) ?_
      refine n_isub (x := L (15 * w + i)) (y := 97) S dX0_isRowInSomeOrder_38 (by omega) ?_
      refine lv_istore (lv' := [(4, .int (nI ((L (15 * w + i)) - 97))), (0, .ref (a 0)), (1, .int (nI w)), (2, .int (nI b - nI d)), (3, .int (nI i))]) S.1 S.2.1 dX0_isRowInSomeOrder_39 hl (by decide) rfl (fun ls hl => ?_)
      refine lv_iload S.1 S.2.1 dX0_isRowInSomeOrder_41 (lv_at hl 0 rfl) ?_
      refine n_if_lt (x := (L (15 * w + i)) - 97) (tgt := 77) S dX0_isRowInSomeOrder_43 (by decide) (by omega) ?_
      refine lv_iload S.1 S.2.1 dX0_isRowInSomeOrder_46 (lv_at hl 0 rfl) ?_
      refine lv_bipush (v := (nI 26)) S.1 S.2.1 dX0_isRowInSomeOrder_48 (by decide) ?_
      refine n_icmp_ge (x := (L (15 * w + i)) - 97) (y := 26) (tgt := 77) S dX0_isRowInSomeOrder_50 (by decide) (by omega) (by omega) (fun h50 => ?_) (fun h50 => ?_)
      · exact absurd h50 (by omega)
      · refine lv_aload_n S.1 S.2.1 dX0_isRowInSomeOrder_53 rfl (lv_at hl 1 rfl) ?_
        refine fX0_stock (v := .ref (a 9)) S hK hP rfl rfl dX0_isRowInSomeOrder_54 ?_
        refine lv_iload S.1 S.2.1 dX0_isRowInSomeOrder_57 (lv_at hl 0 rfl) ?_
        refine n_iald S hK hP 9 0 rfl rfl dX0_isRowInSomeOrder_59 (j := (L (15 * w + i)) - 97) (by decide) (by omega) ?_
        have b59 := skW_le (sg := sg) (fo := fo) (n := n) (L := L) (w := w) (i := i) (st := st) (show L (15 * w + i) - 97 < 26 by omega)
        refine n_if_le (x := (skW n sg fo L w i st) ((L (15 * w + i)) - 97)) (tgt := 77) S dX0_isRowInSomeOrder_60 (by decide) (by omega) (fun h60 => ?_) (fun h60 => ?_)
        · refine lv_iinc (v := nI b - nI (d + 1)) (lv' := [(2, .int (nI b - nI (d + 1))), (4, .int (nI ((L (15 * w + i)) - 97))), (0, .ref (a 0)), (1, .int (nI w)), (3, .int (nI i))]) (k := 3) S.1 S.2.1 dX0_isRowInSomeOrder_77 hl rfl (nI_dn b d) (by decide) rfl (fun ls hl => ?_)
          refine n_iinc (lv' := [(3, .int (nI (i + 1))), (2, .int (nI b - nI (d + 1))), (4, .int (nI ((L (15 * w + i)) - 97))), (0, .ref (a 0)), (1, .int (nI w))]) (x := i) (k := 4) S dX0_isRowInSomeOrder_80 hl rfl (by decide) rfl (fun ls hl => ?_)
          refine lv_goto (tgt := 22) S.1 S.2.1 dX0_isRowInSomeOrder_83 (by decide) ?_
          have e0 : vX cI cZ a n mw nf sg fo L le sc li ba ca (skW n sg fo L w i st) = vX cI cZ a n mw nf sg fo L le sc li ba ca (skW n sg fo L w (i + 1) st) := (by rw [skW_f (show 97 ≤ L (15 * w + i) ∧ L (15 * w + i) ≤ 122 by omega) h60])
          exact ih b (d + 1) (i + 1) (by omega) hl0 eb (by omega) (by rw [ed]; exact (mx_f (show 97 ≤ L (15 * w + i) ∧ L (15 * w + i) ≤ 122 by omega) h60).symm) (by omega) _ _ (by rw [← e0]; exact hP) (by rw [← e0]; exact hD) hS ls (lv_sub hl [3, 4, 1, 0] rfl)
        · refine lv_aload_n S.1 S.2.1 dX0_isRowInSomeOrder_63 rfl (lv_at hl 1 rfl) ?_
          refine fX0_stock (v := .ref (a 9)) S hK hP rfl rfl dX0_isRowInSomeOrder_64 ?_
          refine lv_iload S.1 S.2.1 dX0_isRowInSomeOrder_67 (lv_at hl 0 rfl) ?_
          refine lv_dup2_11 S.1 S.2.1 dX0_isRowInSomeOrder_69 rfl rfl ?_
          refine n_iald S hK hP 9 0 rfl rfl dX0_isRowInSomeOrder_70 (j := (L (15 * w + i)) - 97) (by decide) (by omega) ?_
          refine lv_iconst (v := (nI 1)) S.1 S.2.1 dX0_isRowInSomeOrder_71 (by decide) ?_
          refine n_isub (x := (skW n sg fo L w i st) ((L (15 * w + i)) - 97)) (y := 1) S dX0_isRowInSomeOrder_72 h60 ?_
          refine n_iast S hK hP hD hS 9 0 rfl rfl dX0_isRowInSomeOrder_73 (j := (L (15 * w + i)) - 97) (x := ((skW n sg fo L w i st) ((L (15 * w + i)) - 97)) - 1) (by decide) (by omega) (fun H locs hP hD hS => ?_)
          have hP : va_P (dC, dI) vcl (vX cI cZ a n mw nf sg fo L le sc li ba ca (va_up (skW n sg fo L w i st) ((L (15 * w + i)) - 97) (((skW n sg fo L w i st) ((L (15 * w + i)) - 97)) - 1))) H := hP
          have hD : va_D (wF (vX cI cZ a n mw nf sg fo L le sc li ba ca st)) (vX cI cZ a n mw nf sg fo L le sc li ba ca (va_up (skW n sg fo L w i st) ((L (15 * w + i)) - 97) (((skW n sg fo L w i st) ((L (15 * w + i)) - 97)) - 1))) := hD
          refine lv_goto (tgt := 80) S.1 S.2.1 dX0_isRowInSomeOrder_74 (by decide) ?_
          refine n_iinc (lv' := [(3, .int (nI (i + 1))), (4, .int (nI ((L (15 * w + i)) - 97))), (0, .ref (a 0)), (1, .int (nI w)), (2, .int (nI b - nI d))]) (x := i) (k := 4) S dX0_isRowInSomeOrder_80 hl rfl (by decide) rfl (fun ls hl => ?_)
          refine lv_goto (tgt := 22) S.1 S.2.1 dX0_isRowInSomeOrder_83 (by decide) ?_
          have e0 : vX cI cZ a n mw nf sg fo L le sc li ba ca (va_up (skW n sg fo L w i st) ((L (15 * w + i)) - 97) (((skW n sg fo L w i st) ((L (15 * w + i)) - 97)) - 1)) = vX cI cZ a n mw nf sg fo L le sc li ba ca (skW n sg fo L w (i + 1) st) := (by rw [skW_t (show 97 ≤ L (15 * w + i) ∧ L (15 * w + i) ≤ 122 by omega) h60])
          exact ih b d (i + 1) (by omega) hl0 eb (by omega) (by rw [ed]; exact (mx_t (show 97 ≤ L (15 * w + i) ∧ L (15 * w + i) ≤ 122 by omega) h60).symm) (by omega) _ _ (by rw [← e0]; exact hP) (by rw [← e0]; exact hD) hS ls (lv_sub hl [2, 3, 4, 0] rfl)
set_option maxRecDepth 100000 in
set_option maxHeartbeats 1000000 in
theorem kX0_isRowInSomeOrder (l : Launch) (dC : Nat → ClassId) (dI : Nat → Nat → Nat) (cI cZ cJ : ClassId) (a : Nat → Nat) (n mw nf : Nat) (sg fo L le sc li ba ca st : Nat → Nat) (w : Nat) (hI : iv n mw nf sg fo L le sc li ba ca) (hw : w < mw) : wrE l yX0_isRowInSomeOrder cX0_isRowInSomeOrder 5 (some .boolean) 3 65 [.ref (a 0), .int (nI w)] dC dI cI cZ cJ (vX cI cZ a n mw nf sg fo L le sc li ba ca st) (fun z => vX cI cZ a n mw nf sg fo L le sc li ba ca z) (some (.int (nI (mxd n sg fo L le w).toNat))) := by
  refine wrE_ofW RX0 (by decide) rfl (Nat.le_of_ble_eq_true rfl) ?_
  intro p e s m below meth c S hr hlk hK hP hD hS ls hl
  have hl : lv_has ls 5 [(0, .ref (a 0)), (1, .int (nI w))] := hl
  obtain ⟨⟨hn, hm, hf⟩, ⟨hsg, hfo, hL, hle, hsc, hli, hba, hca⟩, hv1, hv2, hv3, hv4, hv5, hv6, hv7⟩ := id hI
  refine lv_aload_n S.1 S.2.1 dX0_isRowInSomeOrder_0 rfl (lv_at hl 0 rfl) ?_
  refine fX0_wordLengths (v := .ref (a 4)) S hK hP rfl rfl dX0_isRowInSomeOrder_1 ?_
  refine lv_iload_n S.1 S.2.1 dX0_isRowInSomeOrder_4 rfl (lv_at hl 1 rfl) ?_
  refine n_iald S hK hP 4 0 rfl rfl dX0_isRowInSomeOrder_5 (j := w) (by decide) (by omega) ?_
  have b5 := hle w
  refine lv_aload_n S.1 S.2.1 dX0_isRowInSomeOrder_6 rfl (lv_at hl 0 rfl) ?_
  refine fX0_signCount (v := .int (nI n)) S hK hP rfl rfl dX0_isRowInSomeOrder_7 ?_
  refine n_icmp_eq (x := le w) (y := n) (tgt := 15) S dX0_isRowInSomeOrder_10 (by decide) (by omega) (by omega) (fun h10 => ?_) (fun h10 => ?_)
  · refine lv_aload_n S.1 S.2.1 dX0_isRowInSomeOrder_15 rfl (lv_at hl 0 rfl) ?_
    refine wr_callV (C := RX0) (As := []) (rest := []) S (kX0_fillStock l dC dI cI cZ cJ a n mw nf sg fo L le sc li ba ca st hI) hK [] [] hP hD hS rfl (va_recv hK hP (ci := 0) (q0 := 0) rfl rfl) gX0_134 hdX0_fillStock (by decide) hl.1 rfl (Nat.le_of_ble_eq_true rfl) dX0_isRowInSomeOrder_16 ⟨Nat.zero_le _, Nat.zero_le _⟩ (fun H locs hP hD hS => ?_)
    have hP : va_P (dC, dI) vcl (vX cI cZ a n mw nf sg fo L le sc li ba ca (rcS n sg fo st)) H := hP
    have hD : va_D (wF (vX cI cZ a n mw nf sg fo L le sc li ba ca st)) (vX cI cZ a n mw nf sg fo L le sc li ba ca (rcS n sg fo st)) := hD
    obtain ⟨b, eb⟩ : ∃ b, b = cnt (fun j => decide (fsg sg fo j = 63)) n := ⟨_, rfl⟩
    rw [← eb]
    have hb1 : b ≤ n := by rw [eb]; exact cnt_le _ n
    rw [show nI b = nI b - nI 0 from (Int32.sub_zero (nI b)).symm]
    refine lv_istore_n (lv' := [(2, .int (nI b - nI 0)), (0, .ref (a 0)), (1, .int (nI w))]) S.1 S.2.1 dX0_isRowInSomeOrder_19 rfl hl (by decide) rfl (fun ls hl => ?_)
    refine lv_iconst (v := (nI 0)) S.1 S.2.1 dX0_isRowInSomeOrder_20 (by decide) ?_
    refine lv_istore_n (lv' := [(3, .int (nI 0)), (2, .int (nI b - nI 0)), (0, .ref (a 0)), (1, .int (nI w))]) S.1 S.2.1 dX0_isRowInSomeOrder_21 rfl hl (by decide) rfl (fun ls hl => ?_)
    have e0 : vX cI cZ a n mw nf sg fo L le sc li ba ca (rcS n sg fo st) = vX cI cZ a n mw nf sg fo L le sc li ba ca (skW n sg fo L w 0 st) := (by rw [skW_0])
    exact lX0_isRowInSomeOrder_22 l dC dI cI cZ cJ a n mw nf sg fo L le sc li ba ca st w hI hw S hr hlk hK _ b 0 0 (Nat.lt_succ_self _) h10 eb (by omega) (by rw [smm_zero.mpr (fun k _ => show wcn L w 0 k - rcn sg fo n k = 0 from Nat.zero_sub _)]) (by omega) _ _ (by rw [← e0]; exact hP) (by rw [← e0]; exact hD) hS ls (lv_sub hl [2, 3, 1, 0] rfl)
  · refine lv_iconst (v := (nI 0)) S.1 S.2.1 dX0_isRowInSomeOrder_13 (by decide) ?_
    exact wrE_ret (z := st) S hr hlk (rfl) (by rw [mxd_l h10]; rfl) hP (rfl) hS dX0_isRowInSomeOrder_14

set_option maxRecDepth 100000 in
set_option maxHeartbeats 1000000 in
theorem lX0_mixed_8 (l : Launch) (dC : Nat → ClassId) (dI : Nat → Nat → Nat) (cI cZ cJ : ClassId) (a : Nat → Nat) (n mw nf : Nat) (sg fo L le sc li ba ca st : Nat → Nat) (t : Nat) (hI : iv n mw nf sg fo L le sc li ba ca) (ht : t < 4)  {p : Program} {e : Env} {s : State} {m : MethodId} {below : List Frame} {meth : Method} {c : Code} (S : CallFix p m c cX0_mixed 4 s ([.ref (a 0), .int (nI t)] : List Value).toArray tbG RX0) (hr : meth.sig.returnType = (some .int)) (hlk : meth.locks = false) (hK : va_K (dC, dI) vcl (vty cI cZ cJ) s) :
    ∀ (fuel : Nat) (i : Nat) (k : Nat) (sx : Nat → Nat), mw - i < fuel → i ≤ mw → k = cnt (mxP n sg fo L le li ba t) i → ∀ (H : Heap) (locs : List Loc), va_P (dC, dI) vcl (vX cI cZ a n mw nf sg fo L le sc li ba ca sx) H → va_D (wF (vX cI cZ a n mw nf sg fo L le sc li ba ca st)) (vX cI cZ a n mw nf sg fo L le sc li ba ca sx) → va_S (wF (vX cI cZ a n mw nf sg fo L le sc li ba ca st)) s.heap H locs → ∀ ls : Array Slot, lv_has ls 4 [(0, .ref (a 0)), (1, .int (nI t)), (2, .int (nI k)), (3, .int (nI i))] → W p l e ({ frames := 4, cells := 0, slots := 0, locals := 89 } : Room) s m ([.ref (a 0), .int (nI t)] : List Value).toArray below meth c H locs 0 0 (MQ below (QwE dC dI (vX cI cZ a n mw nf sg fo L le sc li ba ca st) (fun z => vX cI cZ a n mw nf sg fo L le sc li ba ca z) (some (.int (nI (cnt (mxP n sg fo L le li ba t) mw))))) ([.ref (a 0), .int (nI t)] : List Value).toArray s 0 0 (wF (vX cI cZ a n mw nf sg fo L le sc li ba ca st))) (F0 m 8 ls []) := by
  obtain ⟨⟨hn, hm, hf⟩, ⟨hsg, hfo, hL, hle, hsc, hli, hba, hca⟩, hv1, hv2, hv3, hv4, hv5, hv6, hv7⟩ := id hI
  intro fuel
  induction fuel with
  | zero =>
    intro i k sx hq
    exact absurd hq (Nat.not_lt_zero _)
  | succ fuel ih =>
    intro i k sx hq hi hk H locs hP hD hS ls hl
    have hki := cnt_le (mxP n sg fo L le li ba t) i
    refine lv_iload_n S.1 S.2.1 dX0_mixed_8 rfl (lv_at hl 3 rfl) ?_
    refine lv_aload_n S.1 S.2.1 dX0_mixed_9 rfl (lv_at hl 0 rfl) ?_
    refine fX0_wordCount (v := .int (nI mw)) S hK hP rfl rfl dX0_mixed_10 ?_
    refine n_icmp_ge (x := i) (y := mw) (tgt := 42) S dX0_mixed_13 (by decide) (by omega) (by omega) (fun h13 => ?_) (fun h13 => ?_)
    · refine lv_iload_n S.1 S.2.1 dX0_mixed_42 rfl (lv_at hl 2 rfl) ?_
      exact wrE_ret (z := sx) S hr hlk (rfl) (by rw [hk, show i = mw by omega]) hP (rfl) hS dX0_mixed_43
    · refine lv_aload_n S.1 S.2.1 dX0_mixed_16 rfl (lv_at hl 0 rfl) ?_
      refine lv_iload_n S.1 S.2.1 dX0_mixed_17 rfl (lv_at hl 3 rfl) ?_
      refine lv_iload_n S.1 S.2.1 dX0_mixed_18 rfl (lv_at hl 1 rfl) ?_
      refine rd_callV (C := RX0) (As := [.int (nI i), .int (nI t)]) (rest := []) S (kX0_isFreeIn l dC dI cI cZ cJ a n mw nf sg fo L le sc li ba ca sx i t hI (by omega) ht) rB_blind (fun U hU hW => ⟨by rw [hU]; exact hP, va_K.moved hW.alike hK⟩) (va_recv hK hP (ci := 0) (q0 := 0) rfl rfl) gX0_87 hdX0_isFreeIn (by decide) hl.1 rfl (Nat.le_of_ble_eq_true rfl) dX0_mixed_19 ⟨Nat.zero_le _, Nat.zero_le _⟩ ?_
      refine n_bif_eq (b := fre li ba t i) (tgt := 36) S dX0_mixed_22 (by decide) (fun h22 => ?_) (fun h22 => ?_)
      · refine n_iinc (lv' := [(3, .int (nI (i + 1))), (0, .ref (a 0)), (1, .int (nI t)), (2, .int (nI k))]) (x := i) (k := 3) S dX0_mixed_36 hl rfl (by decide) rfl (fun ls hl => ?_)
        refine lv_goto (tgt := 8) S.1 S.2.1 dX0_mixed_39 (by decide) ?_
        exact ih (i + 1) k sx (by omega) (by omega) (by rw [cnt, ← hk, mxP]; first | (rw [h22, h30] <;> rfl) | (rw [h22] <;> rfl)) _ _ hP hD hS ls (lv_sub hl [1, 2, 3, 0] rfl)
      · refine lv_aload_n S.1 S.2.1 dX0_mixed_25 rfl (lv_at hl 0 rfl) ?_
        refine lv_iload_n S.1 S.2.1 dX0_mixed_26 rfl (lv_at hl 3 rfl) ?_
        refine wrE_callV (C := RX0) (As := [.int (nI i)]) (rest := []) S (kX0_isRowInSomeOrder l dC dI cI cZ cJ a n mw nf sg fo L le sc li ba ca sx i hI (by omega)) hK [] [] hP hD hS (fun _ => rfl) (va_recv hK hP (ci := 0) (q0 := 0) rfl rfl) gX0_106 hdX0_isRowInSomeOrder (by decide) hl.1 rfl (Nat.le_of_ble_eq_true rfl) dX0_mixed_27 ⟨Nat.zero_le _, Nat.zero_le _⟩ (fun z27 H locs hP hD hS => ?_)
        have hP : va_P (dC, dI) vcl (vX cI cZ a n mw nf sg fo L le sc li ba ca z27) H := hP
        have hD : va_D (wF (vX cI cZ a n mw nf sg fo L le sc li ba ca st)) (vX cI cZ a n mw nf sg fo L le sc li ba ca z27) := hD
        refine n_bif_eq (b := mxd n sg fo L le i) (tgt := 36) S dX0_mixed_30 (by decide) (fun h30 => ?_) (fun h30 => ?_)
        · refine n_iinc (lv' := [(3, .int (nI (i + 1))), (0, .ref (a 0)), (1, .int (nI t)), (2, .int (nI k))]) (x := i) (k := 3) S dX0_mixed_36 hl rfl (by decide) rfl (fun ls hl => ?_)
          refine lv_goto (tgt := 8) S.1 S.2.1 dX0_mixed_39 (by decide) ?_
          exact ih (i + 1) k z27 (by omega) (by omega) (by rw [cnt, ← hk, mxP]; first | (rw [h22, h30] <;> rfl) | (rw [h22] <;> rfl)) _ _ hP hD hS ls (lv_sub hl [1, 2, 3, 0] rfl)
        · refine n_iinc (lv' := [(2, .int (nI (k + 1))), (0, .ref (a 0)), (1, .int (nI t)), (3, .int (nI i))]) (x := k) (k := 2) S dX0_mixed_33 hl rfl (by decide) rfl (fun ls hl => ?_)
          refine n_iinc (lv' := [(3, .int (nI (i + 1))), (2, .int (nI (k + 1))), (0, .ref (a 0)), (1, .int (nI t))]) (x := i) (k := 3) S dX0_mixed_36 hl rfl (by decide) rfl (fun ls hl => ?_)
          refine lv_goto (tgt := 8) S.1 S.2.1 dX0_mixed_39 (by decide) ?_
          exact ih (i + 1) (k + 1) z27 (by omega) (by omega) (by rw [cnt, ← hk, mxP]; first | (rw [h22, h30] <;> rfl) | (rw [h22] <;> rfl)) _ _ hP hD hS ls (lv_sub hl [2, 3, 1, 0] rfl)
set_option maxRecDepth 100000 in
set_option maxHeartbeats 1000000 in
theorem kX0_mixed (l : Launch) (dC : Nat → ClassId) (dI : Nat → Nat → Nat) (cI cZ cJ : ClassId) (a : Nat → Nat) (n mw nf : Nat) (sg fo L le sc li ba ca st : Nat → Nat) (t : Nat) (hI : iv n mw nf sg fo L le sc li ba ca) (ht : t < 4) : wrE l yX0_mixed cX0_mixed 4 (some .int) 4 89 [.ref (a 0), .int (nI t)] dC dI cI cZ cJ (vX cI cZ a n mw nf sg fo L le sc li ba ca st) (fun z => vX cI cZ a n mw nf sg fo L le sc li ba ca z) (some (.int (nI (cnt (mxP n sg fo L le li ba t) mw)))) := by
  refine wrE_ofW RX0 (by decide) rfl (Nat.le_of_ble_eq_true rfl) ?_
  intro p e s m below meth c S hr hlk hK hP hD hS ls hl
  have hl : lv_has ls 4 [(0, .ref (a 0)), (1, .int (nI t))] := hl
  obtain ⟨⟨hn, hm, hf⟩, ⟨hsg, hfo, hL, hle, hsc, hli, hba, hca⟩, hv1, hv2, hv3, hv4, hv5, hv6, hv7⟩ := id hI
  refine lv_iload_n S.1 S.2.1 dX0_mixed_0 rfl (lv_at hl 1 rfl) ?_
  refine rdv_callS (As := [.int (nI t)]) (rest := []) S (kX0_needList l t ht) tr_blind (fun _ _ _ => trivial) gX0_56 hdX0_needList (by decide) hl.1 rfl (Nat.le_of_ble_eq_true rfl) dX0_mixed_1 ⟨Nat.zero_le _, Nat.zero_le _⟩ ?_
  refine lv_iconst (v := (nI 0)) S.1 S.2.1 dX0_mixed_4 (by decide) ?_
  refine lv_istore_n (lv' := [(2, .int (nI 0)), (0, .ref (a 0)), (1, .int (nI t))]) S.1 S.2.1 dX0_mixed_5 rfl hl (by decide) rfl (fun ls hl => ?_)
  refine lv_iconst (v := (nI 0)) S.1 S.2.1 dX0_mixed_6 (by decide) ?_
  refine lv_istore_n (lv' := [(3, .int (nI 0)), (2, .int (nI 0)), (0, .ref (a 0)), (1, .int (nI t))]) S.1 S.2.1 dX0_mixed_7 rfl hl (by decide) rfl (fun ls hl => ?_)
  exact lX0_mixed_8 l dC dI cI cZ cJ a n mw nf sg fo L le sc li ba ca st t hI ht S hr hlk hK _ 0 0 st (Nat.lt_succ_self _) (by omega) rfl _ _ hP hD hS ls (lv_sub hl [2, 3, 1, 0] rfl)
