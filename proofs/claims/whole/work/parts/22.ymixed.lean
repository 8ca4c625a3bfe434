/-! ===== the reference: mixed ===== -/
theorem updI_self (f : Nat → Int32) (k : Nat) (x : Int32) : upd f k x k = x := if_pos rfl
theorem updI_ne (f : Nat → Int32) {k j : Nat} (x : Int32) (h : j ≠ k) : upd f k x j = f j := if_neg h
def zrW (i : Nat) (wa : Nat → Int32) : Nat → Int32 := fun k => if k < i then nI 0 else wa k
theorem zrW_0 {wa : Nat → Int32} : zrW 0 wa = wa := by
  funext k; rw [zrW, if_neg (by omega)]
theorem zrW_s {i : Nat} {wa : Nat → Int32} : upd (zrW i wa) i (nI 0) = zrW (i + 1) wa := by
  funext k
  by_cases q : k = i
  · subst q; rw [updI_self, zrW, if_pos (by omega)]
  · rw [updI_ne _ _ q, zrW, zrW]
    by_cases z : k < i
    · rw [if_pos z, if_pos (by omega)]
    · rw [if_neg z, if_neg (by omega)]
def rcW (i : Nat) (sg fo : Nat → Nat) (wa : Nat → Int32) : Nat → Int32 := fun k => if k < 26 then nI (rcn sg fo i k) else wa k
theorem rcW_0 {sg fo : Nat → Nat} {wa : Nat → Int32} : zrW 26 wa = rcW 0 sg fo wa := rfl
theorem rcW_b {i : Nat} {sg fo : Nat → Nat} {wa : Nat → Int32} (h : fsg sg fo i = 63) : rcW i sg fo wa = rcW (i + 1) sg fo wa := by
  funext k
  rw [rcW, rcW]
  split
  · rw [rcn, rcn, cnt, decide_eq_false (by omega)]; rfl
  · rfl
theorem rcW_l {i : Nat} {sg fo : Nat → Nat} {wa : Nat → Int32} (h : 97 ≤ fsg sg fo i ∧ fsg sg fo i ≤ 122) : upd (rcW i sg fo wa) (fsg sg fo i - 97) (rcW i sg fo wa (fsg sg fo i - 97) + nI 1) = rcW (i + 1) sg fo wa := by
  funext k
  by_cases q : k = fsg sg fo i - 97
  · subst q
    rw [updI_self, rcW, rcW, if_pos (by omega), if_pos (by omega), nI_add, rcn, rcn, cnt, decide_eq_true (by omega)]; rfl
  · rw [updI_ne _ _ q, rcW, rcW]
    split
    · rw [rcn, rcn, cnt, decide_eq_false (by omega)]; rfl
    · rfl
def wdf (n : Nat) (sg fo L : Nat → Nat) (w i : Nat) (wa : Nat → Int32) : Nat → Int32 := fun k => if k < 26 then nI (rcn sg fo n k) - nI (wcn L w i k) else wa k
theorem wdf_0 {n : Nat} {sg fo L : Nat → Nat} {w : Nat} {wa : Nat → Int32} : rcW n sg fo wa = wdf n sg fo L w 0 wa := by
  funext k
  rw [rcW, wdf]
  split
  · show _ = nI (rcn sg fo n k) - nI 0
    rw [show nI 0 = 0 from nI_0, Int32.sub_zero]
  · rfl
theorem nI_dn2 (b d : Nat) : (nI b - nI d) - nI 1 = nI b - nI (d + 1) := by
  rw [← nI_dn b d, Int32.sub_eq_add_neg (nI b - nI d) (nI 1)]
  rfl
theorem wdf_s {n : Nat} {sg fo L : Nat → Nat} {w i : Nat} {wa : Nat → Int32} (h : 97 ≤ L (15 * w + i) ∧ L (15 * w + i) ≤ 122) : upd (wdf n sg fo L w i wa) (L (15 * w + i) - 97) (wdf n sg fo L w i wa (L (15 * w + i) - 97) - nI 1) = wdf n sg fo L w (i + 1) wa := by
  funext k
  by_cases q : k = L (15 * w + i) - 97
  · subst q
    rw [updI_self, wdf, wdf, if_pos (by omega), if_pos (by omega), wcn_s (by omega), nI_dn2]
  · rw [updI_ne _ _ q, wdf, wdf]
    split
    · rw [wcn_o (by omega)]
    · rfl
theorem wdf_le {n : Nat} {sg fo L : Nat → Nat} {w k : Nat} : rcn sg fo n k ≤ n ∧ wcn L w n k ≤ n := ⟨cnt_le _ n, cnt_le _ n⟩
theorem wdf_l {n : Nat} {sg fo L : Nat → Nat} {w k : Nat} {wa : Nat → Int32} (hk : k < 26) (hn : n < 2 ^ 30) (h : wdf n sg fo L w n wa k ≤ 0) : rcn sg fo n k ≤ wcn L w n k := by
  have hb := wdf_le (n := n) (sg := sg) (fo := fo) (L := L) (w := w) (k := k)
  rw [wdf, if_pos hk, Int32.le_iff_toInt_le, pk_sub_toInt (by omega) (by omega), Int32.toInt_zero] at h
  omega
theorem wdf_g {n : Nat} {sg fo L : Nat → Nat} {w k : Nat} {wa : Nat → Int32} (hk : k < 26) (hn : n < 2 ^ 30) (h : ¬ wdf n sg fo L w n wa k ≤ 0) : ¬ rcn sg fo n k ≤ wcn L w n k := by
  have hb := wdf_le (n := n) (sg := sg) (fo := fo) (L := L) (w := w) (k := k)
  rw [wdf, if_pos hk, Int32.le_iff_toInt_le, pk_sub_toInt (by omega) (by omega), Int32.toInt_zero] at h
  omega
set_option maxRecDepth 100000 in
set_option maxHeartbeats 1000000 in
theorem lX1_isMixed_115 (l : Launch) (dC : Nat → ClassId) (dI : Nat → Nat → Nat) (cI cZ cJ : ClassId) (a : Nat → Nat) (th n mw nf : Nat) (sg fo L le sc li ba ca : Nat → Nat) (wa : Nat → Int32) (w : Nat) (hI : iv n mw nf sg fo L le sc li ba ca) (hw : w < mw)  {p : Program} {e : Env} {s : State} {m : MethodId} {below : List Frame} {meth : Method} {c : Code} (S : CallFix p m c cX1_isMixed 3 s ([.ref (a 0), .int (nI w)] : List Value).toArray tbG RX1) (hr : meth.sig.returnType = (some .boolean)) (hlk : meth.locks = false) (hK : va_K (dC, dI) vcl (vty cI cZ cJ) s) :
    ∀ (fuel : Nat) (i : Nat), 26 - i < fuel → le w = n → i ≤ 26 → (∀ k, k < i → rcn sg fo n k ≤ wcn L w n k) → ∀ (H : Heap) (locs : List Loc), va_P (dC, dI) vcl (vY cI cZ a th n mw nf sg fo L le sc li ba ca (wdf n sg fo L w n wa)) H → va_D (wF (vY cI cZ a th n mw nf sg fo L le sc li ba ca wa)) (vY cI cZ a th n mw nf sg fo L le sc li ba ca (wdf n sg fo L w n wa)) → va_S (wF (vY cI cZ a th n mw nf sg fo L le sc li ba ca wa)) s.heap H locs → ∀ ls : Array Slot, lv_has ls 3 [(0, .ref (a 0)), (1, .int (nI w)), (2, .int (nI i))] → W p l e ({ frames := 1, cells := 0, slots := 0, locals := 22 } : Room) s m ([.ref (a 0), .int (nI w)] : List Value).toArray below meth c H locs 0 0 (MQ below (QwE dC dI (vY cI cZ a th n mw nf sg fo L le sc li ba ca wa) (fun z => vY cI cZ a th n mw nf sg fo L le sc li ba ca z) (some (.int (nI (mxd n sg fo L le w).toNat)))) ([.ref (a 0), .int (nI w)] : List Value).toArray s 0 0 (wF (vY cI cZ a th n mw nf sg fo L le sc li ba ca wa))) (F0 m 115 ls []) := by
  obtain ⟨⟨hn, hm, hf⟩, ⟨hsg, hfo, hL, hle, hsc, hli, hba, hca⟩, hv1, hv2, hv3, hv4, hv5, hv6, hv7⟩ := id hI
  intro fuel
  induction fuel with
  | zero =>
    intro i hq
    exact absurd hq (Nat.not_lt_zero _)
  | succ fuel ih =>
    intro i hq hl0 hi hall H locs hP hD hS ls hl
    refine lv_iload_n S.1 S.2.1 dX1_isMixed_115 rfl (lv_at hl 2 rfl) ?_
    refine lv_bipush (v := (nI 26)) S.1 S.2.1 dX1_isMixed_116 (by decide) ?_
    refine n_icmp_ge (x := i) (y := 26) (tgt := 138) S dX1_isMixed_118 (by decide) (by omega) (by omega) (fun h118 => ?_) (fun h118 => ?_)
    · refine lv_iconst (v := (nI 1)) S.1 S.2.1 dX1_isMixed_138 (by decide) ?_
      exact wrE_ret (z := (wdf n sg fo L w n wa)) S hr hlk (rfl) (by rw [mxd_t hl0 (fun k hk => hall k (by omega))]; rfl) hP (rfl) hS dX1_isMixed_139
    · refine lv_aload_n S.1 S.2.1 dX1_isMixed_121 rfl (lv_at hl 0 rfl) ?_
      refine fX1_wanted (v := .ref (a 9)) S hK hP rfl rfl dX1_isMixed_122 ?_
      refine lv_iload_n S.1 S.2.1 dX1_isMixed_125 rfl (lv_at hl 2 rfl) ?_
      refine w_iald S hK hP 9 0 rfl rfl dX1_isMixed_126 (j := i) (by decide) (by omega) ?_
      refine lv_if_le (tgt := 132) S.1 S.2.1 dX1_isMixed_127 (by decide) (fun h127 => ?_) (fun h127 => ?_)
      · refine n_iinc (lv' := [(2, .int (nI (i + 1))), (0, .ref (a 0)), (1, .int (nI w))]) (x := i) (k := 2) S dX1_isMixed_132 hl rfl (by decide) rfl (fun ls hl => ?_)
        refine lv_goto (tgt := 115) S.1 S.2.1 dX1_isMixed_135 (by decide) ?_
        exact ih (i + 1) (by omega) hl0 (by omega) (lt_s hall (wdf_l (by omega) (by omega) h127)) _ _ hP hD hS ls (lv_sub hl [1, 2, 0] rfl)
      · refine lv_iconst (v := (nI 0)) S.1 S.2.1 dX1_isMixed_130 (by decide) ?_
        exact wrE_ret (z := (wdf n sg fo L w n wa)) S hr hlk (rfl) (by rw [mxd_f (k := i) (by omega) (wdf_g (by omega) (by omega) h127)]; rfl) hP (rfl) hS dX1_isMixed_131
set_option maxRecDepth 100000 in
set_option maxHeartbeats 1000000 in
theorem lX1_isMixed_81 (l : Launch) (dC : Nat → ClassId) (dI : Nat → Nat → Nat) (cI cZ cJ : ClassId) (a : Nat → Nat) (th n mw nf : Nat) (sg fo L le sc li ba ca : Nat → Nat) (wa : Nat → Int32) (w : Nat) (hI : iv n mw nf sg fo L le sc li ba ca) (hw : w < mw)  {p : Program} {e : Env} {s : State} {m : MethodId} {below : List Frame} {meth : Method} {c : Code} (S : CallFix p m c cX1_isMixed 3 s ([.ref (a 0), .int (nI w)] : List Value).toArray tbG RX1) (hr : meth.sig.returnType = (some .boolean)) (hlk : meth.locks = false) (hK : va_K (dC, dI) vcl (vty cI cZ cJ) s) :
    ∀ (fuel : Nat) (i : Nat), n - i < fuel → le w = n → i ≤ n → ∀ (H : Heap) (locs : List Loc), va_P (dC, dI) vcl (vY cI cZ a th n mw nf sg fo L le sc li ba ca (wdf n sg fo L w i wa)) H → va_D (wF (vY cI cZ a th n mw nf sg fo L le sc li ba ca wa)) (vY cI cZ a th n mw nf sg fo L le sc li ba ca (wdf n sg fo L w i wa)) → va_S (wF (vY cI cZ a th n mw nf sg fo L le sc li ba ca wa)) s.heap H locs → ∀ ls : Array Slot, lv_has ls 3 [(0, .ref (a 0)), (1, .int (nI w)), (2, .int (nI i))] → W p l e ({ frames := 1, cells := 0, slots := 0, locals := 22 } : Room) s m ([.ref (a 0), .int (nI w)] : List Value).toArray below meth c H locs 0 0 (MQ below (QwE dC dI (vY cI cZ a th n mw nf sg fo L le sc li ba ca wa) (fun z => vY cI cZ a th n mw nf sg fo L le sc li ba ca z) (some (.int (nI (mxd n sg fo L le w).toNat)))) ([.ref (a 0), .int (nI w)] : List Value).toArray s 0 0 (wF (vY cI cZ a th n mw nf sg fo L le sc li ba ca wa))) (F0 m 81 ls []) := by
  obtain ⟨⟨hn, hm, hf⟩, ⟨hsg, hfo, hL, hle, hsc, hli, hba, hca⟩, hv1, hv2, hv3, hv4, hv5, hv6, hv7⟩ := id hI
  intro fuel
  induction fuel with
  | zero =>
    intro i hq
    exact absurd hq (Nat.not_lt_zero _)
  | succ fuel ih =>
    intro i hq hl0 hi H locs hP hD hS ls hl
    refine lv_iload_n S.1 S.2.1 dX1_isMixed_81 rfl (lv_at hl 2 rfl) ?_
    refine lv_aload_n S.1 S.2.1 dX1_isMixed_82 rfl (lv_at hl 0 rfl) ?_
    refine fX1_size (v := .int (nI n)) S hK hP rfl rfl dX1_isMixed_83 ?_
    refine n_icmp_ge (x := i) (y := n) (tgt := 113) S dX1_isMixed_86 (by decide) (by omega) (by omega) (fun h86 => ?_) (fun h86 => ?_)
    · refine lv_iconst (v := (nI 0)) S.1 S.2.1 dX1_isMixed_113 (by decide) ?_
      refine lv_istore_n (lv' := [(2, .int (nI 0)), (0, .ref (a 0)), (1, .int (nI w))]) S.1 S.2.1 dX1_isMixed_114 rfl hl (by decide) rfl (fun ls hl => ?_)
      have e0 : vY cI cZ a th n mw nf sg fo L le sc li ba ca (wdf n sg fo L w i wa) = vY cI cZ a th n mw nf sg fo L le sc li ba ca (wdf n sg fo L w n wa) := (by rw [show i = n by omega])
      exact lX1_isMixed_115 l dC dI cI cZ cJ a th n mw nf sg fo L le sc li ba ca wa w hI hw S hr hlk hK _ 0 (Nat.lt_succ_self _) hl0 (by omega) (fun k hk => absurd hk (Nat.not_lt_zero k)) _ _ (by rw [← e0]; exact hP) (by rw [← e0]; exact hD) hS ls (lv_sub hl [1, 2, 0] rfl)
    · refine lv_aload_n S.1 S.2.1 dX1_isMixed_89 rfl (lv_at hl 0 rfl) ?_
      refine fX1_wanted (v := .ref (a 9)) S hK hP rfl rfl dX1_isMixed_90 ?_
      refine lv_aload_n S.1 S.2.1 dX1_isMixed_93 rfl (lv_at hl 0 rfl) ?_
      refine lv_iload_n S.1 S.2.1 dX1_isMixed_94 rfl (lv_at hl 1 rfl) ?_
      refine lv_iload_n S.1 S.2.1 dX1_isMixed_95 rfl (lv_at hl 2 rfl) ?_
      refine rd_callV (C := RX1) (As := [.int (nI w), .int (nI i)]) (rest := [.ref (a 9)]) S (kX1_letterAt l dC dI cI cZ cJ a th n mw nf sg fo L le sc li ba ca (wdf n sg fo L w i wa) w i hI (by omega) (by omega)) rB_blind (fun U hU hW => ⟨by rw [hU]; exact hP, va_K.moved hW.alike hK⟩) (va_recv hK hP (ci := 1) (q0 := 0) rfl rfl) gX1_60 hdX1_letterAt (by decide) hl.1 rfl (Nat.le_of_ble_eq_true rfl) dX1_isMixed_96 ⟨Nat.zero_le _, Nat.zero_le _⟩ ?_
      have b96 := hL (15 * w + i)
      have c96 := hv4 w i hw (by omega)
      refine lv_bipush (v := (nI 97)) S.1 S.2.1 dX1_isMixed_99 (by decide) ?_
      refine n_isub (x := L (15 * w + i)) (y := 97) S dX1_isMixed_101 (by omega) ?_
      refine lv_dup2_11 S.1 S.2.1 dX1_isMixed_102 rfl rfl ?_
      refine w_iald S hK hP 9 0 rfl rfl dX1_isMixed_103 (j := (L (15 * w + i)) - 97) (by decide) (by omega) ?_
      refine lv_iconst (v := (nI 1)) S.1 S.2.1 dX1_isMixed_104 (by decide) ?_
      refine lv_isub S.1 S.2.1 dX1_isMixed_105 ?_
      refine w_iast S hK hP hD hS 9 0 rfl rfl dX1_isMixed_106 (j := (L (15 * w + i)) - 97) (by decide) (by omega) (fun H locs hP hD hS => ?_)
      have hP : va_P (dC, dI) vcl (vY cI cZ a th n mw nf sg fo L le sc li ba ca (upd (wdf n sg fo L w i wa) ((L (15 * w + i)) - 97) (((wdf n sg fo L w i wa) ((L (15 * w + i)) - 97)) - (nI 1)))) H := hP
      have hD : va_D (wF (vY cI cZ a th n mw nf sg fo L le sc li ba ca wa)) (vY cI cZ a th n mw nf sg fo L le sc li ba ca (upd (wdf n sg fo L w i wa) ((L (15 * w + i)) - 97) (((wdf n sg fo L w i wa) ((L (15 * w + i)) - 97)) - (nI 1)))) := hD
      refine n_iinc (lv' := [(2, .int (nI (i + 1))), (0, .ref (a 0)), (1, .int (nI w))]) (x := i) (k := 2) S dX1_isMixed_107 hl rfl (by decide) rfl (fun ls hl => ?_)
      refine lv_goto (tgt := 81) S.1 S.2.1 dX1_isMixed_110 (by decide) ?_
      have e0 : vY cI cZ a th n mw nf sg fo L le sc li ba ca (upd (wdf n sg fo L w i wa) ((L (15 * w + i)) - 97) (((wdf n sg fo L w i wa) ((L (15 * w + i)) - 97)) - (nI 1))) = vY cI cZ a th n mw nf sg fo L le sc li ba ca (wdf n sg fo L w (i + 1) wa) := (by rw [wdf_s (by omega)])
      exact ih (i + 1) (by omega) hl0 (by omega) _ _ (by rw [← e0]; exact hP) (by rw [← e0]; exact hD) hS ls (lv_sub hl [1, 2, 0] rfl)
set_option maxRecDepth 100000 in
set_option maxHeartbeats 1000000 in
theorem lX1_isMixed_38 (l : Launch) (dC : Nat → ClassId) (dI : Nat → Nat → Nat) (cI cZ cJ : ClassId) (a : Nat → Nat) (th n mw nf : Nat) (sg fo L le sc li ba ca : Nat → Nat) (wa : Nat → Int32) (w : Nat) (hI : iv n mw nf sg fo L le sc li ba ca) (hw : w < mw)  {p : Program} {e : Env} {s : State} {m : MethodId} {below : List Frame} {meth : Method} {c : Code} (S : CallFix p m c cX1_isMixed 3 s ([.ref (a 0), .int (nI w)] : List Value).toArray tbG RX1) (hr : meth.sig.returnType = (some .boolean)) (hlk : meth.locks = false) (hK : va_K (dC, dI) vcl (vty cI cZ cJ) s) :
    ∀ (fuel : Nat) (i : Nat), n - i < fuel → le w = n → i ≤ n → ∀ (H : Heap) (locs : List Loc), va_P (dC, dI) vcl (vY cI cZ a th n mw nf sg fo L le sc li ba ca (rcW i sg fo wa)) H → va_D (wF (vY cI cZ a th n mw nf sg fo L le sc li ba ca wa)) (vY cI cZ a th n mw nf sg fo L le sc li ba ca (rcW i sg fo wa)) → va_S (wF (vY cI cZ a th n mw nf sg fo L le sc li ba ca wa)) s.heap H locs → ∀ ls : Array Slot, lv_has ls 3 [(0, .ref (a 0)), (1, .int (nI w)), (2, .int (nI i))] → W p l e ({ frames := 1, cells := 0, slots := 0, locals := 22 } : Room) s m ([.ref (a 0), .int (nI w)] : List Value).toArray below meth c H locs 0 0 (MQ below (QwE dC dI (vY cI cZ a th n mw nf sg fo L le sc li ba ca wa) (fun z => vY cI cZ a th n mw nf sg fo L le sc li ba ca z) (some (.int (nI (mxd n sg fo L le w).toNat)))) ([.ref (a 0), .int (nI w)] : List Value).toArray s 0 0 (wF (vY cI cZ a th n mw nf sg fo L le sc li ba ca wa))) (F0 m 38 ls []) := by
  obtain ⟨⟨hn, hm, hf⟩, ⟨hsg, hfo, hL, hle, hsc, hli, hba, hca⟩, hv1, hv2, hv3, hv4, hv5, hv6, hv7⟩ := id hI
  intro fuel
  induction fuel with
  | zero =>
    intro i hq
    exact absurd hq (Nat.not_lt_zero _)
  | succ fuel ih =>
    intro i hq hl0 hi H locs hP hD hS ls hl
    refine lv_iload_n S.1 S.2.1 dX1_isMixed_38 rfl (lv_at hl 2 rfl) ?_
    refine lv_aload_n S.1 S.2.1 dX1_isMixed_39 rfl (lv_at hl 0 rfl) ?_
    refine fX1_size (v := .int (nI n)) S hK hP rfl rfl dX1_isMixed_40 ?_
    refine n_icmp_ge (x := i) (y := n) (tgt := 79) S dX1_isMixed_43 (by decide) (by omega) (by omega) (fun h43 => ?_) (fun h43 => ?_)
    · refine lv_iconst (v := (nI 0)) S.1 S.2.1 dX1_isMixed_79 (by decide) ?_
      refine lv_istore_n (lv' := [(2, .int (nI 0)), (0, .ref (a 0)), (1, .int (nI w))]) S.1 S.2.1 dX1_isMixed_80 rfl hl (by decide) rfl (fun ls hl => ?_)
      have e0 : vY cI cZ a th n mw nf sg fo L le sc li ba ca (rcW i sg fo wa) = vY cI cZ a th n mw nf sg fo L le sc li ba ca (wdf n sg fo L w 0 wa) := (by rw [show i = n by omega, wdf_0])
      exact lX1_isMixed_81 l dC dI cI cZ cJ a th n mw nf sg fo L le sc li ba ca wa w hI hw S hr hlk hK _ 0 (Nat.lt_succ_self _) hl0 (by omega) _ _ (by rw [← e0]; exact hP) (by rw [← e0]; exact hD) hS ls (lv_sub hl [1, 2, 0] rfl)
    · refine lv_aload_n S.1 S.2.1 dX1_isMixed_46 rfl (lv_at hl 0 rfl) ?_
      refine lv_iload_n S.1 S.2.1 dX1_isMixed_47 rfl (lv_at hl 2 rfl) ?_
      refine rd_callV (C := RX1) (As := [.int (nI i)]) (rest := []) S (kX1_signAt l dC dI cI cZ cJ a th n mw nf sg fo L le sc li ba ca (rcW i sg fo wa) i (iv_r hI) (by omega)) rB_blind (fun U hU hW => ⟨by rw [hU]; exact hP, va_K.moved hW.alike hK⟩) (va_recv hK hP (ci := 1) (q0 := 0) rfl rfl) gX1_56 hdX1_signAt (by decide) hl.1 rfl (Nat.le_of_ble_eq_true rfl) dX1_isMixed_48 ⟨Nat.zero_le _, Nat.zero_le _⟩ ?_
      have b48 := fsg_in hI (show i < n by omega)
      refine lv_bipush (v := (nI 63)) S.1 S.2.1 dX1_isMixed_51 (by decide) ?_
      refine n_icmp_eq (x := fsg sg fo i) (y := 63) (tgt := 73) S dX1_isMixed_53 (by decide) (by omega) (by omega) (fun h53 => ?_) (fun h53 => ?_)
      · refine n_iinc (lv' := [(2, .int (nI (i + 1))), (0, .ref (a 0)), (1, .int (nI w))]) (x := i) (k := 2) S dX1_isMixed_73 hl rfl (by decide) rfl (fun ls hl => ?_)
        refine lv_goto (tgt := 38) S.1 S.2.1 dX1_isMixed_76 (by decide) ?_
        have e0 : vY cI cZ a th n mw nf sg fo L le sc li ba ca (rcW i sg fo wa) = vY cI cZ a th n mw nf sg fo L le sc li ba ca (rcW (i + 1) sg fo wa) := (by first | rw [rcW_b h53] | rw [rcW_l (by omega)])
        exact ih (i + 1) (by omega) hl0 (by omega) _ _ (by rw [← e0]; exact hP) (by rw [← e0]; exact hD) hS ls (lv_sub hl [1, 2, 0] rfl)
      · refine lv_aload_n S.1 S.2.1 dX1_isMixed_56 rfl (lv_at hl 0 rfl) ?_
        refine fX1_wanted (v := .ref (a 9)) S hK hP rfl rfl dX1_isMixed_57 ?_
        refine lv_aload_n S.1 S.2.1 dX1_isMixed_60 rfl (lv_at hl 0 rfl) ?_
        refine lv_iload_n S.1 S.2.1 dX1_isMixed_61 rfl (lv_at hl 2 rfl) ?_
        refine rd_callV (C := RX1) (As := [.int (nI i)]) (rest := [.ref (a 9)]) S (kX1_signAt l dC dI cI cZ cJ a th n mw nf sg fo L le sc li ba ca (rcW i sg fo wa) i (iv_r hI) (by omega)) rB_blind (fun U hU hW => ⟨by rw [hU]; exact hP, va_K.moved hW.alike hK⟩) (va_recv hK hP (ci := 1) (q0 := 0) rfl rfl) gX1_56 hdX1_signAt (by decide) hl.1 rfl (Nat.le_of_ble_eq_true rfl) dX1_isMixed_62 ⟨Nat.zero_le _, Nat.zero_le _⟩ ?_
        refine lv_bipush (v := (nI 97)) S.1 S.2.1 dX1_isMixed_65 (by decide) ?_
        refine n_isub (x := fsg sg fo i) (y := 97) S dX1_isMixed_67 (by omega) ?_
        refine lv_dup2_11 S.1 S.2.1 dX1_isMixed_68 rfl rfl ?_
        refine w_iald S hK hP 9 0 rfl rfl dX1_isMixed_69 (j := (fsg sg fo i) - 97) (by decide) (by omega) ?_
        refine lv_iconst (v := (nI 1)) S.1 S.2.1 dX1_isMixed_70 (by decide) ?_
        refine lv_iadd S.1 S.2.1 dX1_isMixed_71 ?_
        refine w_iast S hK hP hD hS 9 0 rfl rfl dX1_isMixed_72 (j := (fsg sg fo i) - 97) (by decide) (by omega) (fun H locs hP hD hS => ?_)
        have hP : va_P (dC, dI) vcl (vY cI cZ a th n mw nf sg fo L le sc li ba ca (upd (rcW i sg fo wa) ((fsg sg fo i) - 97) (((rcW i sg fo wa) ((fsg sg fo i) - 97)) + (nI 1)))) H := hP
        have hD : va_D (wF (vY cI cZ a th n mw nf sg fo L le sc li ba ca wa)) (vY cI cZ a th n mw nf sg fo L le sc li ba ca (upd (rcW i sg fo wa) ((fsg sg fo i) - 97) (((rcW i sg fo wa) ((fsg sg fo i) - 97)) + (nI 1)))) := hD
        refine n_iinc (lv' := [(2, .int (nI (i + 1))), (0, .ref (a 0)), (1, .int (nI w))]) (x := i) (k := 2) S dX1_isMixed_73 hl rfl (by decide) rfl (fun ls hl => ?_)
        refine lv_goto (tgt := 38) S.1 S.2.1 dX1_isMixed_76 (by decide) ?_
        have e0 : vY cI cZ a th n mw nf sg fo L le sc li ba ca (upd (rcW i sg fo wa) ((fsg sg fo i) - 97) (((rcW i sg fo wa) ((fsg sg fo i) - 97)) + (nI 1))) = vY cI cZ a th n mw nf sg fo L le sc li ba ca (rcW (i + 1) sg fo wa) := (by first | rw [rcW_b h53] | rw [rcW_l (by omega)])
        exact ih (i + 1) (by omega) hl0 (by omega) _ _ (by rw [← e0]; exact hP) (by rw [← e0]; exact hD) hS ls (lv_sub hl [1, 2, 0] rfl)
set_option maxRecDepth 100000 in
set_option maxHeartbeats 1000000 in
theorem lX1_isMixed_17 (l : Launch) (dC : Nat → ClassId) (dI : Nat → Nat → Nat) (cI cZ cJ : ClassId) (a : Nat → Nat) (th n mw nf : Nat) (sg fo L le sc li ba ca : Nat → Nat) (wa : Nat → Int32) (w : Nat) (hI : iv n mw nf sg fo L le sc li ba ca) (hw : w < mw)  {p : Program} {e : Env} {s : State} {m : MethodId} {below : List Frame} {meth : Method} {c : Code} (S : CallFix p m c cX1_isMixed 3 s ([.ref (a 0), .int (nI w)] : List Value).toArray tbG RX1) (hr : meth.sig.returnType = (some .boolean)) (hlk : meth.locks = false) (hK : va_K (dC, dI) vcl (vty cI cZ cJ) s) :
    ∀ (fuel : Nat) (i : Nat), 26 - i < fuel → le w = n → i ≤ 26 → ∀ (H : Heap) (locs : List Loc), va_P (dC, dI) vcl (vY cI cZ a th n mw nf sg fo L le sc li ba ca (zrW i wa)) H → va_D (wF (vY cI cZ a th n mw nf sg fo L le sc li ba ca wa)) (vY cI cZ a th n mw nf sg fo L le sc li ba ca (zrW i wa)) → va_S (wF (vY cI cZ a th n mw nf sg fo L le sc li ba ca wa)) s.heap H locs → ∀ ls : Array Slot, lv_has ls 3 [(0, .ref (a 0)), (1, .int (nI w)), (2, .int (nI i))] → W p l e ({ frames := 1, cells := 0, slots := 0, locals := 22 } : Room) s m ([.ref (a 0), .int (nI w)] : List Value).toArray below meth c H locs 0 0 (MQ below (QwE dC dI (vY cI cZ a th n mw nf sg fo L le sc li ba ca wa) (fun z => vY cI cZ a th n mw nf sg fo L le sc li ba ca z) (some (.int (nI (mxd n sg fo L le w).toNat)))) ([.ref (a 0), .int (nI w)] : List Value).toArray s 0 0 (wF (vY cI cZ a th n mw nf sg fo L le sc li ba ca wa))) (F0 m 17 ls []) := by
  obtain ⟨⟨hn, hm, hf⟩, ⟨hsg, hfo, hL, hle, hsc, hli, hba, hca⟩, hv1, hv2, hv3, hv4, hv5, hv6, hv7⟩ := id hI
  intro fuel
  induction fuel with
  | zero =>
    intro i hq
    exact absurd hq (Nat.not_lt_zero _)
  | succ fuel ih =>
    intro i hq hl0 hi H locs hP hD hS ls hl
    refine lv_iload_n S.1 S.2.1 dX1_isMixed_17 rfl (lv_at hl 2 rfl) ?_
    refine lv_bipush (v := (nI 26)) S.1 S.2.1 dX1_isMixed_18 (by decide) ?_
    refine n_icmp_ge (x := i) (y := 26) (tgt := 36) S dX1_isMixed_20 (by decide) (by omega) (by omega) (fun h20 => ?_) (fun h20 => ?_)
    · refine lv_iconst (v := (nI 0)) S.1 S.2.1 dX1_isMixed_36 (by decide) ?_
      refine lv_istore_n (lv' := [(2, .int (nI 0)), (0, .ref (a 0)), (1, .int (nI w))]) S.1 S.2.1 dX1_isMixed_37 rfl hl (by decide) rfl (fun ls hl => ?_)
      have e0 : vY cI cZ a th n mw nf sg fo L le sc li ba ca (zrW i wa) = vY cI cZ a th n mw nf sg fo L le sc li ba ca (rcW 0 sg fo wa) := (by rw [show i = 26 by omega, rcW_0])
      exact lX1_isMixed_38 l dC dI cI cZ cJ a th n mw nf sg fo L le sc li ba ca wa w hI hw S hr hlk hK _ 0 (Nat.lt_succ_self _) hl0 (by omega) _ _ (by rw [← e0]; exact hP) (by rw [← e0]; exact hD) hS ls (lv_sub hl [1, 2, 0] rfl)
    · refine lv_aload_n S.1 S.2.1 dX1_isMixed_23 rfl (lv_at hl 0 rfl) ?_
      refine fX1_wanted (v := .ref (a 9)) S hK hP rfl rfl dX1_isMixed_24 ?_
      refine lv_iload_n S.1 S.2.1 dX1_isMixed_27 rfl (lv_at hl 2 rfl) ?_
      refine lv_iconst (v := (nI 0)) S.1 S.2.1 dX1_isMixed_28 (by decide) ?_
      refine w_iast S hK hP hD hS 9 0 rfl rfl dX1_isMixed_29 (j := i) (by decide) (by omega) (fun H locs hP hD hS => ?_)
      have hP : va_P (dC, dI) vcl (vY cI cZ a th n mw nf sg fo L le sc li ba ca (upd (zrW i wa) i (nI 0))) H := hP
      have hD : va_D (wF (vY cI cZ a th n mw nf sg fo L le sc li ba ca wa)) (vY cI cZ a th n mw nf sg fo L le sc li ba ca (upd (zrW i wa) i (nI 0))) := hD
      refine n_iinc (lv' := [(2, .int (nI (i + 1))), (0, .ref (a 0)), (1, .int (nI w))]) (x := i) (k := 2) S dX1_isMixed_30 hl rfl (by decide) rfl (fun ls hl => ?_)
      refine lv_goto (tgt := 17) S.1 S.2.1 dX1_isMixed_33 (by decide) ?_
      have e0 : vY cI cZ a th n mw nf sg fo L le sc li ba ca (upd (zrW i wa) i (nI 0)) = vY cI cZ a th n mw nf sg fo L le sc li ba ca (zrW (i + 1) wa) := (by rw [zrW_s])
      exact ih (i + 1) (by omega) hl0 (by omega) _ _ (by rw [← e0]; exact hP) (by rw [← e0]; exact hD) hS ls (lv_sub hl [1, 2, 0] rfl)
set_option maxRecDepth 100000 in
set_option maxHeartbeats 1000000 in
theorem kX1_isMixed (l : Launch) (dC : Nat → ClassId) (dI : Nat → Nat → Nat) (cI cZ cJ : ClassId) (a : Nat → Nat) (th n mw nf : Nat) (sg fo L le sc li ba ca : Nat → Nat) (wa : Nat → Int32) (w : Nat) (hI : iv n mw nf sg fo L le sc li ba ca) (hw : w < mw) : wrE l yX1_isMixed cX1_isMixed 3 (some .boolean) 1 22 [.ref (a 0), .int (nI w)] dC dI cI cZ cJ (vY cI cZ a th n mw nf sg fo L le sc li ba ca wa) (fun z => vY cI cZ a th n mw nf sg fo L le sc li ba ca z) (some (.int (nI (mxd n sg fo L le w).toNat))) := by
  refine wrE_ofW RX1 (by decide) rfl (Nat.le_of_ble_eq_true rfl) ?_
  intro p e s m below meth c S hr hlk hK hP hD hS ls hl
  have hl : lv_has ls 3 [(0, .ref (a 0)), (1, .int (nI w))] := hl
  obtain ⟨⟨hn, hm, hf⟩, ⟨hsg, hfo, hL, hle, hsc, hli, hba, hca⟩, hv1, hv2, hv3, hv4, hv5, hv6, hv7⟩ := id hI
  refine lv_aload_n S.1 S.2.1 dX1_isMixed_0 rfl (lv_at hl 0 rfl) ?_
  refine fX1_lengths (v := .ref (a 4)) S hK hP rfl rfl dX1_isMixed_1 ?_
  refine lv_iload_n S.1 S.2.1 dX1_isMixed_4 rfl (lv_at hl 1 rfl) ?_
  refine n_iald S hK hP 4 0 rfl rfl dX1_isMixed_5 (j := w) (by decide) (by omega) ?_
  have b5 := hle w
  refine lv_aload_n S.1 S.2.1 dX1_isMixed_6 rfl (lv_at hl 0 rfl) ?_
  refine fX1_size (v := .int (nI n)) S hK hP rfl rfl dX1_isMixed_7 ?_
  refine n_icmp_eq (x := le w) (y := n) (tgt := 15) S dX1_isMixed_10 (by decide) (by omega) (by omega) (fun h10 => ?_) (fun h10 => ?_)
  · refine lv_iconst (v := (nI 0)) S.1 S.2.1 dX1_isMixed_15 (by decide) ?_
    refine lv_istore_n (lv' := [(2, .int (nI 0)), (0, .ref (a 0)), (1, .int (nI w))]) S.1 S.2.1 dX1_isMixed_16 rfl hl (by decide) rfl (fun ls hl => ?_)
    have e0 : vY cI cZ a th n mw nf sg fo L le sc li ba ca wa = vY cI cZ a th n mw nf sg fo L le sc li ba ca (zrW 0 wa) := (by rw [zrW_0])
    exact lX1_isMixed_17 l dC dI cI cZ cJ a th n mw nf sg fo L le sc li ba ca wa w hI hw S hr hlk hK _ 0 (Nat.lt_succ_self _) h10 (by omega) _ _ (by rw [← e0]; exact hP) (by rw [← e0]; exact hD) hS ls (lv_sub hl [1, 2, 0] rfl)
  · refine lv_iconst (v := (nI 0)) S.1 S.2.1 dX1_isMixed_13 (by decide) ?_
    exact wrE_ret (z := wa) S hr hlk (rfl) (by rw [mxd_l h10]; rfl) hP (rfl) hS dX1_isMixed_14

set_option maxRecDepth 100000 in
set_option maxHeartbeats 1000000 in
theorem kX1_mixedF (l : Launch) (dC : Nat → ClassId) (dI : Nat → Nat → Nat) (cI cZ cJ : ClassId) (a : Nat → Nat) (th n mw nf : Nat) (sg fo L le sc li ba ca : Nat → Nat) (wa : Nat → Int32) (u : Int32) (hu : isLi u = false) : wr l yX1_mixed cX1_mixed 4 (some .int) 1 21 [.ref (a 0), .int u] dC dI cI cZ cJ (vY cI cZ a th n mw nf sg fo L le sc li ba ca wa) (vY cI cZ a 1 n mw nf sg fo L le sc li ba ca wa) (some (.int (nI (0)))) := by
  refine wr_ofW RX1 (by decide) rfl (Nat.le_of_ble_eq_true rfl) ?_
  intro p e s m below meth c S hr hlk hK hP hD hS ls hl
  have hl : lv_has ls 4 [(0, .ref (a 0)), (1, .int u)] := hl
  refine lv_aload_n S.1 S.2.1 dX1_mixed_0 rfl (lv_at hl 0 rfl) ?_
  refine lv_iload_n S.1 S.2.1 dX1_mixed_1 rfl (lv_at hl 1 rfl) ?_
  refine rd_callS (As := [.int u]) (rest := [.ref (a 0)]) S (kX1_isList l u) tr_blind (fun _ _ _ => trivial) gX1_68 hdX1_isList (by decide) hl.1 rfl (Nat.le_of_ble_eq_true rfl) dX1_mixed_2 ⟨Nat.zero_le _, Nat.zero_le _⟩ ?_
  rw [hu]
  refine n_bif_ne (b := false) (tgt := 12) S dX1_mixed_5 (by decide) (fun h5 => ?_) (fun h5 => ?_)
  · exact absurd h5 (by decide)
  · refine lv_iconst (v := (nI 1)) S.1 S.2.1 dX1_mixed_8 (by decide) ?_
    refine lv_goto (tgt := 13) S.1 S.2.1 dX1_mixed_9 (by decide) ?_
    refine wr_callV (C := RX1) (As := [.int (nI 1)]) (rest := []) S (kX1_fails l dC dI cI cZ cJ a th n mw nf sg fo L le sc li ba ca wa true) hK [] [] hP hD hS rfl (va_recv hK hP (ci := 1) (q0 := 0) rfl rfl) gX1_52 hdX1_fails (by decide) hl.1 rfl (Nat.le_of_ble_eq_true rfl) dX1_mixed_13 ⟨Nat.zero_le _, Nat.zero_le _⟩ (fun H locs hP hD hS => ?_)
    have hP : va_P (dC, dI) vcl (vY cI cZ a 1 n mw nf sg fo L le sc li ba ca wa) H := hP
    have hD : va_D (wF (vY cI cZ a th n mw nf sg fo L le sc li ba ca wa)) (vY cI cZ a 1 n mw nf sg fo L le sc li ba ca wa) := hD
    refine n_bif_eq (b := true) (tgt := 21) S dX1_mixed_16 (by decide) (fun h16 => ?_) (fun h16 => ?_)
    · exact absurd h16 (by decide)
    · refine lv_iconst (v := (nI 0)) S.1 S.2.1 dX1_mixed_19 (by decide) ?_
      exact wr_ret S hr hlk (rfl) (rfl) hP (rfl) hS dX1_mixed_20

set_option maxRecDepth 100000 in
set_option maxHeartbeats 1000000 in
theorem lX1_mixed_25 (l : Launch) (dC : Nat → ClassId) (dI : Nat → Nat → Nat) (cI cZ cJ : ClassId) (a : Nat → Nat) (th n mw nf : Nat) (sg fo L le sc li ba ca : Nat → Nat) (wa : Nat → Int32) (t : Nat) (hI : iv n mw nf sg fo L le sc li ba ca) (ht : t < 4)  {p : Program} {e : Env} {s : State} {m : MethodId} {below : List Frame} {meth : Method} {c : Code} (S : CallFix p m c cX1_mixed 4 s ([.ref (a 0), .int (nI t)] : List Value).toArray tbG RX1) (hr : meth.sig.returnType = (some .int)) (hlk : meth.locks = false) (hK : va_K (dC, dI) vcl (vty cI cZ cJ) s) :
    ∀ (fuel : Nat) (i : Nat) (k : Nat) (wx : Nat → Int32), mw - i < fuel → i ≤ mw → k = cnt (mxP n sg fo L le li ba t) i → ∀ (H : Heap) (locs : List Loc), va_P (dC, dI) vcl (vY cI cZ a 0 n mw nf sg fo L le sc li ba ca wx) H → va_D (wF (vY cI cZ a th n mw nf sg fo L le sc li ba ca wa)) (vY cI cZ a 0 n mw nf sg fo L le sc li ba ca wx) → va_S (wF (vY cI cZ a th n mw nf sg fo L le sc li ba ca wa)) s.heap H locs → ∀ ls : Array Slot, lv_has ls 4 [(0, .ref (a 0)), (1, .int (nI t)), (2, .int (nI k)), (3, .int (nI i))] → W p l e ({ frames := 2, cells := 0, slots := 0, locals := 44 } : Room) s m ([.ref (a 0), .int (nI t)] : List Value).toArray below meth c H locs 0 0 (MQ below (QwE dC dI (vY cI cZ a th n mw nf sg fo L le sc li ba ca wa) (fun z => vY cI cZ a 0 n mw nf sg fo L le sc li ba ca z) (some (.int (nI (cnt (mxP n sg fo L le li ba t) mw))))) ([.ref (a 0), .int (nI t)] : List Value).toArray s 0 0 (wF (vY cI cZ a th n mw nf sg fo L le sc li ba ca wa))) (F0 m 25 ls []) := by
  obtain ⟨⟨hn, hm, hf⟩, ⟨hsg, hfo, hL, hle, hsc, hli, hba, hca⟩, hv1, hv2, hv3, hv4, hv5, hv6, hv7⟩ := id hI
  intro fuel
  induction fuel with
  | zero =>
    intro i k wx hq
    exact absurd hq (Nat.not_lt_zero _)
  | succ fuel ih =>
    intro i k wx hq hi hk H locs hP hD hS ls hl
    have hki := cnt_le (mxP n sg fo L le li ba t) i
    refine lv_iload_n S.1 S.2.1 dX1_mixed_25 rfl (lv_at hl 3 rfl) ?_
    refine lv_aload_n S.1 S.2.1 dX1_mixed_26 rfl (lv_at hl 0 rfl) ?_
    refine fX1_many (v := .int (nI mw)) S hK hP rfl rfl dX1_mixed_27 ?_
    refine n_icmp_ge (x := i) (y := mw) (tgt := 73) S dX1_mixed_30 (by decide) (by omega) (by omega) (fun h30 => ?_) (fun h30 => ?_)
    · refine lv_iload_n S.1 S.2.1 dX1_mixed_73 rfl (lv_at hl 2 rfl) ?_
      exact wrE_ret (z := wx) S hr hlk (rfl) (by rw [hk, show i = mw by omega]) hP (rfl) hS dX1_mixed_74
    · refine lv_iload_n S.1 S.2.1 dX1_mixed_33 rfl (lv_at hl 2 rfl) ?_
      refine lv_aload_n S.1 S.2.1 dX1_mixed_34 rfl (lv_at hl 0 rfl) ?_
      refine lv_iload_n S.1 S.2.1 dX1_mixed_35 rfl (lv_at hl 3 rfl) ?_
      refine lv_iload_n S.1 S.2.1 dX1_mixed_36 rfl (lv_at hl 1 rfl) ?_
      refine rd_callV (C := RX1) (As := [.int (nI i), .int (nI t)]) (rest := [.int (nI k)]) S (kX1_isIn l dC dI cI cZ cJ a 0 n mw nf sg fo L le sc li ba ca wx i t hI (by omega) ht) rB_blind (fun U hU hW => ⟨by rw [hU]; exact hP, va_K.moved hW.alike hK⟩) (va_recv hK hP (ci := 1) (q0 := 0) rfl rfl) gX1_78 hdX1_isIn (by decide) hl.1 rfl (Nat.le_of_ble_eq_true rfl) dX1_mixed_37 ⟨Nat.zero_le _, Nat.zero_le _⟩ ?_
      refine n_bif_eq (b := inl li i t) (tgt := 64) S dX1_mixed_40 (by decide) (fun h40 => ?_) (fun h40 => ?_)
      · refine lv_iconst (v := (nI 0)) S.1 S.2.1 dX1_mixed_64 (by decide) ?_
        refine n_iadd (x := k) (y := 0) S dX1_mixed_65 ?_
        refine lv_istore_n (lv' := [(2, .int (nI (k + 0))), (0, .ref (a 0)), (1, .int (nI t)), (3, .int (nI i))]) S.1 S.2.1 dX1_mixed_66 rfl hl (by decide) rfl (fun ls hl => ?_)
        refine n_iinc (lv' := [(3, .int (nI (i + 1))), (2, .int (nI (k + 0))), (0, .ref (a 0)), (1, .int (nI t))]) (x := i) (k := 3) S dX1_mixed_67 hl rfl (by decide) rfl (fun ls hl => ?_)
        refine lv_goto (tgt := 25) S.1 S.2.1 dX1_mixed_70 (by decide) ?_
        exact ih (i + 1) (k + 0) wx (by omega) (by omega) (by rw [cnt, ← hk, mxP]; first | (rw [fre, h40, decide_eq_true h49, h57] <;> rfl) | (rw [fre, h40, decide_eq_false h49] <;> rfl) | (rw [fre, h40] <;> rfl)) _ _ hP hD hS ls (lv_sub hl [2, 3, 1, 0] rfl)
      · refine lv_aload_n S.1 S.2.1 dX1_mixed_43 rfl (lv_at hl 0 rfl) ?_
        refine fX1_barred (v := .ref (a 7)) S hK hP rfl rfl dX1_mixed_44 ?_
        refine lv_iload_n S.1 S.2.1 dX1_mixed_47 rfl (lv_at hl 3 rfl) ?_
        refine n_zald S hK hP 7 1 rfl rfl dX1_mixed_48 (j := i) (by decide) (by omega) ?_
        have b48 := hba i
        refine n_if_ne (x := ba i) (tgt := 64) S dX1_mixed_49 (by decide) (by omega) (fun h49 => ?_) (fun h49 => ?_)
        · refine lv_iconst (v := (nI 0)) S.1 S.2.1 dX1_mixed_64 (by decide) ?_
          refine n_iadd (x := k) (y := 0) S dX1_mixed_65 ?_
          refine lv_istore_n (lv' := [(2, .int (nI (k + 0))), (0, .ref (a 0)), (1, .int (nI t)), (3, .int (nI i))]) S.1 S.2.1 dX1_mixed_66 rfl hl (by decide) rfl (fun ls hl => ?_)
          refine n_iinc (lv' := [(3, .int (nI (i + 1))), (2, .int (nI (k + 0))), (0, .ref (a 0)), (1, .int (nI t))]) (x := i) (k := 3) S dX1_mixed_67 hl rfl (by decide) rfl (fun ls hl => ?_)
          refine lv_goto (tgt := 25) S.1 S.2.1 dX1_mixed_70 (by decide) ?_
          exact ih (i + 1) (k + 0) wx (by omega) (by omega) (by rw [cnt, ← hk, mxP]; first | (rw [fre, h40, decide_eq_true h49, h57] <;> rfl) | (rw [fre, h40, decide_eq_false h49] <;> rfl) | (rw [fre, h40] <;> rfl)) _ _ hP hD hS ls (lv_sub hl [2, 3, 1, 0] rfl)
        · refine lv_aload_n S.1 S.2.1 dX1_mixed_52 rfl (lv_at hl 0 rfl) ?_
          refine lv_iload_n S.1 S.2.1 dX1_mixed_53 rfl (lv_at hl 3 rfl) ?_
          refine wrE_callV (C := RX1) (As := [.int (nI i)]) (rest := [.int (nI k)]) S (kX1_isMixed l dC dI cI cZ cJ a 0 n mw nf sg fo L le sc li ba ca wx i hI (by omega)) hK [] [] hP hD hS (fun _ => rfl) (va_recv hK hP (ci := 1) (q0 := 0) rfl rfl) gX1_91 hdX1_isMixed (by decide) hl.1 rfl (Nat.le_of_ble_eq_true rfl) dX1_mixed_54 ⟨Nat.zero_le _, Nat.zero_le _⟩ (fun z54 H locs hP hD hS => ?_)
          have hP : va_P (dC, dI) vcl (vY cI cZ a 0 n mw nf sg fo L le sc li ba ca z54) H := hP
          have hD : va_D (wF (vY cI cZ a th n mw nf sg fo L le sc li ba ca wa)) (vY cI cZ a 0 n mw nf sg fo L le sc li ba ca z54) := hD
          refine n_bif_eq (b := mxd n sg fo L le i) (tgt := 64) S dX1_mixed_57 (by decide) (fun h57 => ?_) (fun h57 => ?_)
          · refine lv_iconst (v := (nI 0)) S.1 S.2.1 dX1_mixed_64 (by decide) ?_
            refine n_iadd (x := k) (y := 0) S dX1_mixed_65 ?_
            refine lv_istore_n (lv' := [(2, .int (nI (k + 0))), (0, .ref (a 0)), (1, .int (nI t)), (3, .int (nI i))]) S.1 S.2.1 dX1_mixed_66 rfl hl (by decide) rfl (fun ls hl => ?_)
            refine n_iinc (lv' := [(3, .int (nI (i + 1))), (2, .int (nI (k + 0))), (0, .ref (a 0)), (1, .int (nI t))]) (x := i) (k := 3) S dX1_mixed_67 hl rfl (by decide) rfl (fun ls hl => ?_)
            refine lv_goto (tgt := 25) S.1 S.2.1 dX1_mixed_70 (by decide) ?_
            exact ih (i + 1) (k + 0) z54 (by omega) (by omega) (by rw [cnt, ← hk, mxP]; first | (rw [fre, h40, decide_eq_true h49, h57] <;> rfl) | (rw [fre, h40, decide_eq_false h49] <;> rfl) | (rw [fre, h40] <;> rfl)) _ _ hP hD hS ls (lv_sub hl [2, 3, 1, 0] rfl)
          · refine lv_iconst (v := (nI 1)) S.1 S.2.1 dX1_mixed_60 (by decide) ?_
            refine lv_goto (tgt := 65) S.1 S.2.1 dX1_mixed_61 (by decide) ?_
            refine n_iadd (x := k) (y := 1) S dX1_mixed_65 ?_
            refine lv_istore_n (lv' := [(2, .int (nI (k + 1))), (0, .ref (a 0)), (1, .int (nI t)), (3, .int (nI i))]) S.1 S.2.1 dX1_mixed_66 rfl hl (by decide) rfl (fun ls hl => ?_)
            refine n_iinc (lv' := [(3, .int (nI (i + 1))), (2, .int (nI (k + 1))), (0, .ref (a 0)), (1, .int (nI t))]) (x := i) (k := 3) S dX1_mixed_67 hl rfl (by decide) rfl (fun ls hl => ?_)
            refine lv_goto (tgt := 25) S.1 S.2.1 dX1_mixed_70 (by decide) ?_
            exact ih (i + 1) (k + 1) z54 (by omega) (by omega) (by rw [cnt, ← hk, mxP]; first | (rw [fre, h40, decide_eq_true h49, h57] <;> rfl) | (rw [fre, h40, decide_eq_false h49] <;> rfl) | (rw [fre, h40] <;> rfl)) _ _ hP hD hS ls (lv_sub hl [2, 3, 1, 0] rfl)
set_option maxRecDepth 100000 in
set_option maxHeartbeats 1000000 in
theorem kX1_mixed (l : Launch) (dC : Nat → ClassId) (dI : Nat → Nat → Nat) (cI cZ cJ : ClassId) (a : Nat → Nat) (th n mw nf : Nat) (sg fo L le sc li ba ca : Nat → Nat) (wa : Nat → Int32) (t : Nat) (hI : iv n mw nf sg fo L le sc li ba ca) (ht : t < 4) : wrE l yX1_mixed cX1_mixed 4 (some .int) 2 44 [.ref (a 0), .int (nI t)] dC dI cI cZ cJ (vY cI cZ a th n mw nf sg fo L le sc li ba ca wa) (fun z => vY cI cZ a 0 n mw nf sg fo L le sc li ba ca z) (some (.int (nI (cnt (mxP n sg fo L le li ba t) mw)))) := by
  refine wrE_ofW RX1 (by decide) rfl (Nat.le_of_ble_eq_true rfl) ?_
  intro p e s m below meth c S hr hlk hK hP hD hS ls hl
  have hl : lv_has ls 4 [(0, .ref (a 0)), (1, .int (nI t))] := hl
  obtain ⟨⟨hn, hm, hf⟩, ⟨hsg, hfo, hL, hle, hsc, hli, hba, hca⟩, hv1, hv2, hv3, hv4, hv5, hv6, hv7⟩ := id hI
  refine lv_aload_n S.1 S.2.1 dX1_mixed_0 rfl (lv_at hl 0 rfl) ?_
  refine lv_iload_n S.1 S.2.1 dX1_mixed_1 rfl (lv_at hl 1 rfl) ?_
  refine rd_callS (As := [.int (nI t)]) (rest := [.ref (a 0)]) S (kX1_isList l ((nI t))) tr_blind (fun _ _ _ => trivial) gX1_68 hdX1_isList (by decide) hl.1 rfl (Nat.le_of_ble_eq_true rfl) dX1_mixed_2 ⟨Nat.zero_le _, Nat.zero_le _⟩ ?_
  rw [isLi_n ht]
  refine n_bif_ne (b := true) (tgt := 12) S dX1_mixed_5 (by decide) (fun h5 => ?_) (fun h5 => ?_)
  · refine lv_iconst (v := (nI 0)) S.1 S.2.1 dX1_mixed_12 (by decide) ?_
    refine wr_callV (C := RX1) (As := [.int (nI 0)]) (rest := []) S (kX1_fails l dC dI cI cZ cJ a th n mw nf sg fo L le sc li ba ca wa false) hK [] [] hP hD hS rfl (va_recv hK hP (ci := 1) (q0 := 0) rfl rfl) gX1_52 hdX1_fails (by decide) hl.1 rfl (Nat.le_of_ble_eq_true rfl) dX1_mixed_13 ⟨Nat.zero_le _, Nat.zero_le _⟩ (fun H locs hP hD hS => ?_)
    have hP : va_P (dC, dI) vcl (vY cI cZ a 0 n mw nf sg fo L le sc li ba ca wa) H := hP
    have hD : va_D (wF (vY cI cZ a th n mw nf sg fo L le sc li ba ca wa)) (vY cI cZ a 0 n mw nf sg fo L le sc li ba ca wa) := hD
    refine n_bif_eq (b := false) (tgt := 21) S dX1_mixed_16 (by decide) (fun h16 => ?_) (fun h16 => ?_)
    · refine lv_iconst (v := (nI 0)) S.1 S.2.1 dX1_mixed_21 (by decide) ?_
      refine lv_istore_n (lv' := [(2, .int (nI 0)), (0, .ref (a 0)), (1, .int (nI t))]) S.1 S.2.1 dX1_mixed_22 rfl hl (by decide) rfl (fun ls hl => ?_)
      refine lv_iconst (v := (nI 0)) S.1 S.2.1 dX1_mixed_23 (by decide) ?_
      refine lv_istore_n (lv' := [(3, .int (nI 0)), (2, .int (nI 0)), (0, .ref (a 0)), (1, .int (nI t))]) S.1 S.2.1 dX1_mixed_24 rfl hl (by decide) rfl (fun ls hl => ?_)
      exact lX1_mixed_25 l dC dI cI cZ cJ a th n mw nf sg fo L le sc li ba ca wa t hI ht S hr hlk hK _ 0 0 wa (Nat.lt_succ_self _) (by omega) rfl _ _ hP hD hS ls (lv_sub hl [2, 3, 1, 0] rfl)
    · exact absurd h16 (by decide)
  · exact absurd h5 (by decide)
