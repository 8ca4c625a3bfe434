/-! ===== the wrappers: by program ===== -/
theorem hw_fold : Cond.codeWith yL_fold cL_fold 4 (some .int) [(0, 6, 9, 13)] ∈ tbG ∧ Cond.methodLink RL 70 yL_fold ∈ tbG ∧ Cond.static yL_fold ∈ tbG ∧ Cond.initialized yL_fold.cls ∈ tbG := by decide +kernel
theorem hw_enter : Cond.codeWith yL_enter cL_enter 5 (some .int) [(0, 10, 13, 13)] ∈ tbG ∧ Cond.methodLink RL 80 yL_enter ∈ tbG ∧ Cond.static yL_enter ∈ tbG ∧ Cond.initialized yL_enter.cls ∈ tbG := by decide +kernel
theorem hw_merge : Cond.codeWith yL_merge cL_merge 7 (some .int) [(0, 14, 17, 13)] ∈ tbG ∧ Cond.methodLink RL 89 yL_merge ∈ tbG ∧ Cond.static yL_merge ∈ tbG ∧ Cond.initialized yL_merge.cls ∈ tbG := by decide +kernel
theorem hw_seek : Cond.codeWith yL_seek cL_seek 4 (some .int) [(0, 9, 12, 13)] ∈ tbG ∧ Cond.methodLink RL 93 yL_seek ∈ tbG ∧ Cond.static yL_seek ∈ tbG ∧ Cond.initialized yL_seek.cls ∈ tbG := by decide +kernel
theorem hw_candidate : Cond.codeWith yL_candidate cL_candidate 4 (some .int) [(0, 9, 12, 13)] ∈ tbG ∧ Cond.methodLink RL 97 yL_candidate ∈ tbG ∧ Cond.static yL_candidate ∈ tbG ∧ Cond.initialized yL_candidate.cls ∈ tbG := by decide +kernel
theorem hw_at : Cond.codeWith yL_at cL_at 5 (some .int) [(0, 10, 13, 13)] ∈ tbG ∧ Cond.methodLink RL 100 yL_at ∈ tbG ∧ Cond.static yL_at ∈ tbG ∧ Cond.initialized yL_at.cls ∈ tbG := by decide +kernel
theorem hw_begins : Cond.codeWith yL_begins cL_begins 4 (some .int) [(0, 9, 12, 13)] ∈ tbG ∧ Cond.methodLink RL 103 yL_begins ∈ tbG ∧ Cond.static yL_begins ∈ tbG ∧ Cond.initialized yL_begins.cls ∈ tbG := by decide +kernel
theorem hw_ends : Cond.codeWith yL_ends cL_ends 4 (some .int) [(0, 9, 12, 13)] ∈ tbG ∧ Cond.methodLink RL 106 yL_ends ∈ tbG ∧ Cond.static yL_ends ∈ tbG ∧ Cond.initialized yL_ends.cls ∈ tbG := by decide +kernel
theorem hw_mixed : Cond.codeWith yL_mixed cL_mixed 4 (some .int) [(0, 9, 12, 13)] ∈ tbG ∧ Cond.methodLink RL 109 yL_mixed ∈ tbG ∧ Cond.static yL_mixed ∈ tbG ∧ Cond.initialized yL_mixed.cls ∈ tbG := by decide +kernel
theorem hw_many : Cond.codeWith yL_many cL_many 5 (some .int) [(0, 10, 13, 13)] ∈ tbG ∧ Cond.methodLink RL 112 yL_many ∈ tbG ∧ Cond.static yL_many ∈ tbG ∧ Cond.initialized yL_many.cls ∈ tbG := by decide +kernel
theorem hw_letters : Cond.codeWith yL_letters cL_letters 5 (some .int) [(0, 10, 13, 13)] ∈ tbG ∧ Cond.methodLink RL 115 yL_letters ∈ tbG ∧ Cond.static yL_letters ∈ tbG ∧ Cond.initialized yL_letters.cls ∈ tbG := by decide +kernel
theorem hw_letter : Cond.codeWith yL_letter cL_letter 5 (some .int) [(0, 10, 13, 13)] ∈ tbG ∧ Cond.methodLink RL 118 yL_letter ∈ tbG ∧ Cond.static yL_letter ∈ tbG ∧ Cond.initialized yL_letter.cls ∈ tbG := by decide +kernel
theorem hw_tell : Cond.codeWith yL_tell cL_tell 5 (some .int) [(0, 10, 13, 13)] ∈ tbG ∧ Cond.methodLink RL 121 yL_tell ∈ tbG ∧ Cond.static yL_tell ∈ tbG ∧ Cond.initialized yL_tell.cls ∈ tbG := by decide +kernel
theorem hw_common : Cond.codeWith yL_common cL_common 4 (some .int) [(0, 9, 12, 13)] ∈ tbG ∧ Cond.methodLink RL 124 yL_common ∈ tbG ∧ Cond.static yL_common ∈ tbG ∧ Cond.initialized yL_common.cls ∈ tbG := by decide +kernel
set_option maxRecDepth 100000 in
theorem kL_fold (l : Launch) (dC : Nat → ClassId) (dI : Nat → Nat → Nat) (cI cZ cJ : ClassId) (a : Nat → Nat) (n mw nf : Nat) (sg fo L le sc li ba ca st : Nat → Nat) (y : Nat) (z : Nat) (hI : iv n mw nf sg fo L le sc li ba ca) (hy : 97 ≤ y ∧ y ≤ 122) (hz : 97 ≤ z ∧ z ≤ 122) : wrW l yL_fold cL_fold 4 (some .int) [(0, 6, 9, 13)] 3 62 [.ref (a 0), .int (nI y), .int (nI z)] dC dI cI cZ cJ (vX cI cZ a n mw nf sg fo L le sc li ba ca st) (fun _ : Unit => vX cI cZ a n mw nf sg (va_up fo (y - 97) z) L le sc li ba ca st) (some (.int (nI 0))) := by
  refine wrW_ofW RL (by decide) rfl (Nat.le_of_ble_eq_true rfl) ?_
  intro p e s m below meth c S hr hlk hK hP hD hS ls hl
  have hl : lv_has ls 4 [(0, .ref (a 0)), (1, .int (nI y)), (2, .int (nI z))] := hl
  refine lv_aload_n S.1 S.2.1 dL_fold_0 rfl (lv_at hl 0 rfl) ?_
  refine lv_iload_n S.1 S.2.1 dL_fold_1 rfl (lv_at hl 1 rfl) ?_
  refine lv_iload_n S.1 S.2.1 dL_fold_2 rfl (lv_at hl 2 rfl) ?_
  refine wr_callV (C := RX0) (As := [.int (nI y), .int (nI z)]) (rest := []) S (kX0_fold l dC dI cI cZ cJ a n mw nf sg fo L le sc li ba ca st y z hI hy hz) hK [] [] hP hD hS rfl (va_recv hK hP (ci := 0) (q0 := 0) rfl rfl) gL_7 hdX0_fold (by decide) hl.1 rfl (Nat.le_of_ble_eq_true rfl) dL_fold_3 ⟨Nat.zero_le _, Nat.zero_le _⟩ (fun H locs hP hD hS => ?_)
  have hP : va_P (dC, dI) vcl (vX cI cZ a n mw nf sg (va_up fo (y - 97) z) L le sc li ba ca st) H := hP
  have hD : va_D (wF (vX cI cZ a n mw nf sg fo L le sc li ba ca st)) (vX cI cZ a n mw nf sg (va_up fo (y - 97) z) L le sc li ba ca st) := hD
  refine lv_goto (tgt := 12) S.1 S.2.1 dL_fold_6 (by decide) ?_
  refine lv_iconst (v := (nI 0)) S.1 S.2.1 dL_fold_12 (by decide) ?_
  exact wrE_ret (z := ()) S hr hlk rfl rfl hP rfl hS dL_fold_13

set_option maxRecDepth 100000 in
theorem kL_foldE1 (l : Launch) (dC : Nat → ClassId) (dI : Nat → Nat → Nat) (cI cZ cJ : ClassId) (a : Nat → Nat) (n mw nf : Nat) (sg fo L le sc li ba ca st : Nat → Nat) (hfl : l.flags = flags0) (u : Int32) (v : Int32) (hu : isL u = false) : thW l yL_fold cL_fold 4 (some .int) [(0, 6, 9, 13)] 9 137 [.ref (a 0), .int u, .int v] (rB dC dI cI cZ cJ (vX cI cZ a n mw nf sg fo L le sc li ba ca st)) := by
  refine thW_ofW RL (by decide) rfl (Nat.le_of_ble_eq_true rfl) ?_
  intro p e s m below meth c S hex hr hlk hB ht ls hl
  obtain ⟨hP, hK⟩ := hB
  have hl : lv_has ls 4 [(0, .ref (a 0)), (1, .int u), (2, .int v)] := hl
  refine lv_aload_n S.1 S.2.1 dL_fold_0 rfl (lv_at hl 0 rfl) ?_
  refine lv_iload_n S.1 S.2.1 dL_fold_1 rfl (lv_at hl 1 rfl) ?_
  refine lv_iload_n S.1 S.2.1 dL_fold_2 rfl (lv_at hl 2 rfl) ?_
  refine thr_catchV (C := RX0) (As := [.int u, .int v]) (rest := []) S hex (by decide) (fun U hU hW => twS_keep ht hW (fun q c h => by rw [hU]; exact h)) (kX0_foldE1 l dC dI cI cZ cJ a n mw nf sg fo L le sc li ba ca st hfl u v hu) (fun U hU hW => ⟨by rw [hU]; exact hP, va_K.moved hW.alike hK⟩) (va_recv hK hP (ci := 0) (q0 := 0) rfl rfl) gL_7 hdX0_fold (by decide) hl.1 rfl (Nat.le_of_ble_eq_true rfl) dL_fold_3 (fun xe H hz hk => ?_)
  refine lv_astore_n (lv' := [(3, .ref xe), (0, .ref (a 0)), (1, .int u), (2, .int v)]) S.1 S.2.1 dL_fold_9 rfl hl (by decide) rfl (fun ls hl => ?_)
  refine lv_iconst (v := (nI 1)) S.1 S.2.1 dL_fold_10 (by decide) ?_
  exact thW_ret S hr hlk hz hk dL_fold_11

set_option maxRecDepth 100000 in
theorem kL_foldE2 (l : Launch) (dC : Nat → ClassId) (dI : Nat → Nat → Nat) (cI cZ cJ : ClassId) (a : Nat → Nat) (n mw nf : Nat) (sg fo L le sc li ba ca st : Nat → Nat) (hfl : l.flags = flags0) (y : Nat) (v : Int32) (hy : 97 ≤ y ∧ y ≤ 122) (hv : isL v = false) : thW l yL_fold cL_fold 4 (some .int) [(0, 6, 9, 13)] 9 137 [.ref (a 0), .int (nI y), .int v] (rB dC dI cI cZ cJ (vX cI cZ a n mw nf sg fo L le sc li ba ca st)) := by
  refine thW_ofW RL (by decide) rfl (Nat.le_of_ble_eq_true rfl) ?_
  intro p e s m below meth c S hex hr hlk hB ht ls hl
  obtain ⟨hP, hK⟩ := hB
  have hl : lv_has ls 4 [(0, .ref (a 0)), (1, .int (nI y)), (2, .int v)] := hl
  refine lv_aload_n S.1 S.2.1 dL_fold_0 rfl (lv_at hl 0 rfl) ?_
  refine lv_iload_n S.1 S.2.1 dL_fold_1 rfl (lv_at hl 1 rfl) ?_
  refine lv_iload_n S.1 S.2.1 dL_fold_2 rfl (lv_at hl 2 rfl) ?_
  refine thr_catchV (C := RX0) (As := [.int (nI y), .int v]) (rest := []) S hex (by decide) (fun U hU hW => twS_keep ht hW (fun q c h => by rw [hU]; exact h)) (kX0_foldE2 l dC dI cI cZ cJ a n mw nf sg fo L le sc li ba ca st hfl y v hy hv) (fun U hU hW => ⟨by rw [hU]; exact hP, va_K.moved hW.alike hK⟩) (va_recv hK hP (ci := 0) (q0 := 0) rfl rfl) gL_7 hdX0_fold (by decide) hl.1 rfl (Nat.le_of_ble_eq_true rfl) dL_fold_3 (fun xe H hz hk => ?_)
  refine lv_astore_n (lv' := [(3, .ref xe), (0, .ref (a 0)), (1, .int (nI y)), (2, .int v)]) S.1 S.2.1 dL_fold_9 rfl hl (by decide) rfl (fun ls hl => ?_)
  refine lv_iconst (v := (nI 1)) S.1 S.2.1 dL_fold_10 (by decide) ?_
  exact thW_ret S hr hlk hz hk dL_fold_11

set_option maxRecDepth 100000 in
theorem kL_enterN (l : Launch) (dC : Nat → ClassId) (dI : Nat → Nat → Nat) (cI cZ cJ : ClassId) (a : Nat → Nat) (n mw nf : Nat) (sg fo L le sc li ba ca st : Nat → Nat) (o : Nat) (f : Nat → Int64) (t : Nat) (x : Int32) (hI : iv n mw nf sg fo L le sc li ba ca) (ht : t < 4) (he : n = 0 ∨ hbl n sg = true ∨ x < 0 ∨ nI 1000 < x ∨ (wof mw (fit n sg fo L le) = -1 ∧ mw = 250)) : wrW l yL_enter cL_enter 5 (some .int) [(0, 10, 13, 13)] 6 131 [.ref (a 0), .int (nI t), .int x, .ref o] dC dI cI cZ cJ (vX cI cZ a n mw nf sg fo L le sc li ba ca st ++ [oc o cJ f]) (fun _ : Unit => vX cI cZ a n mw nf sg fo L le sc li ba ca st ++ [oc o cJ (vp_updL f 0 (Int32.toInt64 ((-1 : Int32))))]) (some (.int (nI 0))) := by
  refine wrW_ofW RL (by decide) rfl (Nat.le_of_ble_eq_true rfl) ?_
  intro p e s m below meth c S hr hlk hK hP hD hS ls hl
  have hl : lv_has ls 5 [(0, .ref (a 0)), (1, .int (nI t)), (2, .int x), (3, .ref o)] := hl
  refine lv_aload_n S.1 S.2.1 dL_enter_0 rfl (lv_at hl 3 rfl) ?_
  refine lv_iconst (v := (nI 0)) S.1 S.2.1 dL_enter_1 (by decide) ?_
  refine lv_aload_n S.1 S.2.1 dL_enter_2 rfl (lv_at hl 0 rfl) ?_
  refine lv_iload_n S.1 S.2.1 dL_enter_3 rfl (lv_at hl 1 rfl) ?_
  refine lv_iload_n S.1 S.2.1 dL_enter_4 rfl (lv_at hl 2 rfl) ?_
  refine rd_callV (C := RX0) (As := [.int (nI t), .int x]) (rest := [.int (nI 0), .ref o]) S (kX0_enterN l dC dI cI cZ cJ a n mw nf sg fo L le sc li ba ca st t x hI ht he) rB_blind (fun U hU hW => ⟨by rw [hU]; exact wr_sub (u := []) (v := [oc o cJ f]) hP, va_K.moved hW.alike hK⟩) (va_recv hK hP (ci := 0) (q0 := 0) rfl rfl) gL_15 hdX0_enter (by decide) hl.1 rfl (Nat.le_of_ble_eq_true rfl) dL_enter_5 ⟨Nat.zero_le _, Nat.zero_le _⟩ ?_
  refine lv_i2l (v := Int32.toInt64 ((-1 : Int32))) S.1 S.2.1 dL_enter_8 rfl ?_
  refine n_last S hK hP hD hS 10 2 rfl rfl dL_enter_9 (fun H locs hP hD hS => ?_)
  have hP : va_P (dC, dI) vcl (vX cI cZ a n mw nf sg fo L le sc li ba ca st ++ [oc o cJ (vp_updL f 0 (Int32.toInt64 ((-1 : Int32))))]) H := hP
  have hD : va_D (wF (vX cI cZ a n mw nf sg fo L le sc li ba ca st ++ [oc o cJ f])) (vX cI cZ a n mw nf sg fo L le sc li ba ca st ++ [oc o cJ (vp_updL f 0 (Int32.toInt64 ((-1 : Int32))))]) := hD
  refine lv_goto (tgt := 17) S.1 S.2.1 dL_enter_10 (by decide) ?_
  refine lv_iconst (v := (nI 0)) S.1 S.2.1 dL_enter_17 (by decide) ?_
  exact wrE_ret (z := ()) S hr hlk rfl rfl hP rfl hS dL_enter_18

set_option maxRecDepth 100000 in
theorem kL_enterO (l : Launch) (dC : Nat → ClassId) (dI : Nat → Nat → Nat) (cI cZ cJ : ClassId) (a : Nat → Nat) (n mw nf : Nat) (sg fo L le sc li ba ca st : Nat → Nat) (o : Nat) (f : Nat → Int64) (t : Nat) (s0 : Nat) (w : Nat) (hI : iv n mw nf sg fo L le sc li ba ca) (ht : t < 4) (hs : s0 ≤ 1000) (h0 : n ≠ 0) (hb : hbl n sg = false) (hw : w < mw) (hf1 : fit n sg fo L le w = true) (hf2 : ∀ j, j < w → fit n sg fo L le j = false) : wrW l yL_enter cL_enter 5 (some .int) [(0, 10, 13, 13)] 6 131 [.ref (a 0), .int (nI t), .int (nI s0), .ref o] dC dI cI cZ cJ (vX cI cZ a n mw nf sg fo L le sc li ba ca st ++ [oc o cJ f]) (fun _ : Unit => vX cI cZ a n mw nf sg fo L le (va_up sc w (max (sc w) s0)) (va_up li w (li w ||| 2 ^ t)) ba ca st ++ [oc o cJ (vp_updL f 0 (Int32.toInt64 (nI w)))]) (some (.int (nI 0))) := by
  refine wrW_ofW RL (by decide) rfl (Nat.le_of_ble_eq_true rfl) ?_
  intro p e s m below meth c S hr hlk hK hP hD hS ls hl
  have hl : lv_has ls 5 [(0, .ref (a 0)), (1, .int (nI t)), (2, .int (nI s0)), (3, .ref o)] := hl
  refine lv_aload_n S.1 S.2.1 dL_enter_0 rfl (lv_at hl 3 rfl) ?_
  refine lv_iconst (v := (nI 0)) S.1 S.2.1 dL_enter_1 (by decide) ?_
  refine lv_aload_n S.1 S.2.1 dL_enter_2 rfl (lv_at hl 0 rfl) ?_
  refine lv_iload_n S.1 S.2.1 dL_enter_3 rfl (lv_at hl 1 rfl) ?_
  refine lv_iload_n S.1 S.2.1 dL_enter_4 rfl (lv_at hl 2 rfl) ?_
  refine wr_callV (C := RX0) (As := [.int (nI t), .int (nI s0)]) (rest := [.int (nI 0), .ref o]) S (kX0_enterO l dC dI cI cZ cJ a n mw nf sg fo L le sc li ba ca st t s0 w hI ht hs h0 hb hw hf1 hf2) hK [] [oc o cJ f] hP hD hS rfl (va_recv hK hP (ci := 0) (q0 := 0) rfl rfl) gL_15 hdX0_enter (by decide) hl.1 rfl (Nat.le_of_ble_eq_true rfl) dL_enter_5 ⟨Nat.zero_le _, Nat.zero_le _⟩ (fun H locs hP hD hS => ?_)
  have hP : va_P (dC, dI) vcl (vX cI cZ a n mw nf sg fo L le (va_up sc w (max (sc w) s0)) (va_up li w (li w ||| 2 ^ t)) ba ca st ++ [oc o cJ f]) H := hP
  have hD : va_D (wF (vX cI cZ a n mw nf sg fo L le sc li ba ca st ++ [oc o cJ f])) (vX cI cZ a n mw nf sg fo L le (va_up sc w (max (sc w) s0)) (va_up li w (li w ||| 2 ^ t)) ba ca st ++ [oc o cJ f]) := hD
  refine lv_i2l (v := Int32.toInt64 (nI w)) S.1 S.2.1 dL_enter_8 rfl ?_
  refine n_last S hK hP hD hS 10 2 rfl rfl dL_enter_9 (fun H locs hP hD hS => ?_)
  have hP : va_P (dC, dI) vcl (vX cI cZ a n mw nf sg fo L le (va_up sc w (max (sc w) s0)) (va_up li w (li w ||| 2 ^ t)) ba ca st ++ [oc o cJ (vp_updL f 0 (Int32.toInt64 (nI w)))]) H := hP
  have hD : va_D (wF (vX cI cZ a n mw nf sg fo L le sc li ba ca st ++ [oc o cJ f])) (vX cI cZ a n mw nf sg fo L le (va_up sc w (max (sc w) s0)) (va_up li w (li w ||| 2 ^ t)) ba ca st ++ [oc o cJ (vp_updL f 0 (Int32.toInt64 (nI w)))]) := hD
  refine lv_goto (tgt := 17) S.1 S.2.1 dL_enter_10 (by decide) ?_
  refine lv_iconst (v := (nI 0)) S.1 S.2.1 dL_enter_17 (by decide) ?_
  exact wrE_ret (z := ()) S hr hlk rfl rfl hP rfl hS dL_enter_18

set_option maxRecDepth 100000 in
theorem kL_enterT (l : Launch) (dC : Nat → ClassId) (dI : Nat → Nat → Nat) (cI cZ cJ : ClassId) (a : Nat → Nat) (n mw nf : Nat) (sg fo L le sc li ba ca st : Nat → Nat) (o : Nat) (f : Nat → Int64) (t : Nat) (s0 : Nat) (hI : iv n mw nf sg fo L le sc li ba ca) (ht : t < 4) (hs : s0 ≤ 1000) (h0 : n ≠ 0) (hb : hbl n sg = false) (hf2 : ∀ j, j < mw → fit n sg fo L le j = false) (hmw : mw < 250) : wrW l yL_enter cL_enter 5 (some .int) [(0, 10, 13, 13)] 6 131 [.ref (a 0), .int (nI t), .int (nI s0), .ref o] dC dI cI cZ cJ (vX cI cZ a n mw nf sg fo L le sc li ba ca st ++ [oc o cJ f]) (fun _ : Unit => vX cI cZ a n (mw + 1) nf sg fo (adL n mw n sg fo L) (va_up le mw n) (va_up sc mw s0) (va_up li mw (2 ^ t)) ba ca st ++ [oc o cJ (vp_updL f 0 (Int32.toInt64 (nI mw)))]) (some (.int (nI 0))) := by
  refine wrW_ofW RL (by decide) rfl (Nat.le_of_ble_eq_true rfl) ?_
  intro p e s m below meth c S hr hlk hK hP hD hS ls hl
  have hl : lv_has ls 5 [(0, .ref (a 0)), (1, .int (nI t)), (2, .int (nI s0)), (3, .ref o)] := hl
  refine lv_aload_n S.1 S.2.1 dL_enter_0 rfl (lv_at hl 3 rfl) ?_
  refine lv_iconst (v := (nI 0)) S.1 S.2.1 dL_enter_1 (by decide) ?_
  refine lv_aload_n S.1 S.2.1 dL_enter_2 rfl (lv_at hl 0 rfl) ?_
  refine lv_iload_n S.1 S.2.1 dL_enter_3 rfl (lv_at hl 1 rfl) ?_
  refine lv_iload_n S.1 S.2.1 dL_enter_4 rfl (lv_at hl 2 rfl) ?_
  refine wr_callV (C := RX0) (As := [.int (nI t), .int (nI s0)]) (rest := [.int (nI 0), .ref o]) S (kX0_enterT l dC dI cI cZ cJ a n mw nf sg fo L le sc li ba ca st t s0 hI ht hs h0 hb hf2 hmw) hK [] [oc o cJ f] hP hD hS rfl (va_recv hK hP (ci := 0) (q0 := 0) rfl rfl) gL_15 hdX0_enter (by decide) hl.1 rfl (Nat.le_of_ble_eq_true rfl) dL_enter_5 ⟨Nat.zero_le _, Nat.zero_le _⟩ (fun H locs hP hD hS => ?_)
  have hP : va_P (dC, dI) vcl (vX cI cZ a n (mw + 1) nf sg fo (adL n mw n sg fo L) (va_up le mw n) (va_up sc mw s0) (va_up li mw (2 ^ t)) ba ca st ++ [oc o cJ f]) H := hP
  have hD : va_D (wF (vX cI cZ a n mw nf sg fo L le sc li ba ca st ++ [oc o cJ f])) (vX cI cZ a n (mw + 1) nf sg fo (adL n mw n sg fo L) (va_up le mw n) (va_up sc mw s0) (va_up li mw (2 ^ t)) ba ca st ++ [oc o cJ f]) := hD
  refine lv_i2l (v := Int32.toInt64 (nI mw)) S.1 S.2.1 dL_enter_8 rfl ?_
  refine n_last S hK hP hD hS 10 2 rfl rfl dL_enter_9 (fun H locs hP hD hS => ?_)
  have hP : va_P (dC, dI) vcl (vX cI cZ a n (mw + 1) nf sg fo (adL n mw n sg fo L) (va_up le mw n) (va_up sc mw s0) (va_up li mw (2 ^ t)) ba ca st ++ [oc o cJ (vp_updL f 0 (Int32.toInt64 (nI mw)))]) H := hP
  have hD : va_D (wF (vX cI cZ a n mw nf sg fo L le sc li ba ca st ++ [oc o cJ f])) (vX cI cZ a n (mw + 1) nf sg fo (adL n mw n sg fo L) (va_up le mw n) (va_up sc mw s0) (va_up li mw (2 ^ t)) ba ca st ++ [oc o cJ (vp_updL f 0 (Int32.toInt64 (nI mw)))]) := hD
  refine lv_goto (tgt := 17) S.1 S.2.1 dL_enter_10 (by decide) ?_
  refine lv_iconst (v := (nI 0)) S.1 S.2.1 dL_enter_17 (by decide) ?_
  exact wrE_ret (z := ()) S hr hlk rfl rfl hP rfl hS dL_enter_18

set_option maxRecDepth 100000 in
theorem kL_enterE (l : Launch) (dC : Nat → ClassId) (dI : Nat → Nat → Nat) (cI cZ cJ : ClassId) (a : Nat → Nat) (n mw nf : Nat) (sg fo L le sc li ba ca st : Nat → Nat) (o : Nat) (f : Nat → Int64) (hfl : l.flags = flags0) (u : Int32) (x : Int32) (hu : isLi u = false) : thW l yL_enter cL_enter 5 (some .int) [(0, 10, 13, 13)] 9 138 [.ref (a 0), .int u, .int x, .ref o] (rB dC dI cI cZ cJ (vX cI cZ a n mw nf sg fo L le sc li ba ca st)) := by
  refine thW_ofW RL (by decide) rfl (Nat.le_of_ble_eq_true rfl) ?_
  intro p e s m below meth c S hex hr hlk hB ht ls hl
  obtain ⟨hP, hK⟩ := hB
  have hl : lv_has ls 5 [(0, .ref (a 0)), (1, .int u), (2, .int x), (3, .ref o)] := hl
  refine lv_aload_n S.1 S.2.1 dL_enter_0 rfl (lv_at hl 3 rfl) ?_
  refine lv_iconst (v := (nI 0)) S.1 S.2.1 dL_enter_1 (by decide) ?_
  refine lv_aload_n S.1 S.2.1 dL_enter_2 rfl (lv_at hl 0 rfl) ?_
  refine lv_iload_n S.1 S.2.1 dL_enter_3 rfl (lv_at hl 1 rfl) ?_
  refine lv_iload_n S.1 S.2.1 dL_enter_4 rfl (lv_at hl 2 rfl) ?_
  refine thr_catchV (C := RX0) (As := [.int u, .int x]) (rest := [.int (nI 0), .ref o]) S hex (by decide) (fun U hU hW => twS_keep ht hW (fun q c h => by rw [hU]; exact h)) (kX0_enterE l dC dI cI cZ cJ a n mw nf sg fo L le sc li ba ca st hfl u x hu) (fun U hU hW => ⟨by rw [hU]; exact hP, va_K.moved hW.alike hK⟩) (va_recv hK hP (ci := 0) (q0 := 0) rfl rfl) gL_15 hdX0_enter (by decide) hl.1 rfl (Nat.le_of_ble_eq_true rfl) dL_enter_5 (fun xe H hz hk => ?_)
  refine lv_astore (lv' := [(4, .ref xe), (0, .ref (a 0)), (1, .int u), (2, .int x), (3, .ref o)]) S.1 S.2.1 dL_enter_13 hl (by decide) rfl (fun ls hl => ?_)
  refine lv_iconst (v := (nI 1)) S.1 S.2.1 dL_enter_15 (by decide) ?_
  exact thW_ret S hr hlk hz hk dL_enter_16

set_option maxRecDepth 100000 in
theorem kL_mergeN (l : Launch) (dC : Nat → ClassId) (dI : Nat → Nat → Nat) (cI cZ cJ : ClassId) (a : Nat → Nat) (n mw nf : Nat) (sg fo L le sc li ba ca st : Nat → Nat) (o : Nat) (f : Nat → Int64) (x : Int32) (t : Nat) (u : Nat) (v : Nat) (hI : iv n mw nf sg fo L le sc li ba ca) (ht : t < 4) (hu : u < 4) (hv : v < 4) (hx : ¬ x = nI 0 ∧ ¬ x = nI 1 ∧ ¬ x = nI 2) : wrW l yL_merge cL_merge 7 (some .int) [(0, 14, 17, 13)] 2 46 [.ref (a 0), .int x, .int (nI t), .int (nI u), .int (nI v), .ref o] dC dI cI cZ cJ (vX cI cZ a n mw nf sg fo L le sc li ba ca st ++ [oc o cJ f]) (fun _ : Unit => vX cI cZ a n mw nf sg fo L le sc li ba ca st ++ [oc o cJ (vp_updL f 0 (Int32.toInt64 ((-1 : Int32))))]) (some (.int (nI 0))) := by
  refine wrW_ofW RL (by decide) rfl (Nat.le_of_ble_eq_true rfl) ?_
  intro p e s m below meth c S hr hlk hK hP hD hS ls hl
  have hl : lv_has ls 7 [(0, .ref (a 0)), (1, .int x), (2, .int (nI t)), (3, .int (nI u)), (4, .int (nI v)), (5, .ref o)] := hl
  refine lv_aload S.1 S.2.1 dL_merge_0 (lv_at hl 5 rfl) ?_
  refine lv_iconst (v := (nI 0)) S.1 S.2.1 dL_merge_2 (by decide) ?_
  refine lv_aload_n S.1 S.2.1 dL_merge_3 rfl (lv_at hl 0 rfl) ?_
  refine lv_iload_n S.1 S.2.1 dL_merge_4 rfl (lv_at hl 1 rfl) ?_
  refine lv_iload_n S.1 S.2.1 dL_merge_5 rfl (lv_at hl 2 rfl) ?_
  refine lv_iload_n S.1 S.2.1 dL_merge_6 rfl (lv_at hl 3 rfl) ?_
  refine lv_iload S.1 S.2.1 dL_merge_7 (lv_at hl 4 rfl) ?_
  refine rd_callV (C := RX0) (As := [.int x, .int (nI t), .int (nI u), .int (nI v)]) (rest := [.int (nI 0), .ref o]) S (kX0_mergeN l dC dI cI cZ cJ a n mw nf sg fo L le sc li ba ca st x t u v hI ht hu hv hx) rB_blind (fun U hU hW => ⟨by rw [hU]; exact wr_sub (u := []) (v := [oc o cJ f]) hP, va_K.moved hW.alike hK⟩) (va_recv hK hP (ci := 0) (q0 := 0) rfl rfl) gL_19 hdX0_merge (by decide) hl.1 rfl (Nat.le_of_ble_eq_true rfl) dL_merge_9 ⟨Nat.zero_le _, Nat.zero_le _⟩ ?_
  refine lv_i2l (v := Int32.toInt64 ((-1 : Int32))) S.1 S.2.1 dL_merge_12 rfl ?_
  refine n_last S hK hP hD hS 10 2 rfl rfl dL_merge_13 (fun H locs hP hD hS => ?_)
  have hP : va_P (dC, dI) vcl (vX cI cZ a n mw nf sg fo L le sc li ba ca st ++ [oc o cJ (vp_updL f 0 (Int32.toInt64 ((-1 : Int32))))]) H := hP
  have hD : va_D (wF (vX cI cZ a n mw nf sg fo L le sc li ba ca st ++ [oc o cJ f])) (vX cI cZ a n mw nf sg fo L le sc li ba ca st ++ [oc o cJ (vp_updL f 0 (Int32.toInt64 ((-1 : Int32))))]) := hD
  refine lv_goto (tgt := 21) S.1 S.2.1 dL_merge_14 (by decide) ?_
  refine lv_iconst (v := (nI 0)) S.1 S.2.1 dL_merge_21 (by decide) ?_
  exact wrE_ret (z := ()) S hr hlk rfl rfl hP rfl hS dL_merge_22

set_option maxRecDepth 100000 in
theorem kL_merge (l : Launch) (dC : Nat → ClassId) (dI : Nat → Nat → Nat) (cI cZ cJ : ClassId) (a : Nat → Nat) (n mw nf : Nat) (sg fo L le sc li ba ca st : Nat → Nat) (o : Nat) (f : Nat → Int64) (hw : Nat) (t : Nat) (u : Nat) (v : Nat) (hI : iv n mw nf sg fo L le sc li ba ca) (hh : hw < 3) (ht : t < 4) (hu : u < 4) (hv : v < 4) : wrW l yL_merge cL_merge 7 (some .int) [(0, 14, 17, 13)] 2 48 [.ref (a 0), .int (nI hw), .int (nI t), .int (nI u), .int (nI v), .ref o] dC dI cI cZ cJ (vX cI cZ a n mw nf sg fo L le sc li ba ca st ++ [oc o cJ f]) (fun _ : Unit => vX cI cZ a n mw nf sg fo L le sc (mgF hw t u v li mw) ba ca st ++ [oc o cJ (vp_updL f 0 (Int32.toInt64 (nI (cnt (mgP hw u v li) mw))))]) (some (.int (nI 0))) := by
  refine wrW_ofW RL (by decide) rfl (Nat.le_of_ble_eq_true rfl) ?_
  intro p e s m below meth c S hr hlk hK hP hD hS ls hl
  have hl : lv_has ls 7 [(0, .ref (a 0)), (1, .int (nI hw)), (2, .int (nI t)), (3, .int (nI u)), (4, .int (nI v)), (5, .ref o)] := hl
  refine lv_aload S.1 S.2.1 dL_merge_0 (lv_at hl 5 rfl) ?_
  refine lv_iconst (v := (nI 0)) S.1 S.2.1 dL_merge_2 (by decide) ?_
  refine lv_aload_n S.1 S.2.1 dL_merge_3 rfl (lv_at hl 0 rfl) ?_
  refine lv_iload_n S.1 S.2.1 dL_merge_4 rfl (lv_at hl 1 rfl) ?_
  refine lv_iload_n S.1 S.2.1 dL_merge_5 rfl (lv_at hl 2 rfl) ?_
  refine lv_iload_n S.1 S.2.1 dL_merge_6 rfl (lv_at hl 3 rfl) ?_
  refine lv_iload S.1 S.2.1 dL_merge_7 (lv_at hl 4 rfl) ?_
  refine wr_callV (C := RX0) (As := [.int (nI hw), .int (nI t), .int (nI u), .int (nI v)]) (rest := [.int (nI 0), .ref o]) S (kX0_merge l dC dI cI cZ cJ a n mw nf sg fo L le sc li ba ca st hw t u v hI hh ht hu hv) hK [] [oc o cJ f] hP hD hS rfl (va_recv hK hP (ci := 0) (q0 := 0) rfl rfl) gL_19 hdX0_merge (by decide) hl.1 rfl (Nat.le_of_ble_eq_true rfl) dL_merge_9 ⟨Nat.zero_le _, Nat.zero_le _⟩ (fun H locs hP hD hS => ?_)
  have hP : va_P (dC, dI) vcl (vX cI cZ a n mw nf sg fo L le sc (mgF hw t u v li mw) ba ca st ++ [oc o cJ f]) H := hP
  have hD : va_D (wF (vX cI cZ a n mw nf sg fo L le sc li ba ca st ++ [oc o cJ f])) (vX cI cZ a n mw nf sg fo L le sc (mgF hw t u v li mw) ba ca st ++ [oc o cJ f]) := hD
  refine lv_i2l (v := Int32.toInt64 (nI (cnt (mgP hw u v li) mw))) S.1 S.2.1 dL_merge_12 rfl ?_
  refine n_last S hK hP hD hS 10 2 rfl rfl dL_merge_13 (fun H locs hP hD hS => ?_)
  have hP : va_P (dC, dI) vcl (vX cI cZ a n mw nf sg fo L le sc (mgF hw t u v li mw) ba ca st ++ [oc o cJ (vp_updL f 0 (Int32.toInt64 (nI (cnt (mgP hw u v li) mw))))]) H := hP
  have hD : va_D (wF (vX cI cZ a n mw nf sg fo L le sc li ba ca st ++ [oc o cJ f])) (vX cI cZ a n mw nf sg fo L le sc (mgF hw t u v li mw) ba ca st ++ [oc o cJ (vp_updL f 0 (Int32.toInt64 (nI (cnt (mgP hw u v li) mw))))]) := hD
  refine lv_goto (tgt := 21) S.1 S.2.1 dL_merge_14 (by decide) ?_
  refine lv_iconst (v := (nI 0)) S.1 S.2.1 dL_merge_21 (by decide) ?_
  exact wrE_ret (z := ()) S hr hlk rfl rfl hP rfl hS dL_merge_22

set_option maxRecDepth 100000 in
theorem kL_mergeE1 (l : Launch) (dC : Nat → ClassId) (dI : Nat → Nat → Nat) (cI cZ cJ : ClassId) (a : Nat → Nat) (n mw nf : Nat) (sg fo L le sc li ba ca st : Nat → Nat) (o : Nat) (f : Nat → Int64) (hfl : l.flags = flags0) (x : Int32) (u : Int32) (v : Int32) (z : Int32) (hu : isLi u = false) : thW l yL_merge cL_merge 7 (some .int) [(0, 14, 17, 13)] 9 141 [.ref (a 0), .int x, .int u, .int v, .int z, .ref o] (rB dC dI cI cZ cJ (vX cI cZ a n mw nf sg fo L le sc li ba ca st)) := by
  refine thW_ofW RL (by decide) rfl (Nat.le_of_ble_eq_true rfl) ?_
  intro p e s m below meth c S hex hr hlk hB ht ls hl
  obtain ⟨hP, hK⟩ := hB
  have hl : lv_has ls 7 [(0, .ref (a 0)), (1, .int x), (2, .int u), (3, .int v), (4, .int z), (5, .ref o)] := hl
  refine lv_aload S.1 S.2.1 dL_merge_0 (lv_at hl 5 rfl) ?_
  refine lv_iconst (v := (nI 0)) S.1 S.2.1 dL_merge_2 (by decide) ?_
  refine lv_aload_n S.1 S.2.1 dL_merge_3 rfl (lv_at hl 0 rfl) ?_
  refine lv_iload_n S.1 S.2.1 dL_merge_4 rfl (lv_at hl 1 rfl) ?_
  refine lv_iload_n S.1 S.2.1 dL_merge_5 rfl (lv_at hl 2 rfl) ?_
  refine lv_iload_n S.1 S.2.1 dL_merge_6 rfl (lv_at hl 3 rfl) ?_
  refine lv_iload S.1 S.2.1 dL_merge_7 (lv_at hl 4 rfl) ?_
  refine thr_catchV (C := RX0) (As := [.int x, .int u, .int v, .int z]) (rest := [.int (nI 0), .ref o]) S hex (by decide) (fun U hU hW => twS_keep ht hW (fun q c h => by rw [hU]; exact h)) (kX0_mergeE1 l dC dI cI cZ cJ a n mw nf sg fo L le sc li ba ca st hfl x u v z hu) (fun U hU hW => ⟨by rw [hU]; exact hP, va_K.moved hW.alike hK⟩) (va_recv hK hP (ci := 0) (q0 := 0) rfl rfl) gL_19 hdX0_merge (by decide) hl.1 rfl (Nat.le_of_ble_eq_true rfl) dL_merge_9 (fun xe H hz hk => ?_)
  refine lv_astore (lv' := [(6, .ref xe), (0, .ref (a 0)), (1, .int x), (2, .int u), (3, .int v), (4, .int z), (5, .ref o)]) S.1 S.2.1 dL_merge_17 hl (by decide) rfl (fun ls hl => ?_)
  refine lv_iconst (v := (nI 1)) S.1 S.2.1 dL_merge_19 (by decide) ?_
  exact thW_ret S hr hlk hz hk dL_merge_20

set_option maxRecDepth 100000 in
theorem kL_mergeE2 (l : Launch) (dC : Nat → ClassId) (dI : Nat → Nat → Nat) (cI cZ cJ : ClassId) (a : Nat → Nat) (n mw nf : Nat) (sg fo L le sc li ba ca st : Nat → Nat) (o : Nat) (f : Nat → Int64) (hfl : l.flags = flags0) (x : Int32) (t : Nat) (v : Int32) (z : Int32) (ht0 : t < 4) (hv : isLi v = false) : thW l yL_merge cL_merge 7 (some .int) [(0, 14, 17, 13)] 9 141 [.ref (a 0), .int x, .int (nI t), .int v, .int z, .ref o] (rB dC dI cI cZ cJ (vX cI cZ a n mw nf sg fo L le sc li ba ca st)) := by
  refine thW_ofW RL (by decide) rfl (Nat.le_of_ble_eq_true rfl) ?_
  intro p e s m below meth c S hex hr hlk hB ht ls hl
  obtain ⟨hP, hK⟩ := hB
  have hl : lv_has ls 7 [(0, .ref (a 0)), (1, .int x), (2, .int (nI t)), (3, .int v), (4, .int z), (5, .ref o)] := hl
  refine lv_aload S.1 S.2.1 dL_merge_0 (lv_at hl 5 rfl) ?_
  refine lv_iconst (v := (nI 0)) S.1 S.2.1 dL_merge_2 (by decide) ?_
  refine lv_aload_n S.1 S.2.1 dL_merge_3 rfl (lv_at hl 0 rfl) ?_
  refine lv_iload_n S.1 S.2.1 dL_merge_4 rfl (lv_at hl 1 rfl) ?_
  refine lv_iload_n S.1 S.2.1 dL_merge_5 rfl (lv_at hl 2 rfl) ?_
  refine lv_iload_n S.1 S.2.1 dL_merge_6 rfl (lv_at hl 3 rfl) ?_
  refine lv_iload S.1 S.2.1 dL_merge_7 (lv_at hl 4 rfl) ?_
  refine thr_catchV (C := RX0) (As := [.int x, .int (nI t), .int v, .int z]) (rest := [.int (nI 0), .ref o]) S hex (by decide) (fun U hU hW => twS_keep ht hW (fun q c h => by rw [hU]; exact h)) (kX0_mergeE2 l dC dI cI cZ cJ a n mw nf sg fo L le sc li ba ca st hfl x t v z ht0 hv) (fun U hU hW => ⟨by rw [hU]; exact hP, va_K.moved hW.alike hK⟩) (va_recv hK hP (ci := 0) (q0 := 0) rfl rfl) gL_19 hdX0_merge (by decide) hl.1 rfl (Nat.le_of_ble_eq_true rfl) dL_merge_9 (fun xe H hz hk => ?_)
  refine lv_astore (lv' := [(6, .ref xe), (0, .ref (a 0)), (1, .int x), (2, .int (nI t)), (3, .int v), (4, .int z), (5, .ref o)]) S.1 S.2.1 dL_merge_17 hl (by decide) rfl (fun ls hl => ?_)
  refine lv_iconst (v := (nI 1)) S.1 S.2.1 dL_merge_19 (by decide) ?_
  exact thW_ret S hr hlk hz hk dL_merge_20

set_option maxRecDepth 100000 in
theorem kL_mergeE3 (l : Launch) (dC : Nat → ClassId) (dI : Nat → Nat → Nat) (cI cZ cJ : ClassId) (a : Nat → Nat) (n mw nf : Nat) (sg fo L le sc li ba ca st : Nat → Nat) (o : Nat) (f : Nat → Int64) (hfl : l.flags = flags0) (x : Int32) (t : Nat) (t2 : Nat) (z : Int32) (ht0 : t < 4) (ht2 : t2 < 4) (hz : isLi z = false) : thW l yL_merge cL_merge 7 (some .int) [(0, 14, 17, 13)] 9 141 [.ref (a 0), .int x, .int (nI t), .int (nI t2), .int z, .ref o] (rB dC dI cI cZ cJ (vX cI cZ a n mw nf sg fo L le sc li ba ca st)) := by
  refine thW_ofW RL (by decide) rfl (Nat.le_of_ble_eq_true rfl) ?_
  intro p e s m below meth c S hex hr hlk hB ht ls hl
  obtain ⟨hP, hK⟩ := hB
  have hl : lv_has ls 7 [(0, .ref (a 0)), (1, .int x), (2, .int (nI t)), (3, .int (nI t2)), (4, .int z), (5, .ref o)] := hl
  refine lv_aload S.1 S.2.1 dL_merge_0 (lv_at hl 5 rfl) ?_
  refine lv_iconst (v := (nI 0)) S.1 S.2.1 dL_merge_2 (by decide) ?_
  refine lv_aload_n S.1 S.2.1 dL_merge_3 rfl (lv_at hl 0 rfl) ?_
  refine lv_iload_n S.1 S.2.1 dL_merge_4 rfl (lv_at hl 1 rfl) ?_
  refine lv_iload_n S.1 S.2.1 dL_merge_5 rfl (lv_at hl 2 rfl) ?_
  refine lv_iload_n S.1 S.2.1 dL_merge_6 rfl (lv_at hl 3 rfl) ?_
  refine lv_iload S.1 S.2.1 dL_merge_7 (lv_at hl 4 rfl) ?_
  refine thr_catchV (C := RX0) (As := [.int x, .int (nI t), .int (nI t2), .int z]) (rest := [.int (nI 0), .ref o]) S hex (by decide) (fun U hU hW => twS_keep ht hW (fun q c h => by rw [hU]; exact h)) (kX0_mergeE3 l dC dI cI cZ cJ a n mw nf sg fo L le sc li ba ca st hfl x t t2 z ht0 ht2 hz) (fun U hU hW => ⟨by rw [hU]; exact hP, va_K.moved hW.alike hK⟩) (va_recv hK hP (ci := 0) (q0 := 0) rfl rfl) gL_19 hdX0_merge (by decide) hl.1 rfl (Nat.le_of_ble_eq_true rfl) dL_merge_9 (fun xe H hz hk => ?_)
  refine lv_astore (lv' := [(6, .ref xe), (0, .ref (a 0)), (1, .int x), (2, .int (nI t)), (3, .int (nI t2)), (4, .int z), (5, .ref o)]) S.1 S.2.1 dL_merge_17 hl (by decide) rfl (fun ls hl => ?_)
  refine lv_iconst (v := (nI 1)) S.1 S.2.1 dL_merge_19 (by decide) ?_
  exact thW_ret S hr hlk hz hk dL_merge_20

set_option maxRecDepth 100000 in
theorem kL_seek (l : Launch) (dC : Nat → ClassId) (dI : Nat → Nat → Nat) (cI cZ cJ : ClassId) (a : Nat → Nat) (n mw nf : Nat) (sg fo L le sc li ba ca st : Nat → Nat) (o : Nat) (f : Nat → Int64) (t : Nat) (hI : iv n mw nf sg fo L le sc li ba ca) (ht : t < 4) : wrW l yL_seek cL_seek 4 (some .int) [(0, 9, 12, 13)] 5 113 [.ref (a 0), .int (nI t), .ref o] dC dI cI cZ cJ (vX cI cZ a n mw nf sg fo L le sc li ba ca st ++ [oc o cJ f]) (fun _ : Unit => vX cI cZ a n mw ((skS n sg fo L le sc li ba t ca mw).1) sg fo L le sc li ba ((skS n sg fo L le sc li ba t ca mw).2) st ++ [oc o cJ (vp_updL f 0 (Int32.toInt64 (nI ((skS n sg fo L le sc li ba t ca mw).1))))]) (some (.int (nI 0))) := by
  refine wrW_ofW RL (by decide) rfl (Nat.le_of_ble_eq_true rfl) ?_
  intro p e s m below meth c S hr hlk hK hP hD hS ls hl
  have hl : lv_has ls 4 [(0, .ref (a 0)), (1, .int (nI t)), (2, .ref o)] := hl
  refine lv_aload_n S.1 S.2.1 dL_seek_0 rfl (lv_at hl 2 rfl) ?_
  refine lv_iconst (v := (nI 0)) S.1 S.2.1 dL_seek_1 (by decide) ?_
  refine lv_aload_n S.1 S.2.1 dL_seek_2 rfl (lv_at hl 0 rfl) ?_
  refine lv_iload_n S.1 S.2.1 dL_seek_3 rfl (lv_at hl 1 rfl) ?_
  refine wr_callV (C := RX0) (As := [.int (nI t)]) (rest := [.int (nI 0), .ref o]) S (kX0_seek l dC dI cI cZ cJ a n mw nf sg fo L le sc li ba ca st t hI ht) hK [] [oc o cJ f] hP hD hS rfl (va_recv hK hP (ci := 0) (q0 := 0) rfl rfl) gL_23 hdX0_seek (by decide) hl.1 rfl (Nat.le_of_ble_eq_true rfl) dL_seek_4 ⟨Nat.zero_le _, Nat.zero_le _⟩ (fun H locs hP hD hS => ?_)
  have hP : va_P (dC, dI) vcl (vX cI cZ a n mw ((skS n sg fo L le sc li ba t ca mw).1) sg fo L le sc li ba ((skS n sg fo L le sc li ba t ca mw).2) st ++ [oc o cJ f]) H := hP
  have hD : va_D (wF (vX cI cZ a n mw nf sg fo L le sc li ba ca st ++ [oc o cJ f])) (vX cI cZ a n mw ((skS n sg fo L le sc li ba t ca mw).1) sg fo L le sc li ba ((skS n sg fo L le sc li ba t ca mw).2) st ++ [oc o cJ f]) := hD
  refine lv_i2l (v := Int32.toInt64 (nI ((skS n sg fo L le sc li ba t ca mw).1))) S.1 S.2.1 dL_seek_7 rfl ?_
  refine n_last S hK hP hD hS 10 2 rfl rfl dL_seek_8 (fun H locs hP hD hS => ?_)
  have hP : va_P (dC, dI) vcl (vX cI cZ a n mw ((skS n sg fo L le sc li ba t ca mw).1) sg fo L le sc li ba ((skS n sg fo L le sc li ba t ca mw).2) st ++ [oc o cJ (vp_updL f 0 (Int32.toInt64 (nI ((skS n sg fo L le sc li ba t ca mw).1))))]) H := hP
  have hD : va_D (wF (vX cI cZ a n mw nf sg fo L le sc li ba ca st ++ [oc o cJ f])) (vX cI cZ a n mw ((skS n sg fo L le sc li ba t ca mw).1) sg fo L le sc li ba ((skS n sg fo L le sc li ba t ca mw).2) st ++ [oc o cJ (vp_updL f 0 (Int32.toInt64 (nI ((skS n sg fo L le sc li ba t ca mw).1))))]) := hD
  refine lv_goto (tgt := 15) S.1 S.2.1 dL_seek_9 (by decide) ?_
  refine lv_iconst (v := (nI 0)) S.1 S.2.1 dL_seek_15 (by decide) ?_
  exact wrE_ret (z := ()) S hr hlk rfl rfl hP rfl hS dL_seek_16

set_option maxRecDepth 100000 in
theorem kL_seekE (l : Launch) (dC : Nat → ClassId) (dI : Nat → Nat → Nat) (cI cZ cJ : ClassId) (a : Nat → Nat) (n mw nf : Nat) (sg fo L le sc li ba ca st : Nat → Nat) (o : Nat) (f : Nat → Int64) (hfl : l.flags = flags0) (u : Int32) (hu : isLi u = false) : thW l yL_seek cL_seek 4 (some .int) [(0, 9, 12, 13)] 9 137 [.ref (a 0), .int u, .ref o] (rB dC dI cI cZ cJ (vX cI cZ a n mw nf sg fo L le sc li ba ca st)) := by
  refine thW_ofW RL (by decide) rfl (Nat.le_of_ble_eq_true rfl) ?_
  intro p e s m below meth c S hex hr hlk hB ht ls hl
  obtain ⟨hP, hK⟩ := hB
  have hl : lv_has ls 4 [(0, .ref (a 0)), (1, .int u), (2, .ref o)] := hl
  refine lv_aload_n S.1 S.2.1 dL_seek_0 rfl (lv_at hl 2 rfl) ?_
  refine lv_iconst (v := (nI 0)) S.1 S.2.1 dL_seek_1 (by decide) ?_
  refine lv_aload_n S.1 S.2.1 dL_seek_2 rfl (lv_at hl 0 rfl) ?_
  refine lv_iload_n S.1 S.2.1 dL_seek_3 rfl (lv_at hl 1 rfl) ?_
  refine thr_catchV (C := RX0) (As := [.int u]) (rest := [.int (nI 0), .ref o]) S hex (by decide) (fun U hU hW => twS_keep ht hW (fun q c h => by rw [hU]; exact h)) (kX0_seekE l dC dI cI cZ cJ a n mw nf sg fo L le sc li ba ca st hfl u hu) (fun U hU hW => ⟨by rw [hU]; exact hP, va_K.moved hW.alike hK⟩) (va_recv hK hP (ci := 0) (q0 := 0) rfl rfl) gL_23 hdX0_seek (by decide) hl.1 rfl (Nat.le_of_ble_eq_true rfl) dL_seek_4 (fun xe H hz hk => ?_)
  refine lv_astore_n (lv' := [(3, .ref xe), (0, .ref (a 0)), (1, .int u), (2, .ref o)]) S.1 S.2.1 dL_seek_12 rfl hl (by decide) rfl (fun ls hl => ?_)
  refine lv_iconst (v := (nI 1)) S.1 S.2.1 dL_seek_13 (by decide) ?_
  exact thW_ret S hr hlk hz hk dL_seek_14

set_option maxRecDepth 100000 in
theorem kL_candidate (l : Launch) (dC : Nat → ClassId) (dI : Nat → Nat → Nat) (cI cZ cJ : ClassId) (a : Nat → Nat) (n mw nf : Nat) (sg fo L le sc li ba ca st : Nat → Nat) (o : Nat) (f : Nat → Int64) (k : Nat) (hI : iv n mw nf sg fo L le sc li ba ca) (hk : k < nf) : wrW l yL_candidate cL_candidate 4 (some .int) [(0, 9, 12, 13)] 1 21 [.ref (a 0), .int (nI k), .ref o] dC dI cI cZ cJ (vX cI cZ a n mw nf sg fo L le sc li ba ca st ++ [oc o cJ f]) (fun _ : Unit => vX cI cZ a n mw nf sg fo L le sc li ba ca st ++ [oc o cJ (vp_updL f 0 (Int32.toInt64 (nI (ca k))))]) (some (.int (nI 0))) := by
  refine wrW_ofW RL (by decide) rfl (Nat.le_of_ble_eq_true rfl) ?_
  intro p e s m below meth c S hr hlk hK hP hD hS ls hl
  have hl : lv_has ls 4 [(0, .ref (a 0)), (1, .int (nI k)), (2, .ref o)] := hl
  refine lv_aload_n S.1 S.2.1 dL_candidate_0 rfl (lv_at hl 2 rfl) ?_
  refine lv_iconst (v := (nI 0)) S.1 S.2.1 dL_candidate_1 (by decide) ?_
  refine lv_aload_n S.1 S.2.1 dL_candidate_2 rfl (lv_at hl 0 rfl) ?_
  refine lv_iload_n S.1 S.2.1 dL_candidate_3 rfl (lv_at hl 1 rfl) ?_
  refine rd_callV (C := RX0) (As := [.int (nI k)]) (rest := [.int (nI 0), .ref o]) S (kX0_candidate l dC dI cI cZ cJ a n mw nf sg fo L le sc li ba ca st k hI hk) rB_blind (fun U hU hW => ⟨by rw [hU]; exact wr_sub (u := []) (v := [oc o cJ f]) hP, va_K.moved hW.alike hK⟩) (va_recv hK hP (ci := 0) (q0 := 0) rfl rfl) gL_27 hdX0_candidate (by decide) hl.1 rfl (Nat.le_of_ble_eq_true rfl) dL_candidate_4 ⟨Nat.zero_le _, Nat.zero_le _⟩ ?_
  refine lv_i2l (v := Int32.toInt64 (nI (ca k))) S.1 S.2.1 dL_candidate_7 rfl ?_
  refine n_last S hK hP hD hS 10 2 rfl rfl dL_candidate_8 (fun H locs hP hD hS => ?_)
  have hP : va_P (dC, dI) vcl (vX cI cZ a n mw nf sg fo L le sc li ba ca st ++ [oc o cJ (vp_updL f 0 (Int32.toInt64 (nI (ca k))))]) H := hP
  have hD : va_D (wF (vX cI cZ a n mw nf sg fo L le sc li ba ca st ++ [oc o cJ f])) (vX cI cZ a n mw nf sg fo L le sc li ba ca st ++ [oc o cJ (vp_updL f 0 (Int32.toInt64 (nI (ca k))))]) := hD
  refine lv_goto (tgt := 15) S.1 S.2.1 dL_candidate_9 (by decide) ?_
  refine lv_iconst (v := (nI 0)) S.1 S.2.1 dL_candidate_15 (by decide) ?_
  exact wrE_ret (z := ()) S hr hlk rfl rfl hP rfl hS dL_candidate_16

set_option maxRecDepth 100000 in
theorem kL_candidateE (l : Launch) (dC : Nat → ClassId) (dI : Nat → Nat → Nat) (cI cZ cJ : ClassId) (a : Nat → Nat) (n mw nf : Nat) (sg fo L le sc li ba ca st : Nat → Nat) (o : Nat) (f : Nat → Int64) (hfl : l.flags = flags0) (x : Int32) (hx : x < 0 ∨ nI nf ≤ x) : thW l yL_candidate cL_candidate 4 (some .int) [(0, 9, 12, 13)] 8 116 [.ref (a 0), .int x, .ref o] (rB dC dI cI cZ cJ (vX cI cZ a n mw nf sg fo L le sc li ba ca st)) := by
  refine thW_ofW RL (by decide) rfl (Nat.le_of_ble_eq_true rfl) ?_
  intro p e s m below meth c S hex hr hlk hB ht ls hl
  obtain ⟨hP, hK⟩ := hB
  have hl : lv_has ls 4 [(0, .ref (a 0)), (1, .int x), (2, .ref o)] := hl
  refine lv_aload_n S.1 S.2.1 dL_candidate_0 rfl (lv_at hl 2 rfl) ?_
  refine lv_iconst (v := (nI 0)) S.1 S.2.1 dL_candidate_1 (by decide) ?_
  refine lv_aload_n S.1 S.2.1 dL_candidate_2 rfl (lv_at hl 0 rfl) ?_
  refine lv_iload_n S.1 S.2.1 dL_candidate_3 rfl (lv_at hl 1 rfl) ?_
  refine thr_catchV (C := RX0) (As := [.int x]) (rest := [.int (nI 0), .ref o]) S hex (by decide) (fun U hU hW => twS_keep ht hW (fun q c h => by rw [hU]; exact h)) (kX0_candidateE l dC dI cI cZ cJ a n mw nf sg fo L le sc li ba ca st hfl x hx) (fun U hU hW => ⟨by rw [hU]; exact hP, va_K.moved hW.alike hK⟩) (va_recv hK hP (ci := 0) (q0 := 0) rfl rfl) gL_27 hdX0_candidate (by decide) hl.1 rfl (Nat.le_of_ble_eq_true rfl) dL_candidate_4 (fun xe H hz hk => ?_)
  refine lv_astore_n (lv' := [(3, .ref xe), (0, .ref (a 0)), (1, .int x), (2, .ref o)]) S.1 S.2.1 dL_candidate_12 rfl hl (by decide) rfl (fun ls hl => ?_)
  refine lv_iconst (v := (nI 1)) S.1 S.2.1 dL_candidate_13 (by decide) ?_
  exact thW_ret S hr hlk hz hk dL_candidate_14

set_option maxRecDepth 100000 in
theorem kL_at (l : Launch) (dC : Nat → ClassId) (dI : Nat → Nat → Nat) (cI cZ cJ : ClassId) (a : Nat → Nat) (n mw nf : Nat) (sg fo L le sc li ba ca st : Nat → Nat) (o : Nat) (f : Nat → Int64) (x : Int32) (y : Nat) (hI : iv n mw nf sg fo L le sc li ba ca) (hy : 97 ≤ y ∧ y ≤ 122) : wrW l yL_at cL_at 5 (some .int) [(0, 10, 13, 13)] 3 64 [.ref (a 0), .int x, .int (nI y), .ref o] dC dI cI cZ cJ (vX cI cZ a n mw nf sg fo L le sc li ba ca st ++ [oc o cJ f]) (fun _ : Unit => vX cI cZ a n mw nf sg fo L le sc li ba ca st ++ [oc o cJ (vp_updL f 0 (Int32.toInt64 (nI (cnt (atP L le ca x y) nf))))]) (some (.int (nI 0))) := by
  refine wrW_ofW RL (by decide) rfl (Nat.le_of_ble_eq_true rfl) ?_
  intro p e s m below meth c S hr hlk hK hP hD hS ls hl
  have hl : lv_has ls 5 [(0, .ref (a 0)), (1, .int x), (2, .int (nI y)), (3, .ref o)] := hl
  refine lv_aload_n S.1 S.2.1 dL_at_0 rfl (lv_at hl 3 rfl) ?_
  refine lv_iconst (v := (nI 0)) S.1 S.2.1 dL_at_1 (by decide) ?_
  refine lv_aload_n S.1 S.2.1 dL_at_2 rfl (lv_at hl 0 rfl) ?_
  refine lv_iload_n S.1 S.2.1 dL_at_3 rfl (lv_at hl 1 rfl) ?_
  refine lv_iload_n S.1 S.2.1 dL_at_4 rfl (lv_at hl 2 rfl) ?_
  refine rd_callV (C := RX0) (As := [.int x, .int (nI y)]) (rest := [.int (nI 0), .ref o]) S (kX0_at l dC dI cI cZ cJ a n mw nf sg fo L le sc li ba ca st x y hI hy) rB_blind (fun U hU hW => ⟨by rw [hU]; exact wr_sub (u := []) (v := [oc o cJ f]) hP, va_K.moved hW.alike hK⟩) (va_recv hK hP (ci := 0) (q0 := 0) rfl rfl) gL_30 hdX0_at (by decide) hl.1 rfl (Nat.le_of_ble_eq_true rfl) dL_at_5 ⟨Nat.zero_le _, Nat.zero_le _⟩ ?_
  refine lv_i2l (v := Int32.toInt64 (nI (cnt (atP L le ca x y) nf))) S.1 S.2.1 dL_at_8 rfl ?_
  refine n_last S hK hP hD hS 10 2 rfl rfl dL_at_9 (fun H locs hP hD hS => ?_)
  have hP : va_P (dC, dI) vcl (vX cI cZ a n mw nf sg fo L le sc li ba ca st ++ [oc o cJ (vp_updL f 0 (Int32.toInt64 (nI (cnt (atP L le ca x y) nf))))]) H := hP
  have hD : va_D (wF (vX cI cZ a n mw nf sg fo L le sc li ba ca st ++ [oc o cJ f])) (vX cI cZ a n mw nf sg fo L le sc li ba ca st ++ [oc o cJ (vp_updL f 0 (Int32.toInt64 (nI (cnt (atP L le ca x y) nf))))]) := hD
  refine lv_goto (tgt := 17) S.1 S.2.1 dL_at_10 (by decide) ?_
  refine lv_iconst (v := (nI 0)) S.1 S.2.1 dL_at_17 (by decide) ?_
  exact wrE_ret (z := ()) S hr hlk rfl rfl hP rfl hS dL_at_18

set_option maxRecDepth 100000 in
theorem kL_atE (l : Launch) (dC : Nat → ClassId) (dI : Nat → Nat → Nat) (cI cZ cJ : ClassId) (a : Nat → Nat) (n mw nf : Nat) (sg fo L le sc li ba ca st : Nat → Nat) (o : Nat) (f : Nat → Int64) (hfl : l.flags = flags0) (x : Int32) (u : Int32) (hu : isL u = false) : thW l yL_at cL_at 5 (some .int) [(0, 10, 13, 13)] 9 139 [.ref (a 0), .int x, .int u, .ref o] (rB dC dI cI cZ cJ (vX cI cZ a n mw nf sg fo L le sc li ba ca st)) := by
  refine thW_ofW RL (by decide) rfl (Nat.le_of_ble_eq_true rfl) ?_
  intro p e s m below meth c S hex hr hlk hB ht ls hl
  obtain ⟨hP, hK⟩ := hB
  have hl : lv_has ls 5 [(0, .ref (a 0)), (1, .int x), (2, .int u), (3, .ref o)] := hl
  refine lv_aload_n S.1 S.2.1 dL_at_0 rfl (lv_at hl 3 rfl) ?_
  refine lv_iconst (v := (nI 0)) S.1 S.2.1 dL_at_1 (by decide) ?_
  refine lv_aload_n S.1 S.2.1 dL_at_2 rfl (lv_at hl 0 rfl) ?_
  refine lv_iload_n S.1 S.2.1 dL_at_3 rfl (lv_at hl 1 rfl) ?_
  refine lv_iload_n S.1 S.2.1 dL_at_4 rfl (lv_at hl 2 rfl) ?_
  refine thr_catchV (C := RX0) (As := [.int x, .int u]) (rest := [.int (nI 0), .ref o]) S hex (by decide) (fun U hU hW => twS_keep ht hW (fun q c h => by rw [hU]; exact h)) (kX0_atE l dC dI cI cZ cJ a n mw nf sg fo L le sc li ba ca st hfl x u hu) (fun U hU hW => ⟨by rw [hU]; exact hP, va_K.moved hW.alike hK⟩) (va_recv hK hP (ci := 0) (q0 := 0) rfl rfl) gL_30 hdX0_at (by decide) hl.1 rfl (Nat.le_of_ble_eq_true rfl) dL_at_5 (fun xe H hz hk => ?_)
  refine lv_astore (lv' := [(4, .ref xe), (0, .ref (a 0)), (1, .int x), (2, .int u), (3, .ref o)]) S.1 S.2.1 dL_at_13 hl (by decide) rfl (fun ls hl => ?_)
  refine lv_iconst (v := (nI 1)) S.1 S.2.1 dL_at_15 (by decide) ?_
  exact thW_ret S hr hlk hz hk dL_at_16

set_option maxRecDepth 100000 in
theorem kL_begins (l : Launch) (dC : Nat → ClassId) (dI : Nat → Nat → Nat) (cI cZ cJ : ClassId) (a : Nat → Nat) (n mw nf : Nat) (sg fo L le sc li ba ca st : Nat → Nat) (o : Nat) (f : Nat → Int64) (t : Nat) (hI : iv n mw nf sg fo L le sc li ba ca) (ht : t < 4) : wrW l yL_begins cL_begins 4 (some .int) [(0, 9, 12, 13)] 4 89 [.ref (a 0), .int (nI t), .ref o] dC dI cI cZ cJ (vX cI cZ a n mw nf sg fo L le sc li ba ca st ++ [oc o cJ f]) (fun _ : Unit => vX cI cZ a n mw nf sg fo L le sc li ba ca st ++ [oc o cJ (vp_updL f 0 (Int32.toInt64 (nI (cnt (bgn n sg fo L le li ba t) mw))))]) (some (.int (nI 0))) := by
  refine wrW_ofW RL (by decide) rfl (Nat.le_of_ble_eq_true rfl) ?_
  intro p e s m below meth c S hr hlk hK hP hD hS ls hl
  have hl : lv_has ls 4 [(0, .ref (a 0)), (1, .int (nI t)), (2, .ref o)] := hl
  refine lv_aload_n S.1 S.2.1 dL_begins_0 rfl (lv_at hl 2 rfl) ?_
  refine lv_iconst (v := (nI 0)) S.1 S.2.1 dL_begins_1 (by decide) ?_
  refine lv_aload_n S.1 S.2.1 dL_begins_2 rfl (lv_at hl 0 rfl) ?_
  refine lv_iload_n S.1 S.2.1 dL_begins_3 rfl (lv_at hl 1 rfl) ?_
  refine rd_callV (C := RX0) (As := [.int (nI t)]) (rest := [.int (nI 0), .ref o]) S (kX0_begins l dC dI cI cZ cJ a n mw nf sg fo L le sc li ba ca st t hI ht) rB_blind (fun U hU hW => ⟨by rw [hU]; exact wr_sub (u := []) (v := [oc o cJ f]) hP, va_K.moved hW.alike hK⟩) (va_recv hK hP (ci := 0) (q0 := 0) rfl rfl) gL_33 hdX0_begins (by decide) hl.1 rfl (Nat.le_of_ble_eq_true rfl) dL_begins_4 ⟨Nat.zero_le _, Nat.zero_le _⟩ ?_
  refine lv_i2l (v := Int32.toInt64 (nI (cnt (bgn n sg fo L le li ba t) mw))) S.1 S.2.1 dL_begins_7 rfl ?_
  refine n_last S hK hP hD hS 10 2 rfl rfl dL_begins_8 (fun H locs hP hD hS => ?_)
  have hP : va_P (dC, dI) vcl (vX cI cZ a n mw nf sg fo L le sc li ba ca st ++ [oc o cJ (vp_updL f 0 (Int32.toInt64 (nI (cnt (bgn n sg fo L le li ba t) mw))))]) H := hP
  have hD : va_D (wF (vX cI cZ a n mw nf sg fo L le sc li ba ca st ++ [oc o cJ f])) (vX cI cZ a n mw nf sg fo L le sc li ba ca st ++ [oc o cJ (vp_updL f 0 (Int32.toInt64 (nI (cnt (bgn n sg fo L le li ba t) mw))))]) := hD
  refine lv_goto (tgt := 15) S.1 S.2.1 dL_begins_9 (by decide) ?_
  refine lv_iconst (v := (nI 0)) S.1 S.2.1 dL_begins_15 (by decide) ?_
  exact wrE_ret (z := ()) S hr hlk rfl rfl hP rfl hS dL_begins_16

set_option maxRecDepth 100000 in
theorem kL_beginsE (l : Launch) (dC : Nat → ClassId) (dI : Nat → Nat → Nat) (cI cZ cJ : ClassId) (a : Nat → Nat) (n mw nf : Nat) (sg fo L le sc li ba ca st : Nat → Nat) (o : Nat) (f : Nat → Int64) (hfl : l.flags = flags0) (u : Int32) (hu : isLi u = false) : thW l yL_begins cL_begins 4 (some .int) [(0, 9, 12, 13)] 9 138 [.ref (a 0), .int u, .ref o] (rB dC dI cI cZ cJ (vX cI cZ a n mw nf sg fo L le sc li ba ca st)) := by
  refine thW_ofW RL (by decide) rfl (Nat.le_of_ble_eq_true rfl) ?_
  intro p e s m below meth c S hex hr hlk hB ht ls hl
  obtain ⟨hP, hK⟩ := hB
  have hl : lv_has ls 4 [(0, .ref (a 0)), (1, .int u), (2, .ref o)] := hl
  refine lv_aload_n S.1 S.2.1 dL_begins_0 rfl (lv_at hl 2 rfl) ?_
  refine lv_iconst (v := (nI 0)) S.1 S.2.1 dL_begins_1 (by decide) ?_
  refine lv_aload_n S.1 S.2.1 dL_begins_2 rfl (lv_at hl 0 rfl) ?_
  refine lv_iload_n S.1 S.2.1 dL_begins_3 rfl (lv_at hl 1 rfl) ?_
  refine thr_catchV (C := RX0) (As := [.int u]) (rest := [.int (nI 0), .ref o]) S hex (by decide) (fun U hU hW => twS_keep ht hW (fun q c h => by rw [hU]; exact h)) (kX0_beginsE l dC dI cI cZ cJ a n mw nf sg fo L le sc li ba ca st hfl u hu) (fun U hU hW => ⟨by rw [hU]; exact hP, va_K.moved hW.alike hK⟩) (va_recv hK hP (ci := 0) (q0 := 0) rfl rfl) gL_33 hdX0_begins (by decide) hl.1 rfl (Nat.le_of_ble_eq_true rfl) dL_begins_4 (fun xe H hz hk => ?_)
  refine lv_astore_n (lv' := [(3, .ref xe), (0, .ref (a 0)), (1, .int u), (2, .ref o)]) S.1 S.2.1 dL_begins_12 rfl hl (by decide) rfl (fun ls hl => ?_)
  refine lv_iconst (v := (nI 1)) S.1 S.2.1 dL_begins_13 (by decide) ?_
  exact thW_ret S hr hlk hz hk dL_begins_14

set_option maxRecDepth 100000 in
theorem kL_ends (l : Launch) (dC : Nat → ClassId) (dI : Nat → Nat → Nat) (cI cZ cJ : ClassId) (a : Nat → Nat) (n mw nf : Nat) (sg fo L le sc li ba ca st : Nat → Nat) (o : Nat) (f : Nat → Int64) (t : Nat) (hI : iv n mw nf sg fo L le sc li ba ca) (ht : t < 4) : wrW l yL_ends cL_ends 4 (some .int) [(0, 9, 12, 13)] 4 89 [.ref (a 0), .int (nI t), .ref o] dC dI cI cZ cJ (vX cI cZ a n mw nf sg fo L le sc li ba ca st ++ [oc o cJ f]) (fun _ : Unit => vX cI cZ a n mw nf sg fo L le sc li ba ca st ++ [oc o cJ (vp_updL f 0 (Int32.toInt64 (nI (cnt (edn n sg fo L le li ba t) mw))))]) (some (.int (nI 0))) := by
  refine wrW_ofW RL (by decide) rfl (Nat.le_of_ble_eq_true rfl) ?_
  intro p e s m below meth c S hr hlk hK hP hD hS ls hl
  have hl : lv_has ls 4 [(0, .ref (a 0)), (1, .int (nI t)), (2, .ref o)] := hl
  refine lv_aload_n S.1 S.2.1 dL_ends_0 rfl (lv_at hl 2 rfl) ?_
  refine lv_iconst (v := (nI 0)) S.1 S.2.1 dL_ends_1 (by decide) ?_
  refine lv_aload_n S.1 S.2.1 dL_ends_2 rfl (lv_at hl 0 rfl) ?_
  refine lv_iload_n S.1 S.2.1 dL_ends_3 rfl (lv_at hl 1 rfl) ?_
  refine rd_callV (C := RX0) (As := [.int (nI t)]) (rest := [.int (nI 0), .ref o]) S (kX0_ends l dC dI cI cZ cJ a n mw nf sg fo L le sc li ba ca st t hI ht) rB_blind (fun U hU hW => ⟨by rw [hU]; exact wr_sub (u := []) (v := [oc o cJ f]) hP, va_K.moved hW.alike hK⟩) (va_recv hK hP (ci := 0) (q0 := 0) rfl rfl) gL_36 hdX0_ends (by decide) hl.1 rfl (Nat.le_of_ble_eq_true rfl) dL_ends_4 ⟨Nat.zero_le _, Nat.zero_le _⟩ ?_
  refine lv_i2l (v := Int32.toInt64 (nI (cnt (edn n sg fo L le li ba t) mw))) S.1 S.2.1 dL_ends_7 rfl ?_
  refine n_last S hK hP hD hS 10 2 rfl rfl dL_ends_8 (fun H locs hP hD hS => ?_)
  have hP : va_P (dC, dI) vcl (vX cI cZ a n mw nf sg fo L le sc li ba ca st ++ [oc o cJ (vp_updL f 0 (Int32.toInt64 (nI (cnt (edn n sg fo L le li ba t) mw))))]) H := hP
  have hD : va_D (wF (vX cI cZ a n mw nf sg fo L le sc li ba ca st ++ [oc o cJ f])) (vX cI cZ a n mw nf sg fo L le sc li ba ca st ++ [oc o cJ (vp_updL f 0 (Int32.toInt64 (nI (cnt (edn n sg fo L le li ba t) mw))))]) := hD
  refine lv_goto (tgt := 15) S.1 S.2.1 dL_ends_9 (by decide) ?_
  refine lv_iconst (v := (nI 0)) S.1 S.2.1 dL_ends_15 (by decide) ?_
  exact wrE_ret (z := ()) S hr hlk rfl rfl hP rfl hS dL_ends_16

set_option maxRecDepth 100000 in
theorem kL_endsE (l : Launch) (dC : Nat → ClassId) (dI : Nat → Nat → Nat) (cI cZ cJ : ClassId) (a : Nat → Nat) (n mw nf : Nat) (sg fo L le sc li ba ca st : Nat → Nat) (o : Nat) (f : Nat → Int64) (hfl : l.flags = flags0) (u : Int32) (hu : isLi u = false) : thW l yL_ends cL_ends 4 (some .int) [(0, 9, 12, 13)] 9 138 [.ref (a 0), .int u, .ref o] (rB dC dI cI cZ cJ (vX cI cZ a n mw nf sg fo L le sc li ba ca st)) := by
  refine thW_ofW RL (by decide) rfl (Nat.le_of_ble_eq_true rfl) ?_
  intro p e s m below meth c S hex hr hlk hB ht ls hl
  obtain ⟨hP, hK⟩ := hB
  have hl : lv_has ls 4 [(0, .ref (a 0)), (1, .int u), (2, .ref o)] := hl
  refine lv_aload_n S.1 S.2.1 dL_ends_0 rfl (lv_at hl 2 rfl) ?_
  refine lv_iconst (v := (nI 0)) S.1 S.2.1 dL_ends_1 (by decide) ?_
  refine lv_aload_n S.1 S.2.1 dL_ends_2 rfl (lv_at hl 0 rfl) ?_
  refine lv_iload_n S.1 S.2.1 dL_ends_3 rfl (lv_at hl 1 rfl) ?_
  refine thr_catchV (C := RX0) (As := [.int u]) (rest := [.int (nI 0), .ref o]) S hex (by decide) (fun U hU hW => twS_keep ht hW (fun q c h => by rw [hU]; exact h)) (kX0_endsE l dC dI cI cZ cJ a n mw nf sg fo L le sc li ba ca st hfl u hu) (fun U hU hW => ⟨by rw [hU]; exact hP, va_K.moved hW.alike hK⟩) (va_recv hK hP (ci := 0) (q0 := 0) rfl rfl) gL_36 hdX0_ends (by decide) hl.1 rfl (Nat.le_of_ble_eq_true rfl) dL_ends_4 (fun xe H hz hk => ?_)
  refine lv_astore_n (lv' := [(3, .ref xe), (0, .ref (a 0)), (1, .int u), (2, .ref o)]) S.1 S.2.1 dL_ends_12 rfl hl (by decide) rfl (fun ls hl => ?_)
  refine lv_iconst (v := (nI 1)) S.1 S.2.1 dL_ends_13 (by decide) ?_
  exact thW_ret S hr hlk hz hk dL_ends_14

set_option maxRecDepth 100000 in
theorem kL_mixed (l : Launch) (dC : Nat → ClassId) (dI : Nat → Nat → Nat) (cI cZ cJ : ClassId) (a : Nat → Nat) (n mw nf : Nat) (sg fo L le sc li ba ca st : Nat → Nat) (o : Nat) (f : Nat → Int64) (t : Nat) (hI : iv n mw nf sg fo L le sc li ba ca) (ht : t < 4) : wrW l yL_mixed cL_mixed 4 (some .int) [(0, 9, 12, 13)] 5 112 [.ref (a 0), .int (nI t), .ref o] dC dI cI cZ cJ (vX cI cZ a n mw nf sg fo L le sc li ba ca st ++ [oc o cJ f]) (fun z : Nat → Nat => vX cI cZ a n mw nf sg fo L le sc li ba ca z ++ [oc o cJ (vp_updL f 0 (Int32.toInt64 (nI (cnt (mxP n sg fo L le li ba t) mw))))]) (some (.int (nI 0))) := by
  refine wrW_ofW RL (by decide) rfl (Nat.le_of_ble_eq_true rfl) ?_
  intro p e s m below meth c S hr hlk hK hP hD hS ls hl
  have hl : lv_has ls 4 [(0, .ref (a 0)), (1, .int (nI t)), (2, .ref o)] := hl
  refine lv_aload_n S.1 S.2.1 dL_mixed_0 rfl (lv_at hl 2 rfl) ?_
  refine lv_iconst (v := (nI 0)) S.1 S.2.1 dL_mixed_1 (by decide) ?_
  refine lv_aload_n S.1 S.2.1 dL_mixed_2 rfl (lv_at hl 0 rfl) ?_
  refine lv_iload_n S.1 S.2.1 dL_mixed_3 rfl (lv_at hl 1 rfl) ?_
  refine wrE_callV (C := RX0) (As := [.int (nI t)]) (rest := [.int (nI 0), .ref o]) S (kX0_mixed l dC dI cI cZ cJ a n mw nf sg fo L le sc li ba ca st t hI ht) hK [] [oc o cJ f] hP hD hS (fun _ => rfl) (va_recv hK hP (ci := 0) (q0 := 0) rfl rfl) gL_39 hdX0_mixed (by decide) hl.1 rfl (Nat.le_of_ble_eq_true rfl) dL_mixed_4 ⟨Nat.zero_le _, Nat.zero_le _⟩ (fun z H locs hP hD hS => ?_)
  have hP : va_P (dC, dI) vcl (vX cI cZ a n mw nf sg fo L le sc li ba ca z ++ [oc o cJ f]) H := hP
  have hD : va_D (wF (vX cI cZ a n mw nf sg fo L le sc li ba ca st ++ [oc o cJ f])) (vX cI cZ a n mw nf sg fo L le sc li ba ca z ++ [oc o cJ f]) := hD
  refine lv_i2l (v := Int32.toInt64 (nI (cnt (mxP n sg fo L le li ba t) mw))) S.1 S.2.1 dL_mixed_7 rfl ?_
  refine n_last S hK hP hD hS 10 2 rfl rfl dL_mixed_8 (fun H locs hP hD hS => ?_)
  have hP : va_P (dC, dI) vcl (vX cI cZ a n mw nf sg fo L le sc li ba ca z ++ [oc o cJ (vp_updL f 0 (Int32.toInt64 (nI (cnt (mxP n sg fo L le li ba t) mw))))]) H := hP
  have hD : va_D (wF (vX cI cZ a n mw nf sg fo L le sc li ba ca st ++ [oc o cJ f])) (vX cI cZ a n mw nf sg fo L le sc li ba ca z ++ [oc o cJ (vp_updL f 0 (Int32.toInt64 (nI (cnt (mxP n sg fo L le li ba t) mw))))]) := hD
  refine lv_goto (tgt := 15) S.1 S.2.1 dL_mixed_9 (by decide) ?_
  refine lv_iconst (v := (nI 0)) S.1 S.2.1 dL_mixed_15 (by decide) ?_
  exact wrE_ret (z := z) S hr hlk rfl rfl hP rfl hS dL_mixed_16

set_option maxRecDepth 100000 in
theorem kL_mixedE (l : Launch) (dC : Nat → ClassId) (dI : Nat → Nat → Nat) (cI cZ cJ : ClassId) (a : Nat → Nat) (n mw nf : Nat) (sg fo L le sc li ba ca st : Nat → Nat) (o : Nat) (f : Nat → Int64) (hfl : l.flags = flags0) (u : Int32) (hu : isLi u = false) : thW l yL_mixed cL_mixed 4 (some .int) [(0, 9, 12, 13)] 9 138 [.ref (a 0), .int u, .ref o] (rB dC dI cI cZ cJ (vX cI cZ a n mw nf sg fo L le sc li ba ca st)) := by
  refine thW_ofW RL (by decide) rfl (Nat.le_of_ble_eq_true rfl) ?_
  intro p e s m below meth c S hex hr hlk hB ht ls hl
  obtain ⟨hP, hK⟩ := hB
  have hl : lv_has ls 4 [(0, .ref (a 0)), (1, .int u), (2, .ref o)] := hl
  refine lv_aload_n S.1 S.2.1 dL_mixed_0 rfl (lv_at hl 2 rfl) ?_
  refine lv_iconst (v := (nI 0)) S.1 S.2.1 dL_mixed_1 (by decide) ?_
  refine lv_aload_n S.1 S.2.1 dL_mixed_2 rfl (lv_at hl 0 rfl) ?_
  refine lv_iload_n S.1 S.2.1 dL_mixed_3 rfl (lv_at hl 1 rfl) ?_
  refine thr_catchV (C := RX0) (As := [.int u]) (rest := [.int (nI 0), .ref o]) S hex (by decide) (fun U hU hW => twS_keep ht hW (fun q c h => by rw [hU]; exact h)) (kX0_mixedE l dC dI cI cZ cJ a n mw nf sg fo L le sc li ba ca st hfl u hu) (fun U hU hW => ⟨by rw [hU]; exact hP, va_K.moved hW.alike hK⟩) (va_recv hK hP (ci := 0) (q0 := 0) rfl rfl) gL_39 hdX0_mixed (by decide) hl.1 rfl (Nat.le_of_ble_eq_true rfl) dL_mixed_4 (fun xe H hz hk => ?_)
  refine lv_astore_n (lv' := [(3, .ref xe), (0, .ref (a 0)), (1, .int u), (2, .ref o)]) S.1 S.2.1 dL_mixed_12 rfl hl (by decide) rfl (fun ls hl => ?_)
  refine lv_iconst (v := (nI 1)) S.1 S.2.1 dL_mixed_13 (by decide) ?_
  exact thW_ret S hr hlk hz hk dL_mixed_14

set_option maxRecDepth 100000 in
theorem kL_many (l : Launch) (dC : Nat → ClassId) (dI : Nat → Nat → Nat) (cI cZ cJ : ClassId) (a : Nat → Nat) (n mw nf : Nat) (sg fo L le sc li ba ca st : Nat → Nat) (o : Nat) (f : Nat → Int64) (t : Nat) (y : Int32) (hI : iv n mw nf sg fo L le sc li ba ca) (ht : t < 4) : wrW l yL_many cL_many 5 (some .int) [(0, 10, 13, 13)] 2 46 [.ref (a 0), .int (nI t), .int y, .ref o] dC dI cI cZ cJ (vX cI cZ a n mw nf sg fo L le sc li ba ca st ++ [oc o cJ f]) (fun _ : Unit => vX cI cZ a n mw nf sg fo L le sc li ba ca st ++ [oc o cJ (vp_updL f 0 (Int32.toInt64 (mny le li mw t y)))]) (some (.int (nI 0))) := by
  refine wrW_ofW RL (by decide) rfl (Nat.le_of_ble_eq_true rfl) ?_
  intro p e s m below meth c S hr hlk hK hP hD hS ls hl
  have hl : lv_has ls 5 [(0, .ref (a 0)), (1, .int (nI t)), (2, .int y), (3, .ref o)] := hl
  refine lv_aload_n S.1 S.2.1 dL_many_0 rfl (lv_at hl 3 rfl) ?_
  refine lv_iconst (v := (nI 0)) S.1 S.2.1 dL_many_1 (by decide) ?_
  refine lv_aload_n S.1 S.2.1 dL_many_2 rfl (lv_at hl 0 rfl) ?_
  refine lv_iload_n S.1 S.2.1 dL_many_3 rfl (lv_at hl 1 rfl) ?_
  refine lv_iload_n S.1 S.2.1 dL_many_4 rfl (lv_at hl 2 rfl) ?_
  refine rd_callV (C := RX0) (As := [.int (nI t), .int y]) (rest := [.int (nI 0), .ref o]) S (kX0_many l dC dI cI cZ cJ a n mw nf sg fo L le sc li ba ca st t y hI ht) rB_blind (fun U hU hW => ⟨by rw [hU]; exact wr_sub (u := []) (v := [oc o cJ f]) hP, va_K.moved hW.alike hK⟩) (va_recv hK hP (ci := 0) (q0 := 0) rfl rfl) gL_42 hdX0_many (by decide) hl.1 rfl (Nat.le_of_ble_eq_true rfl) dL_many_5 ⟨Nat.zero_le _, Nat.zero_le _⟩ ?_
  refine lv_i2l (v := Int32.toInt64 (mny le li mw t y)) S.1 S.2.1 dL_many_8 rfl ?_
  refine n_last S hK hP hD hS 10 2 rfl rfl dL_many_9 (fun H locs hP hD hS => ?_)
  have hP : va_P (dC, dI) vcl (vX cI cZ a n mw nf sg fo L le sc li ba ca st ++ [oc o cJ (vp_updL f 0 (Int32.toInt64 (mny le li mw t y)))]) H := hP
  have hD : va_D (wF (vX cI cZ a n mw nf sg fo L le sc li ba ca st ++ [oc o cJ f])) (vX cI cZ a n mw nf sg fo L le sc li ba ca st ++ [oc o cJ (vp_updL f 0 (Int32.toInt64 (mny le li mw t y)))]) := hD
  refine lv_goto (tgt := 17) S.1 S.2.1 dL_many_10 (by decide) ?_
  refine lv_iconst (v := (nI 0)) S.1 S.2.1 dL_many_17 (by decide) ?_
  exact wrE_ret (z := ()) S hr hlk rfl rfl hP rfl hS dL_many_18

set_option maxRecDepth 100000 in
theorem kL_manyE (l : Launch) (dC : Nat → ClassId) (dI : Nat → Nat → Nat) (cI cZ cJ : ClassId) (a : Nat → Nat) (n mw nf : Nat) (sg fo L le sc li ba ca st : Nat → Nat) (o : Nat) (f : Nat → Int64) (hfl : l.flags = flags0) (u : Int32) (x : Int32) (hu : isLi u = false) : thW l yL_many cL_many 5 (some .int) [(0, 10, 13, 13)] 9 139 [.ref (a 0), .int u, .int x, .ref o] (rB dC dI cI cZ cJ (vX cI cZ a n mw nf sg fo L le sc li ba ca st)) := by
  refine thW_ofW RL (by decide) rfl (Nat.le_of_ble_eq_true rfl) ?_
  intro p e s m below meth c S hex hr hlk hB ht ls hl
  obtain ⟨hP, hK⟩ := hB
  have hl : lv_has ls 5 [(0, .ref (a 0)), (1, .int u), (2, .int x), (3, .ref o)] := hl
  refine lv_aload_n S.1 S.2.1 dL_many_0 rfl (lv_at hl 3 rfl) ?_
  refine lv_iconst (v := (nI 0)) S.1 S.2.1 dL_many_1 (by decide) ?_
  refine lv_aload_n S.1 S.2.1 dL_many_2 rfl (lv_at hl 0 rfl) ?_
  refine lv_iload_n S.1 S.2.1 dL_many_3 rfl (lv_at hl 1 rfl) ?_
  refine lv_iload_n S.1 S.2.1 dL_many_4 rfl (lv_at hl 2 rfl) ?_
  refine thr_catchV (C := RX0) (As := [.int u, .int x]) (rest := [.int (nI 0), .ref o]) S hex (by decide) (fun U hU hW => twS_keep ht hW (fun q c h => by rw [hU]; exact h)) (kX0_manyE l dC dI cI cZ cJ a n mw nf sg fo L le sc li ba ca st hfl u x hu) (fun U hU hW => ⟨by rw [hU]; exact hP, va_K.moved hW.alike hK⟩) (va_recv hK hP (ci := 0) (q0 := 0) rfl rfl) gL_42 hdX0_many (by decide) hl.1 rfl (Nat.le_of_ble_eq_true rfl) dL_many_5 (fun xe H hz hk => ?_)
  refine lv_astore (lv' := [(4, .ref xe), (0, .ref (a 0)), (1, .int u), (2, .int x), (3, .ref o)]) S.1 S.2.1 dL_many_13 hl (by decide) rfl (fun ls hl => ?_)
  refine lv_iconst (v := (nI 1)) S.1 S.2.1 dL_many_15 (by decide) ?_
  exact thW_ret S hr hlk hz hk dL_many_16

set_option maxRecDepth 100000 in
theorem kL_letters (l : Launch) (dC : Nat → ClassId) (dI : Nat → Nat → Nat) (cI cZ cJ : ClassId) (a : Nat → Nat) (n mw nf : Nat) (sg fo L le sc li ba ca st : Nat → Nat) (o : Nat) (f : Nat → Int64) (t : Nat) (y : Nat) (hI : iv n mw nf sg fo L le sc li ba ca) (ht : t < 4) (hy : 97 ≤ y ∧ y ≤ 122) : wrW l yL_letters cL_letters 5 (some .int) [(0, 10, 13, 13)] 3 70 [.ref (a 0), .int (nI t), .int (nI y), .ref o] dC dI cI cZ cJ (vX cI cZ a n mw nf sg fo L le sc li ba ca st ++ [oc o cJ f]) (fun _ : Unit => vX cI cZ a n mw nf sg fo L le sc li ba ca st ++ [oc o cJ (vp_updL f 0 (Int32.toInt64 (nI (smm (ltF L le li t y) mw))))]) (some (.int (nI 0))) := by
  refine wrW_ofW RL (by decide) rfl (Nat.le_of_ble_eq_true rfl) ?_
  intro p e s m below meth c S hr hlk hK hP hD hS ls hl
  have hl : lv_has ls 5 [(0, .ref (a 0)), (1, .int (nI t)), (2, .int (nI y)), (3, .ref o)] := hl
  refine lv_aload_n S.1 S.2.1 dL_letters_0 rfl (lv_at hl 3 rfl) ?_
  refine lv_iconst (v := (nI 0)) S.1 S.2.1 dL_letters_1 (by decide) ?_
  refine lv_aload_n S.1 S.2.1 dL_letters_2 rfl (lv_at hl 0 rfl) ?_
  refine lv_iload_n S.1 S.2.1 dL_letters_3 rfl (lv_at hl 1 rfl) ?_
  refine lv_iload_n S.1 S.2.1 dL_letters_4 rfl (lv_at hl 2 rfl) ?_
  refine rd_callV (C := RX0) (As := [.int (nI t), .int (nI y)]) (rest := [.int (nI 0), .ref o]) S (kX0_letters l dC dI cI cZ cJ a n mw nf sg fo L le sc li ba ca st t y hI ht hy) rB_blind (fun U hU hW => ⟨by rw [hU]; exact wr_sub (u := []) (v := [oc o cJ f]) hP, va_K.moved hW.alike hK⟩) (va_recv hK hP (ci := 0) (q0 := 0) rfl rfl) gL_45 hdX0_letters (by decide) hl.1 rfl (Nat.le_of_ble_eq_true rfl) dL_letters_5 ⟨Nat.zero_le _, Nat.zero_le _⟩ ?_
  refine lv_i2l (v := Int32.toInt64 (nI (smm (ltF L le li t y) mw))) S.1 S.2.1 dL_letters_8 rfl ?_
  refine n_last S hK hP hD hS 10 2 rfl rfl dL_letters_9 (fun H locs hP hD hS => ?_)
  have hP : va_P (dC, dI) vcl (vX cI cZ a n mw nf sg fo L le sc li ba ca st ++ [oc o cJ (vp_updL f 0 (Int32.toInt64 (nI (smm (ltF L le li t y) mw))))]) H := hP
  have hD : va_D (wF (vX cI cZ a n mw nf sg fo L le sc li ba ca st ++ [oc o cJ f])) (vX cI cZ a n mw nf sg fo L le sc li ba ca st ++ [oc o cJ (vp_updL f 0 (Int32.toInt64 (nI (smm (ltF L le li t y) mw))))]) := hD
  refine lv_goto (tgt := 17) S.1 S.2.1 dL_letters_10 (by decide) ?_
  refine lv_iconst (v := (nI 0)) S.1 S.2.1 dL_letters_17 (by decide) ?_
  exact wrE_ret (z := ()) S hr hlk rfl rfl hP rfl hS dL_letters_18

set_option maxRecDepth 100000 in
theorem kL_lettersE1 (l : Launch) (dC : Nat → ClassId) (dI : Nat → Nat → Nat) (cI cZ cJ : ClassId) (a : Nat → Nat) (n mw nf : Nat) (sg fo L le sc li ba ca st : Nat → Nat) (o : Nat) (f : Nat → Int64) (hfl : l.flags = flags0) (u : Int32) (v : Int32) (hu : isLi u = false) : thW l yL_letters cL_letters 5 (some .int) [(0, 10, 13, 13)] 9 139 [.ref (a 0), .int u, .int v, .ref o] (rB dC dI cI cZ cJ (vX cI cZ a n mw nf sg fo L le sc li ba ca st)) := by
  refine thW_ofW RL (by decide) rfl (Nat.le_of_ble_eq_true rfl) ?_
  intro p e s m below meth c S hex hr hlk hB ht ls hl
  obtain ⟨hP, hK⟩ := hB
  have hl : lv_has ls 5 [(0, .ref (a 0)), (1, .int u), (2, .int v), (3, .ref o)] := hl
  refine lv_aload_n S.1 S.2.1 dL_letters_0 rfl (lv_at hl 3 rfl) ?_
  refine lv_iconst (v := (nI 0)) S.1 S.2.1 dL_letters_1 (by decide) ?_
  refine lv_aload_n S.1 S.2.1 dL_letters_2 rfl (lv_at hl 0 rfl) ?_
  refine lv_iload_n S.1 S.2.1 dL_letters_3 rfl (lv_at hl 1 rfl) ?_
  refine lv_iload_n S.1 S.2.1 dL_letters_4 rfl (lv_at hl 2 rfl) ?_
  refine thr_catchV (C := RX0) (As := [.int u, .int v]) (rest := [.int (nI 0), .ref o]) S hex (by decide) (fun U hU hW => twS_keep ht hW (fun q c h => by rw [hU]; exact h)) (kX0_lettersE1 l dC dI cI cZ cJ a n mw nf sg fo L le sc li ba ca st hfl u v hu) (fun U hU hW => ⟨by rw [hU]; exact hP, va_K.moved hW.alike hK⟩) (va_recv hK hP (ci := 0) (q0 := 0) rfl rfl) gL_45 hdX0_letters (by decide) hl.1 rfl (Nat.le_of_ble_eq_true rfl) dL_letters_5 (fun xe H hz hk => ?_)
  refine lv_astore (lv' := [(4, .ref xe), (0, .ref (a 0)), (1, .int u), (2, .int v), (3, .ref o)]) S.1 S.2.1 dL_letters_13 hl (by decide) rfl (fun ls hl => ?_)
  refine lv_iconst (v := (nI 1)) S.1 S.2.1 dL_letters_15 (by decide) ?_
  exact thW_ret S hr hlk hz hk dL_letters_16

set_option maxRecDepth 100000 in
theorem kL_lettersE2 (l : Launch) (dC : Nat → ClassId) (dI : Nat → Nat → Nat) (cI cZ cJ : ClassId) (a : Nat → Nat) (n mw nf : Nat) (sg fo L le sc li ba ca st : Nat → Nat) (o : Nat) (f : Nat → Int64) (hfl : l.flags = flags0) (t : Nat) (v : Int32) (ht0 : t < 4) (hv : isL v = false) : thW l yL_letters cL_letters 5 (some .int) [(0, 10, 13, 13)] 9 139 [.ref (a 0), .int (nI t), .int v, .ref o] (rB dC dI cI cZ cJ (vX cI cZ a n mw nf sg fo L le sc li ba ca st)) := by
  refine thW_ofW RL (by decide) rfl (Nat.le_of_ble_eq_true rfl) ?_
  intro p e s m below meth c S hex hr hlk hB ht ls hl
  obtain ⟨hP, hK⟩ := hB
  have hl : lv_has ls 5 [(0, .ref (a 0)), (1, .int (nI t)), (2, .int v), (3, .ref o)] := hl
  refine lv_aload_n S.1 S.2.1 dL_letters_0 rfl (lv_at hl 3 rfl) ?_
  refine lv_iconst (v := (nI 0)) S.1 S.2.1 dL_letters_1 (by decide) ?_
  refine lv_aload_n S.1 S.2.1 dL_letters_2 rfl (lv_at hl 0 rfl) ?_
  refine lv_iload_n S.1 S.2.1 dL_letters_3 rfl (lv_at hl 1 rfl) ?_
  refine lv_iload_n S.1 S.2.1 dL_letters_4 rfl (lv_at hl 2 rfl) ?_
  refine thr_catchV (C := RX0) (As := [.int (nI t), .int v]) (rest := [.int (nI 0), .ref o]) S hex (by decide) (fun U hU hW => twS_keep ht hW (fun q c h => by rw [hU]; exact h)) (kX0_lettersE2 l dC dI cI cZ cJ a n mw nf sg fo L le sc li ba ca st hfl t v ht0 hv) (fun U hU hW => ⟨by rw [hU]; exact hP, va_K.moved hW.alike hK⟩) (va_recv hK hP (ci := 0) (q0 := 0) rfl rfl) gL_45 hdX0_letters (by decide) hl.1 rfl (Nat.le_of_ble_eq_true rfl) dL_letters_5 (fun xe H hz hk => ?_)
  refine lv_astore (lv' := [(4, .ref xe), (0, .ref (a 0)), (1, .int (nI t)), (2, .int v), (3, .ref o)]) S.1 S.2.1 dL_letters_13 hl (by decide) rfl (fun ls hl => ?_)
  refine lv_iconst (v := (nI 1)) S.1 S.2.1 dL_letters_15 (by decide) ?_
  exact thW_ret S hr hlk hz hk dL_letters_16

set_option maxRecDepth 100000 in
theorem kL_letter (l : Launch) (dC : Nat → ClassId) (dI : Nat → Nat → Nat) (cI cZ cJ : ClassId) (a : Nat → Nat) (n mw nf : Nat) (sg fo L le sc li ba ca st : Nat → Nat) (o : Nat) (f : Nat → Int64) (w : Nat) (x : Int32) (hI : iv n mw nf sg fo L le sc li ba ca) (hw : w < mw) : wrW l yL_letter cL_letter 5 (some .int) [(0, 10, 13, 13)] 2 44 [.ref (a 0), .int (nI w), .int x, .ref o] dC dI cI cZ cJ (vX cI cZ a n mw nf sg fo L le sc li ba ca st ++ [oc o cJ f]) (fun _ : Unit => vX cI cZ a n mw nf sg fo L le sc li ba ca st ++ [oc o cJ (vp_updL f 0 (Int32.toInt64 (lon L le w x)))]) (some (.int (nI 0))) := by
  refine wrW_ofW RL (by decide) rfl (Nat.le_of_ble_eq_true rfl) ?_
  intro p e s m below meth c S hr hlk hK hP hD hS ls hl
  have hl : lv_has ls 5 [(0, .ref (a 0)), (1, .int (nI w)), (2, .int x), (3, .ref o)] := hl
  refine lv_aload_n S.1 S.2.1 dL_letter_0 rfl (lv_at hl 3 rfl) ?_
  refine lv_iconst (v := (nI 0)) S.1 S.2.1 dL_letter_1 (by decide) ?_
  refine lv_aload_n S.1 S.2.1 dL_letter_2 rfl (lv_at hl 0 rfl) ?_
  refine lv_iload_n S.1 S.2.1 dL_letter_3 rfl (lv_at hl 1 rfl) ?_
  refine lv_iload_n S.1 S.2.1 dL_letter_4 rfl (lv_at hl 2 rfl) ?_
  refine rd_callV (C := RX0) (As := [.int (nI w), .int x]) (rest := [.int (nI 0), .ref o]) S (kX0_letter l dC dI cI cZ cJ a n mw nf sg fo L le sc li ba ca st w x hI hw) rB_blind (fun U hU hW => ⟨by rw [hU]; exact wr_sub (u := []) (v := [oc o cJ f]) hP, va_K.moved hW.alike hK⟩) (va_recv hK hP (ci := 0) (q0 := 0) rfl rfl) gL_48 hdX0_letter (by decide) hl.1 rfl (Nat.le_of_ble_eq_true rfl) dL_letter_5 ⟨Nat.zero_le _, Nat.zero_le _⟩ ?_
  refine lv_i2l (v := Int32.toInt64 (lon L le w x)) S.1 S.2.1 dL_letter_8 rfl ?_
  refine n_last S hK hP hD hS 10 2 rfl rfl dL_letter_9 (fun H locs hP hD hS => ?_)
  have hP : va_P (dC, dI) vcl (vX cI cZ a n mw nf sg fo L le sc li ba ca st ++ [oc o cJ (vp_updL f 0 (Int32.toInt64 (lon L le w x)))]) H := hP
  have hD : va_D (wF (vX cI cZ a n mw nf sg fo L le sc li ba ca st ++ [oc o cJ f])) (vX cI cZ a n mw nf sg fo L le sc li ba ca st ++ [oc o cJ (vp_updL f 0 (Int32.toInt64 (lon L le w x)))]) := hD
  refine lv_goto (tgt := 17) S.1 S.2.1 dL_letter_10 (by decide) ?_
  refine lv_iconst (v := (nI 0)) S.1 S.2.1 dL_letter_17 (by decide) ?_
  exact wrE_ret (z := ()) S hr hlk rfl rfl hP rfl hS dL_letter_18

set_option maxRecDepth 100000 in
theorem kL_letterE (l : Launch) (dC : Nat → ClassId) (dI : Nat → Nat → Nat) (cI cZ cJ : ClassId) (a : Nat → Nat) (n mw nf : Nat) (sg fo L le sc li ba ca st : Nat → Nat) (o : Nat) (f : Nat → Int64) (hfl : l.flags = flags0) (u : Int32) (x : Int32) (hu : isW mw u = false) : thW l yL_letter cL_letter 5 (some .int) [(0, 10, 13, 13)] 9 138 [.ref (a 0), .int u, .int x, .ref o] (rB dC dI cI cZ cJ (vX cI cZ a n mw nf sg fo L le sc li ba ca st)) := by
  refine thW_ofW RL (by decide) rfl (Nat.le_of_ble_eq_true rfl) ?_
  intro p e s m below meth c S hex hr hlk hB ht ls hl
  obtain ⟨hP, hK⟩ := hB
  have hl : lv_has ls 5 [(0, .ref (a 0)), (1, .int u), (2, .int x), (3, .ref o)] := hl
  refine lv_aload_n S.1 S.2.1 dL_letter_0 rfl (lv_at hl 3 rfl) ?_
  refine lv_iconst (v := (nI 0)) S.1 S.2.1 dL_letter_1 (by decide) ?_
  refine lv_aload_n S.1 S.2.1 dL_letter_2 rfl (lv_at hl 0 rfl) ?_
  refine lv_iload_n S.1 S.2.1 dL_letter_3 rfl (lv_at hl 1 rfl) ?_
  refine lv_iload_n S.1 S.2.1 dL_letter_4 rfl (lv_at hl 2 rfl) ?_
  refine thr_catchV (C := RX0) (As := [.int u, .int x]) (rest := [.int (nI 0), .ref o]) S hex (by decide) (fun U hU hW => twS_keep ht hW (fun q c h => by rw [hU]; exact h)) (kX0_letterE l dC dI cI cZ cJ a n mw nf sg fo L le sc li ba ca st hfl u x hu) (fun U hU hW => ⟨by rw [hU]; exact hP, va_K.moved hW.alike hK⟩) (va_recv hK hP (ci := 0) (q0 := 0) rfl rfl) gL_48 hdX0_letter (by decide) hl.1 rfl (Nat.le_of_ble_eq_true rfl) dL_letter_5 (fun xe H hz hk => ?_)
  refine lv_astore (lv' := [(4, .ref xe), (0, .ref (a 0)), (1, .int u), (2, .int x), (3, .ref o)]) S.1 S.2.1 dL_letter_13 hl (by decide) rfl (fun ls hl => ?_)
  refine lv_iconst (v := (nI 1)) S.1 S.2.1 dL_letter_15 (by decide) ?_
  exact thW_ret S hr hlk hz hk dL_letter_16

set_option maxRecDepth 100000 in
theorem kL_tell (l : Launch) (dC : Nat → ClassId) (dI : Nat → Nat → Nat) (cI cZ cJ : ClassId) (a : Nat → Nat) (n mw nf : Nat) (sg fo L le sc li ba ca st : Nat → Nat) (o : Nat) (f : Nat → Int64) (w : Nat) (x : Int32) (hI : iv n mw nf sg fo L le sc li ba ca) (hw : w < mw) : wrW l yL_tell cL_tell 5 (some .int) [(0, 10, 13, 13)] 2 43 [.ref (a 0), .int (nI w), .int x, .ref o] dC dI cI cZ cJ (vX cI cZ a n mw nf sg fo L le sc li ba ca st ++ [oc o cJ f]) (fun _ : Unit => vX cI cZ a n mw nf sg fo L le sc li ba ca st ++ [oc o cJ (vp_updL f 0 (Int32.toInt64 (tel le sc li ba w x)))]) (some (.int (nI 0))) := by
  refine wrW_ofW RL (by decide) rfl (Nat.le_of_ble_eq_true rfl) ?_
  intro p e s m below meth c S hr hlk hK hP hD hS ls hl
  have hl : lv_has ls 5 [(0, .ref (a 0)), (1, .int (nI w)), (2, .int x), (3, .ref o)] := hl
  refine lv_aload_n S.1 S.2.1 dL_tell_0 rfl (lv_at hl 3 rfl) ?_
  refine lv_iconst (v := (nI 0)) S.1 S.2.1 dL_tell_1 (by decide) ?_
  refine lv_aload_n S.1 S.2.1 dL_tell_2 rfl (lv_at hl 0 rfl) ?_
  refine lv_iload_n S.1 S.2.1 dL_tell_3 rfl (lv_at hl 1 rfl) ?_
  refine lv_iload_n S.1 S.2.1 dL_tell_4 rfl (lv_at hl 2 rfl) ?_
  refine rd_callV (C := RX0) (As := [.int (nI w), .int x]) (rest := [.int (nI 0), .ref o]) S (kX0_tell l dC dI cI cZ cJ a n mw nf sg fo L le sc li ba ca st w x hI hw) rB_blind (fun U hU hW => ⟨by rw [hU]; exact wr_sub (u := []) (v := [oc o cJ f]) hP, va_K.moved hW.alike hK⟩) (va_recv hK hP (ci := 0) (q0 := 0) rfl rfl) gL_51 hdX0_tell (by decide) hl.1 rfl (Nat.le_of_ble_eq_true rfl) dL_tell_5 ⟨Nat.zero_le _, Nat.zero_le _⟩ ?_
  refine lv_i2l (v := Int32.toInt64 (tel le sc li ba w x)) S.1 S.2.1 dL_tell_8 rfl ?_
  refine n_last S hK hP hD hS 10 2 rfl rfl dL_tell_9 (fun H locs hP hD hS => ?_)
  have hP : va_P (dC, dI) vcl (vX cI cZ a n mw nf sg fo L le sc li ba ca st ++ [oc o cJ (vp_updL f 0 (Int32.toInt64 (tel le sc li ba w x)))]) H := hP
  have hD : va_D (wF (vX cI cZ a n mw nf sg fo L le sc li ba ca st ++ [oc o cJ f])) (vX cI cZ a n mw nf sg fo L le sc li ba ca st ++ [oc o cJ (vp_updL f 0 (Int32.toInt64 (tel le sc li ba w x)))]) := hD
  refine lv_goto (tgt := 17) S.1 S.2.1 dL_tell_10 (by decide) ?_
  refine lv_iconst (v := (nI 0)) S.1 S.2.1 dL_tell_17 (by decide) ?_
  exact wrE_ret (z := ()) S hr hlk rfl rfl hP rfl hS dL_tell_18

set_option maxRecDepth 100000 in
theorem kL_tellE (l : Launch) (dC : Nat → ClassId) (dI : Nat → Nat → Nat) (cI cZ cJ : ClassId) (a : Nat → Nat) (n mw nf : Nat) (sg fo L le sc li ba ca st : Nat → Nat) (o : Nat) (f : Nat → Int64) (hfl : l.flags = flags0) (u : Int32) (x : Int32) (hu : isW mw u = false) : thW l yL_tell cL_tell 5 (some .int) [(0, 10, 13, 13)] 9 138 [.ref (a 0), .int u, .int x, .ref o] (rB dC dI cI cZ cJ (vX cI cZ a n mw nf sg fo L le sc li ba ca st)) := by
  refine thW_ofW RL (by decide) rfl (Nat.le_of_ble_eq_true rfl) ?_
  intro p e s m below meth c S hex hr hlk hB ht ls hl
  obtain ⟨hP, hK⟩ := hB
  have hl : lv_has ls 5 [(0, .ref (a 0)), (1, .int u), (2, .int x), (3, .ref o)] := hl
  refine lv_aload_n S.1 S.2.1 dL_tell_0 rfl (lv_at hl 3 rfl) ?_
  refine lv_iconst (v := (nI 0)) S.1 S.2.1 dL_tell_1 (by decide) ?_
  refine lv_aload_n S.1 S.2.1 dL_tell_2 rfl (lv_at hl 0 rfl) ?_
  refine lv_iload_n S.1 S.2.1 dL_tell_3 rfl (lv_at hl 1 rfl) ?_
  refine lv_iload_n S.1 S.2.1 dL_tell_4 rfl (lv_at hl 2 rfl) ?_
  refine thr_catchV (C := RX0) (As := [.int u, .int x]) (rest := [.int (nI 0), .ref o]) S hex (by decide) (fun U hU hW => twS_keep ht hW (fun q c h => by rw [hU]; exact h)) (kX0_tellE l dC dI cI cZ cJ a n mw nf sg fo L le sc li ba ca st hfl u x hu) (fun U hU hW => ⟨by rw [hU]; exact hP, va_K.moved hW.alike hK⟩) (va_recv hK hP (ci := 0) (q0 := 0) rfl rfl) gL_51 hdX0_tell (by decide) hl.1 rfl (Nat.le_of_ble_eq_true rfl) dL_tell_5 (fun xe H hz hk => ?_)
  refine lv_astore (lv' := [(4, .ref xe), (0, .ref (a 0)), (1, .int u), (2, .int x), (3, .ref o)]) S.1 S.2.1 dL_tell_13 hl (by decide) rfl (fun ls hl => ?_)
  refine lv_iconst (v := (nI 1)) S.1 S.2.1 dL_tell_15 (by decide) ?_
  exact thW_ret S hr hlk hz hk dL_tell_16

set_option maxRecDepth 100000 in
theorem kL_common (l : Launch) (dC : Nat → ClassId) (dI : Nat → Nat → Nat) (cI cZ cJ : ClassId) (a : Nat → Nat) (n mw nf : Nat) (sg fo L le sc li ba ca st : Nat → Nat) (o : Nat) (f : Nat → Int64) (t : Nat) (hI : iv n mw nf sg fo L le sc li ba ca) (ht : t < 4) : wrW l yL_common cL_common 4 (some .int) [(0, 9, 12, 13)] 3 70 [.ref (a 0), .int (nI t), .ref o] dC dI cI cZ cJ (vX cI cZ a n mw nf sg fo L le sc li ba ca st ++ [oc o cJ f]) (fun _ : Unit => vX cI cZ a n mw nf sg fo L le sc li ba ca st ++ [oc o cJ (vp_updL f 0 (Int32.toInt64 (nI ((cmn L le li ba t mw).2))))]) (some (.int (nI 0))) := by
  refine wrW_ofW RL (by decide) rfl (Nat.le_of_ble_eq_true rfl) ?_
  intro p e s m below meth c S hr hlk hK hP hD hS ls hl
  have hl : lv_has ls 4 [(0, .ref (a 0)), (1, .int (nI t)), (2, .ref o)] := hl
  refine lv_aload_n S.1 S.2.1 dL_common_0 rfl (lv_at hl 2 rfl) ?_
  refine lv_iconst (v := (nI 0)) S.1 S.2.1 dL_common_1 (by decide) ?_
  refine lv_aload_n S.1 S.2.1 dL_common_2 rfl (lv_at hl 0 rfl) ?_
  refine lv_iload_n S.1 S.2.1 dL_common_3 rfl (lv_at hl 1 rfl) ?_
  refine rd_callV (C := RX0) (As := [.int (nI t)]) (rest := [.int (nI 0), .ref o]) S (kX0_common l dC dI cI cZ cJ a n mw nf sg fo L le sc li ba ca st t hI ht) rB_blind (fun U hU hW => ⟨by rw [hU]; exact wr_sub (u := []) (v := [oc o cJ f]) hP, va_K.moved hW.alike hK⟩) (va_recv hK hP (ci := 0) (q0 := 0) rfl rfl) gL_54 hdX0_common (by decide) hl.1 rfl (Nat.le_of_ble_eq_true rfl) dL_common_4 ⟨Nat.zero_le _, Nat.zero_le _⟩ ?_
  refine lv_i2l (v := Int32.toInt64 (nI ((cmn L le li ba t mw).2))) S.1 S.2.1 dL_common_7 rfl ?_
  refine n_last S hK hP hD hS 10 2 rfl rfl dL_common_8 (fun H locs hP hD hS => ?_)
  have hP : va_P (dC, dI) vcl (vX cI cZ a n mw nf sg fo L le sc li ba ca st ++ [oc o cJ (vp_updL f 0 (Int32.toInt64 (nI ((cmn L le li ba t mw).2))))]) H := hP
  have hD : va_D (wF (vX cI cZ a n mw nf sg fo L le sc li ba ca st ++ [oc o cJ f])) (vX cI cZ a n mw nf sg fo L le sc li ba ca st ++ [oc o cJ (vp_updL f 0 (Int32.toInt64 (nI ((cmn L le li ba t mw).2))))]) := hD
  refine lv_goto (tgt := 15) S.1 S.2.1 dL_common_9 (by decide) ?_
  refine lv_iconst (v := (nI 0)) S.1 S.2.1 dL_common_15 (by decide) ?_
  exact wrE_ret (z := ()) S hr hlk rfl rfl hP rfl hS dL_common_16

set_option maxRecDepth 100000 in
theorem kL_commonE (l : Launch) (dC : Nat → ClassId) (dI : Nat → Nat → Nat) (cI cZ cJ : ClassId) (a : Nat → Nat) (n mw nf : Nat) (sg fo L le sc li ba ca st : Nat → Nat) (o : Nat) (f : Nat → Int64) (hfl : l.flags = flags0) (u : Int32) (hu : isLi u = false) : thW l yL_common cL_common 4 (some .int) [(0, 9, 12, 13)] 9 139 [.ref (a 0), .int u, .ref o] (rB dC dI cI cZ cJ (vX cI cZ a n mw nf sg fo L le sc li ba ca st)) := by
  refine thW_ofW RL (by decide) rfl (Nat.le_of_ble_eq_true rfl) ?_
  intro p e s m below meth c S hex hr hlk hB ht ls hl
  obtain ⟨hP, hK⟩ := hB
  have hl : lv_has ls 4 [(0, .ref (a 0)), (1, .int u), (2, .ref o)] := hl
  refine lv_aload_n S.1 S.2.1 dL_common_0 rfl (lv_at hl 2 rfl) ?_
  refine lv_iconst (v := (nI 0)) S.1 S.2.1 dL_common_1 (by decide) ?_
  refine lv_aload_n S.1 S.2.1 dL_common_2 rfl (lv_at hl 0 rfl) ?_
  refine lv_iload_n S.1 S.2.1 dL_common_3 rfl (lv_at hl 1 rfl) ?_
  refine thr_catchV (C := RX0) (As := [.int u]) (rest := [.int (nI 0), .ref o]) S hex (by decide) (fun U hU hW => twS_keep ht hW (fun q c h => by rw [hU]; exact h)) (kX0_commonE l dC dI cI cZ cJ a n mw nf sg fo L le sc li ba ca st hfl u hu) (fun U hU hW => ⟨by rw [hU]; exact hP, va_K.moved hW.alike hK⟩) (va_recv hK hP (ci := 0) (q0 := 0) rfl rfl) gL_54 hdX0_common (by decide) hl.1 rfl (Nat.le_of_ble_eq_true rfl) dL_common_4 (fun xe H hz hk => ?_)
  refine lv_astore_n (lv' := [(3, .ref xe), (0, .ref (a 0)), (1, .int u), (2, .ref o)]) S.1 S.2.1 dL_common_12 rfl hl (by decide) rfl (fun ls hl => ?_)
  refine lv_iconst (v := (nI 1)) S.1 S.2.1 dL_common_13 (by decide) ?_
  exact thW_ret S hr hlk hz hk dL_common_14
