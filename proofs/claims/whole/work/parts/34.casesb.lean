/-! ===== the law: one call after the other, second part ===== -/
set_option maxRecDepth 100000 in
set_option maxHeartbeats 4000000 in
theorem lc_seek {p : Program} {l : Launch} {e : Env} {s : State} {m : MethodId} {below : List Frame} {meth : Method} {c : Code} {dC : Nat → ClassId} {dI : Nat → Nat → Nat} {cI cZ cJ : ClassId} {a d : Nat → Nat} {o b i cells slots Ln : Nat} {xs : Nat → Int32} (hfl : l.flags = flags0) (S : CallFix p m c cL_law 7 s #[Value.ref b] tbG RL) (ht : twS s) (hK : va_K (dC, dI) vcl (vty cI cZ cJ) s) (hX : va_X b Ln xs s s.heap) (hbl : b < s.heap.size) (hLn : Ln ≤ 2560) (hi5 : i + 5 ≤ Ln) (hc1 : cells + 1 ≤ room_1.cells ∧ slots + 6 ≤ room_1.slots)
    (kk : lK p l e s m below meth c dC dI cI cZ cJ a d o b i cells slots) (th n mw nf : Nat) (sg fo L le sc li ba ca st : Nat → Nat) (wa : Nat → Int32) (f : Nat → Int64) (hI : iv n mw nf sg fo L le sc li ba ca) (H : Heap) (locs : List Loc) (hP : va_P (dC, dI) vcl (vX cI cZ a n mw nf sg fo L le sc li ba ca st ++ ([oc o cJ f] ++ vY cI cZ d th n mw nf sg fo L le sc li ba ca wa)) H) (hD : va_D (fun q => s.heap.size ≤ q) (vX cI cZ a n mw nf sg fo L le sc li ba ca st ++ ([oc o cJ f] ++ vY cI cZ d th n mw nf sg fo L le sc li ba ca wa))) (hS : va_S (fun q => s.heap.size ≤ q) s.heap H locs)
    (ls : Array Slot) (hl : lv_has ls 7 [(0, .ref b), (1, .ref (a 0)), (2, .ref (d 0)), (3, .ref o), (4, .int (nI i))]) : W p l e room_1 s m #[Value.ref b] below meth c H locs cells slots (lw_Z below #[Value.ref b] s) (F0 m 405 ls []) := by
  have hc0 : cells ≤ room_1.cells ∧ slots ≤ room_1.slots := ⟨by omega, by omega⟩
  have hn := hI.1.1
  have hm := hI.1.2.1
  have hf := hI.1.2.2
  rcases sp_Li (xs (i + 1)) with h1 | ⟨t, h1, hu1⟩
  · refine lv_aload_n S.1 S.2.1 dL_law_405 rfl (lv_at hl 1 rfl) ?_
    refine lv_aload_n S.1 S.2.1 dL_law_406 rfl (lv_at hl 0 rfl) ?_
    refine lv_iload S.1 S.2.1 dL_law_407 (lv_at hl 4 rfl) ?_
    refine lv_iconst (v := (nI 1)) S.1 S.2.1 dL_law_409 (by decide) ?_
    refine n_iadd (x := i) (y := 1) S dL_law_410 ?_
    refine n_sld (j := i + 1) S hX hbl hS (by omega) (by omega) dL_law_411 ?_
    refine lv_aload_n S.1 S.2.1 dL_law_412 rfl (lv_at hl 3 rfl) ?_
    refine lc_T (As := [.ref (a 0), .int (xs (i + 1)), .ref o]) (rest := []) S ht (kL_seekE l dC dI cI cZ cJ a n mw nf sg fo L le sc li ba ca st o f hfl (xs (i + 1)) h1) hK hP hS hw_seek hdL_seek (by decide) hl.1 rfl (Nat.le_of_ble_eq_true rfl) dL_law_413 hc1 (fun H hP hS => ?_)
    refine lv_istore (lv' := [(5, .int (nI 1)), (0, .ref b), (1, .ref (a 0)), (2, .ref (d 0)), (3, .ref o), (4, .int (nI i))]) S.1 S.2.1 dL_law_416 hl (by decide) rfl (fun ls hl => ?_)
    refine lv_aload_n S.1 S.2.1 dL_law_418 rfl (lv_at hl 3 rfl) ?_
    refine lv_aload_n S.1 S.2.1 dL_law_419 rfl (lv_at hl 1 rfl) ?_
    refine lv_iload S.1 S.2.1 dL_law_420 (lv_at hl 5 rfl) ?_
    refine lv_iconst (v := (nI 1)) S.1 S.2.1 dL_law_422 (by decide) ?_
    refine n_iadd (x := i) (y := 1) S dL_law_423 ?_
    refine n_sld (j := i + 1) S hX hbl hS (by omega) (by omega) dL_law_424 ?_
    refine lc_Y (As := [.int (xs (i + 1))]) (rest := []) S (kX1_seekF l dC dI cI cZ cJ d th n mw nf sg fo L le sc li ba ca wa (xs (i + 1)) h1) hK hP hD hS rfl (va_recv hK hP (ci := 1) (q0 := 11) rfl rfl) gL_96 hdX1_seek (by decide) hl.1 rfl (Nat.le_of_ble_eq_true rfl) dL_law_425 hc1 (fun H locs hP hD hS => ?_)
    have hP : va_P (dC, dI) vcl (vX cI cZ a n mw nf sg fo L le sc li ba ca st ++ ([oc o cJ f] ++ vY cI cZ d 1 n mw nf sg fo L le sc li ba ca wa)) H := hP
    have hD : va_D (fun q => s.heap.size ≤ q) (vX cI cZ a n mw nf sg fo L le sc li ba ca st ++ ([oc o cJ f] ++ vY cI cZ d 1 n mw nf sg fo L le sc li ba ca wa)) := hD
    refine lv_istore (lv' := [(6, .int (nI 0)), (5, .int (nI 1)), (0, .ref b), (1, .ref (a 0)), (2, .ref (d 0)), (3, .ref o), (4, .int (nI i))]) S.1 S.2.1 dL_law_428 hl (by decide) rfl (fun ls hl => ?_)
    refine lv_aload_n S.1 S.2.1 dL_law_430 rfl (lv_at hl 4 rfl) ?_
    refine rd_callV (C := RX1) (As := []) (rest := []) S (kX1_thrown l dC dI cI cZ cJ d 1 n mw nf sg fo L le sc li ba ca wa) rB_blind (fun U hU hW => ⟨by rw [hU]; exact lsY hP, va_K.moved hW.alike hK⟩) (va_recv hK hP (ci := 1) (q0 := 11) rfl rfl) gL_76 hdX1_thrown (by decide) hl.1 rfl (Nat.le_of_ble_eq_true rfl) dL_law_431 hc1 ?_
    refine lv_iload S.1 S.2.1 dL_law_434 (lv_at hl 1 rfl) ?_
    refine lv_icmp_eq (tgt := 441) S.1 S.2.1 dL_law_436 (by decide) (fun _ => ?_) (fun h => absurd rfl h)
    refine lv_iload S.1 S.2.1 dL_law_441 (lv_at hl 1 rfl) ?_
    refine lv_if_ne (tgt := 458) S.1 S.2.1 dL_law_443 (by decide) (fun _ => ?_) (fun h => absurd h (by decide))
    refine lv_goto (tgt := 1081) S.1 S.2.1 dL_law_458 (by decide) ?_
    exact kk 1 n mw nf sg fo L le sc li ba ca st wa f hI H locs hP hD hS ls (lv_sub hl [2, 3, 4, 5, 6] rfl)
  · refine lv_aload_n S.1 S.2.1 dL_law_405 rfl (lv_at hl 1 rfl) ?_
    refine lv_aload_n S.1 S.2.1 dL_law_406 rfl (lv_at hl 0 rfl) ?_
    refine lv_iload S.1 S.2.1 dL_law_407 (lv_at hl 4 rfl) ?_
    refine lv_iconst (v := (nI 1)) S.1 S.2.1 dL_law_409 (by decide) ?_
    refine n_iadd (x := i) (y := 1) S dL_law_410 ?_
    refine n_sld (j := i + 1) S hX hbl hS (by omega) (by omega) dL_law_411 ?_
    rw [hu1]
    refine lv_aload_n S.1 S.2.1 dL_law_412 rfl (lv_at hl 3 rfl) ?_
    refine lc_W (As := [.ref (a 0), .int (nI t), .ref o]) (rest := []) S (kL_seek l dC dI cI cZ cJ a n mw nf sg fo L le sc li ba ca st o f t hI h1) hK hP hD hS (fun _ => rfl) hw_seek hdL_seek (by decide) hl.1 rfl (Nat.le_of_ble_eq_true rfl) dL_law_413 hc0 (fun _ H locs hP hD hS => ?_)
    have hP : va_P (dC, dI) vcl ((vX cI cZ a n mw ((skS n sg fo L le sc li ba t ca mw).1) sg fo L le sc li ba ((skS n sg fo L le sc li ba t ca mw).2) st ++ [oc o cJ (vp_updL f 0 (Int32.toInt64 (nI ((skS n sg fo L le sc li ba t ca mw).1))))]) ++ vY cI cZ d th n mw nf sg fo L le sc li ba ca wa) H := hP
    have hD : va_D (fun q => s.heap.size ≤ q) ((vX cI cZ a n mw ((skS n sg fo L le sc li ba t ca mw).1) sg fo L le sc li ba ((skS n sg fo L le sc li ba t ca mw).2) st ++ [oc o cJ (vp_updL f 0 (Int32.toInt64 (nI ((skS n sg fo L le sc li ba t ca mw).1))))]) ++ vY cI cZ d th n mw nf sg fo L le sc li ba ca wa) := hD
    rw [List.append_assoc] at hP hD
    refine lv_istore (lv' := [(5, .int (nI 0)), (0, .ref b), (1, .ref (a 0)), (2, .ref (d 0)), (3, .ref o), (4, .int (nI i))]) S.1 S.2.1 dL_law_416 hl (by decide) rfl (fun ls hl => ?_)
    refine lv_aload_n S.1 S.2.1 dL_law_418 rfl (lv_at hl 3 rfl) ?_
    refine lv_aload_n S.1 S.2.1 dL_law_419 rfl (lv_at hl 1 rfl) ?_
    refine lv_iload S.1 S.2.1 dL_law_420 (lv_at hl 5 rfl) ?_
    refine lv_iconst (v := (nI 1)) S.1 S.2.1 dL_law_422 (by decide) ?_
    refine n_iadd (x := i) (y := 1) S dL_law_423 ?_
    refine n_sld (j := i + 1) S hX hbl hS (by omega) (by omega) dL_law_424 ?_
    rw [hu1]
    refine lc_Y (As := [.int (nI t)]) (rest := []) S (kX1_seek l dC dI cI cZ cJ d th n mw nf sg fo L le sc li ba ca wa t hI h1) hK hP hD hS rfl (va_recv hK hP (ci := 1) (q0 := 11) rfl rfl) gL_96 hdX1_seek (by decide) hl.1 rfl (Nat.le_of_ble_eq_true rfl) dL_law_425 hc0 (fun H locs hP hD hS => ?_)
    have hP : va_P (dC, dI) vcl (vX cI cZ a n mw ((skS n sg fo L le sc li ba t ca mw).1) sg fo L le sc li ba ((skS n sg fo L le sc li ba t ca mw).2) st ++ ([oc o cJ (vp_updL f 0 (Int32.toInt64 (nI ((skS n sg fo L le sc li ba t ca mw).1))))] ++ vY cI cZ d 0 n mw ((skS n sg fo L le sc li ba t ca mw).1) sg fo L le sc li ba ((skS n sg fo L le sc li ba t ca mw).2) wa)) H := hP
    have hD : va_D (fun q => s.heap.size ≤ q) (vX cI cZ a n mw ((skS n sg fo L le sc li ba t ca mw).1) sg fo L le sc li ba ((skS n sg fo L le sc li ba t ca mw).2) st ++ ([oc o cJ (vp_updL f 0 (Int32.toInt64 (nI ((skS n sg fo L le sc li ba t ca mw).1))))] ++ vY cI cZ d 0 n mw ((skS n sg fo L le sc li ba t ca mw).1) sg fo L le sc li ba ((skS n sg fo L le sc li ba t ca mw).2) wa)) := hD
    refine lv_istore (lv' := [(6, .int (nI ((skS n sg fo L le sc li ba t ca mw).1))), (5, .int (nI 0)), (0, .ref b), (1, .ref (a 0)), (2, .ref (d 0)), (3, .ref o), (4, .int (nI i))]) S.1 S.2.1 dL_law_428 hl (by decide) rfl (fun ls hl => ?_)
    refine lv_aload_n S.1 S.2.1 dL_law_430 rfl (lv_at hl 4 rfl) ?_
    refine rd_callV (C := RX1) (As := []) (rest := []) S (kX1_thrown l dC dI cI cZ cJ d 0 n mw ((skS n sg fo L le sc li ba t ca mw).1) sg fo L le sc li ba ((skS n sg fo L le sc li ba t ca mw).2) wa) rB_blind (fun U hU hW => ⟨by rw [hU]; exact lsY hP, va_K.moved hW.alike hK⟩) (va_recv hK hP (ci := 1) (q0 := 11) rfl rfl) gL_76 hdX1_thrown (by decide) hl.1 rfl (Nat.le_of_ble_eq_true rfl) dL_law_431 hc0 ?_
    refine lv_iload S.1 S.2.1 dL_law_434 (lv_at hl 1 rfl) ?_
    refine lv_icmp_eq (tgt := 441) S.1 S.2.1 dL_law_436 (by decide) (fun _ => ?_) (fun h => absurd rfl h)
    refine lv_iload S.1 S.2.1 dL_law_441 (lv_at hl 1 rfl) ?_
    refine lv_if_ne (tgt := 458) S.1 S.2.1 dL_law_443 (by decide) (fun h => absurd (by decide) h) (fun _ => ?_)
    refine lv_aload_n S.1 S.2.1 dL_law_446 rfl (lv_at hl 5 rfl) ?_
    refine lv_iconst (v := (nI 0)) S.1 S.2.1 dL_law_447 (by decide) ?_
    refine n_lald S hK hP 10 2 rfl rfl dL_law_448 ?_
    refine lv_iload S.1 S.2.1 dL_law_449 (lv_at hl 0 rfl) ?_
    refine lv_i2l (v := Int32.toInt64 (nI ((skS n sg fo L le sc li ba t ca mw).1))) S.1 S.2.1 dL_law_451 rfl ?_
    refine n_lcmp S dL_law_452 ?_
    refine lv_if_eq (tgt := 458) S.1 S.2.1 dL_law_453 (by decide) (fun _ => ?_) (fun h => absurd rfl h)
    refine lv_goto (tgt := 1081) S.1 S.2.1 dL_law_458 (by decide) ?_
    refine W.widen (k := cells + 1) (n := slots + 6) (by omega) (by omega) ?_
    exact kk 0 n mw ((skS n sg fo L le sc li ba t ca mw).1) sg fo L le sc li ba ((skS n sg fo L le sc li ba t ca mw).2) st wa (vp_updL f 0 (Int32.toInt64 (nI ((skS n sg fo L le sc li ba t ca mw).1)))) (iv_seek hI) H locs hP hD hS ls (lv_sub hl [2, 3, 4, 5, 6] rfl)

set_option maxRecDepth 100000 in
set_option maxHeartbeats 4000000 in
theorem lc_candidate {p : Program} {l : Launch} {e : Env} {s : State} {m : MethodId} {below : List Frame} {meth : Method} {c : Code} {dC : Nat → ClassId} {dI : Nat → Nat → Nat} {cI cZ cJ : ClassId} {a d : Nat → Nat} {o b i cells slots Ln : Nat} {xs : Nat → Int32} (hfl : l.flags = flags0) (S : CallFix p m c cL_law 7 s #[Value.ref b] tbG RL) (ht : twS s) (hK : va_K (dC, dI) vcl (vty cI cZ cJ) s) (hX : va_X b Ln xs s s.heap) (hbl : b < s.heap.size) (hLn : Ln ≤ 2560) (hi5 : i + 5 ≤ Ln) (hc1 : cells + 1 ≤ room_1.cells ∧ slots + 6 ≤ room_1.slots)
    (kk : lK p l e s m below meth c dC dI cI cZ cJ a d o b i cells slots) (th n mw nf : Nat) (sg fo L le sc li ba ca st : Nat → Nat) (wa : Nat → Int32) (f : Nat → Int64) (hI : iv n mw nf sg fo L le sc li ba ca) (H : Heap) (locs : List Loc) (hP : va_P (dC, dI) vcl (vX cI cZ a n mw nf sg fo L le sc li ba ca st ++ ([oc o cJ f] ++ vY cI cZ d th n mw nf sg fo L le sc li ba ca wa)) H) (hD : va_D (fun q => s.heap.size ≤ q) (vX cI cZ a n mw nf sg fo L le sc li ba ca st ++ ([oc o cJ f] ++ vY cI cZ d th n mw nf sg fo L le sc li ba ca wa))) (hS : va_S (fun q => s.heap.size ≤ q) s.heap H locs)
    (ls : Array Slot) (hl : lv_has ls 7 [(0, .ref b), (1, .ref (a 0)), (2, .ref (d 0)), (3, .ref o), (4, .int (nI i))]) : W p l e room_1 s m #[Value.ref b] below meth c H locs cells slots (lw_Z below #[Value.ref b] s) (F0 m 461 ls []) := by
  have hc0 : cells ≤ room_1.cells ∧ slots ≤ room_1.slots := ⟨by omega, by omega⟩
  have hn := hI.1.1
  have hm := hI.1.2.1
  have hf := hI.1.2.2
  rcases sp_C (show nf < 2 ^ 31 by omega) (xs (i + 1)) with h1 | ⟨k, h1, hu1⟩
  · refine lv_aload_n S.1 S.2.1 dL_law_461 rfl (lv_at hl 1 rfl) ?_
    refine lv_aload_n S.1 S.2.1 dL_law_462 rfl (lv_at hl 0 rfl) ?_
    refine lv_iload S.1 S.2.1 dL_law_463 (lv_at hl 4 rfl) ?_
    refine lv_iconst (v := (nI 1)) S.1 S.2.1 dL_law_465 (by decide) ?_
    refine n_iadd (x := i) (y := 1) S dL_law_466 ?_
    refine n_sld (j := i + 1) S hX hbl hS (by omega) (by omega) dL_law_467 ?_
    refine lv_aload_n S.1 S.2.1 dL_law_468 rfl (lv_at hl 3 rfl) ?_
    refine lc_T (As := [.ref (a 0), .int (xs (i + 1)), .ref o]) (rest := []) S ht (kL_candidateE l dC dI cI cZ cJ a n mw nf sg fo L le sc li ba ca st o f hfl (xs (i + 1)) h1) hK hP hS hw_candidate hdL_candidate (by decide) hl.1 rfl (Nat.le_of_ble_eq_true rfl) dL_law_469 hc1 (fun H hP hS => ?_)
    refine lv_istore (lv' := [(5, .int (nI 1)), (0, .ref b), (1, .ref (a 0)), (2, .ref (d 0)), (3, .ref o), (4, .int (nI i))]) S.1 S.2.1 dL_law_472 hl (by decide) rfl (fun ls hl => ?_)
    refine lv_aload_n S.1 S.2.1 dL_law_474 rfl (lv_at hl 3 rfl) ?_
    refine lv_aload_n S.1 S.2.1 dL_law_475 rfl (lv_at hl 1 rfl) ?_
    refine lv_iload S.1 S.2.1 dL_law_476 (lv_at hl 5 rfl) ?_
    refine lv_iconst (v := (nI 1)) S.1 S.2.1 dL_law_478 (by decide) ?_
    refine n_iadd (x := i) (y := 1) S dL_law_479 ?_
    refine n_sld (j := i + 1) S hX hbl hS (by omega) (by omega) dL_law_480 ?_
    refine lc_Y (As := [.int (xs (i + 1))]) (rest := []) S (kX1_candidateF l dC dI cI cZ cJ d th n mw nf sg fo L le sc li ba ca wa (xs (i + 1)) h1) hK hP hD hS rfl (va_recv hK hP (ci := 1) (q0 := 11) rfl rfl) gL_99 hdX1_candidate (by decide) hl.1 rfl (Nat.le_of_ble_eq_true rfl) dL_law_481 hc1 (fun H locs hP hD hS => ?_)
    have hP : va_P (dC, dI) vcl (vX cI cZ a n mw nf sg fo L le sc li ba ca st ++ ([oc o cJ f] ++ vY cI cZ d 1 n mw nf sg fo L le sc li ba ca wa)) H := hP
    have hD : va_D (fun q => s.heap.size ≤ q) (vX cI cZ a n mw nf sg fo L le sc li ba ca st ++ ([oc o cJ f] ++ vY cI cZ d 1 n mw nf sg fo L le sc li ba ca wa)) := hD
    refine lv_istore (lv' := [(6, .int (nI 0)), (5, .int (nI 1)), (0, .ref b), (1, .ref (a 0)), (2, .ref (d 0)), (3, .ref o), (4, .int (nI i))]) S.1 S.2.1 dL_law_484 hl (by decide) rfl (fun ls hl => ?_)
    refine lv_aload_n S.1 S.2.1 dL_law_486 rfl (lv_at hl 4 rfl) ?_
    refine rd_callV (C := RX1) (As := []) (rest := []) S (kX1_thrown l dC dI cI cZ cJ d 1 n mw nf sg fo L le sc li ba ca wa) rB_blind (fun U hU hW => ⟨by rw [hU]; exact lsY hP, va_K.moved hW.alike hK⟩) (va_recv hK hP (ci := 1) (q0 := 11) rfl rfl) gL_76 hdX1_thrown (by decide) hl.1 rfl (Nat.le_of_ble_eq_true rfl) dL_law_487 hc1 ?_
    refine lv_iload S.1 S.2.1 dL_law_490 (lv_at hl 1 rfl) ?_
    refine lv_icmp_eq (tgt := 497) S.1 S.2.1 dL_law_492 (by decide) (fun _ => ?_) (fun h => absurd rfl h)
    refine lv_iload S.1 S.2.1 dL_law_497 (lv_at hl 1 rfl) ?_
    refine lv_if_ne (tgt := 514) S.1 S.2.1 dL_law_499 (by decide) (fun _ => ?_) (fun h => absurd h (by decide))
    refine lv_goto (tgt := 1081) S.1 S.2.1 dL_law_514 (by decide) ?_
    exact kk 1 n mw nf sg fo L le sc li ba ca st wa f hI H locs hP hD hS ls (lv_sub hl [2, 3, 4, 5, 6] rfl)
  · refine lv_aload_n S.1 S.2.1 dL_law_461 rfl (lv_at hl 1 rfl) ?_
    refine lv_aload_n S.1 S.2.1 dL_law_462 rfl (lv_at hl 0 rfl) ?_
    refine lv_iload S.1 S.2.1 dL_law_463 (lv_at hl 4 rfl) ?_
    refine lv_iconst (v := (nI 1)) S.1 S.2.1 dL_law_465 (by decide) ?_
    refine n_iadd (x := i) (y := 1) S dL_law_466 ?_
    refine n_sld (j := i + 1) S hX hbl hS (by omega) (by omega) dL_law_467 ?_
    rw [hu1]
    refine lv_aload_n S.1 S.2.1 dL_law_468 rfl (lv_at hl 3 rfl) ?_
    refine lc_W (As := [.ref (a 0), .int (nI k), .ref o]) (rest := []) S (kL_candidate l dC dI cI cZ cJ a n mw nf sg fo L le sc li ba ca st o f k hI h1) hK hP hD hS (fun _ => rfl) hw_candidate hdL_candidate (by decide) hl.1 rfl (Nat.le_of_ble_eq_true rfl) dL_law_469 hc0 (fun _ H locs hP hD hS => ?_)
    have hP : va_P (dC, dI) vcl ((vX cI cZ a n mw nf sg fo L le sc li ba ca st ++ [oc o cJ (vp_updL f 0 (Int32.toInt64 (nI (ca k))))]) ++ vY cI cZ d th n mw nf sg fo L le sc li ba ca wa) H := hP
    have hD : va_D (fun q => s.heap.size ≤ q) ((vX cI cZ a n mw nf sg fo L le sc li ba ca st ++ [oc o cJ (vp_updL f 0 (Int32.toInt64 (nI (ca k))))]) ++ vY cI cZ d th n mw nf sg fo L le sc li ba ca wa) := hD
    rw [List.append_assoc] at hP hD
    refine lv_istore (lv' := [(5, .int (nI 0)), (0, .ref b), (1, .ref (a 0)), (2, .ref (d 0)), (3, .ref o), (4, .int (nI i))]) S.1 S.2.1 dL_law_472 hl (by decide) rfl (fun ls hl => ?_)
    refine lv_aload_n S.1 S.2.1 dL_law_474 rfl (lv_at hl 3 rfl) ?_
    refine lv_aload_n S.1 S.2.1 dL_law_475 rfl (lv_at hl 1 rfl) ?_
    refine lv_iload S.1 S.2.1 dL_law_476 (lv_at hl 5 rfl) ?_
    refine lv_iconst (v := (nI 1)) S.1 S.2.1 dL_law_478 (by decide) ?_
    refine n_iadd (x := i) (y := 1) S dL_law_479 ?_
    refine n_sld (j := i + 1) S hX hbl hS (by omega) (by omega) dL_law_480 ?_
    rw [hu1]
    refine lc_Y (As := [.int (nI k)]) (rest := []) S (kX1_candidate l dC dI cI cZ cJ d th n mw nf sg fo L le sc li ba ca wa k hI h1) hK hP hD hS rfl (va_recv hK hP (ci := 1) (q0 := 11) rfl rfl) gL_99 hdX1_candidate (by decide) hl.1 rfl (Nat.le_of_ble_eq_true rfl) dL_law_481 hc0 (fun H locs hP hD hS => ?_)
    have hP : va_P (dC, dI) vcl (vX cI cZ a n mw nf sg fo L le sc li ba ca st ++ ([oc o cJ (vp_updL f 0 (Int32.toInt64 (nI (ca k))))] ++ vY cI cZ d 0 n mw nf sg fo L le sc li ba ca wa)) H := hP
    have hD : va_D (fun q => s.heap.size ≤ q) (vX cI cZ a n mw nf sg fo L le sc li ba ca st ++ ([oc o cJ (vp_updL f 0 (Int32.toInt64 (nI (ca k))))] ++ vY cI cZ d 0 n mw nf sg fo L le sc li ba ca wa)) := hD
    refine lv_istore (lv' := [(6, .int (nI (ca k))), (5, .int (nI 0)), (0, .ref b), (1, .ref (a 0)), (2, .ref (d 0)), (3, .ref o), (4, .int (nI i))]) S.1 S.2.1 dL_law_484 hl (by decide) rfl (fun ls hl => ?_)
    refine lv_aload_n S.1 S.2.1 dL_law_486 rfl (lv_at hl 4 rfl) ?_
    refine rd_callV (C := RX1) (As := []) (rest := []) S (kX1_thrown l dC dI cI cZ cJ d 0 n mw nf sg fo L le sc li ba ca wa) rB_blind (fun U hU hW => ⟨by rw [hU]; exact lsY hP, va_K.moved hW.alike hK⟩) (va_recv hK hP (ci := 1) (q0 := 11) rfl rfl) gL_76 hdX1_thrown (by decide) hl.1 rfl (Nat.le_of_ble_eq_true rfl) dL_law_487 hc0 ?_
    refine lv_iload S.1 S.2.1 dL_law_490 (lv_at hl 1 rfl) ?_
    refine lv_icmp_eq (tgt := 497) S.1 S.2.1 dL_law_492 (by decide) (fun _ => ?_) (fun h => absurd rfl h)
    refine lv_iload S.1 S.2.1 dL_law_497 (lv_at hl 1 rfl) ?_
    refine lv_if_ne (tgt := 514) S.1 S.2.1 dL_law_499 (by decide) (fun h => absurd (by decide) h) (fun _ => ?_)
    refine lv_aload_n S.1 S.2.1 dL_law_502 rfl (lv_at hl 5 rfl) ?_
    refine lv_iconst (v := (nI 0)) S.1 S.2.1 dL_law_503 (by decide) ?_
    refine n_lald S hK hP 10 2 rfl rfl dL_law_504 ?_
    refine lv_iload S.1 S.2.1 dL_law_505 (lv_at hl 0 rfl) ?_
    refine lv_i2l (v := Int32.toInt64 (nI (ca k))) S.1 S.2.1 dL_law_507 rfl ?_
    refine n_lcmp S dL_law_508 ?_
    refine lv_if_eq (tgt := 514) S.1 S.2.1 dL_law_509 (by decide) (fun _ => ?_) (fun h => absurd rfl h)
    refine lv_goto (tgt := 1081) S.1 S.2.1 dL_law_514 (by decide) ?_
    refine W.widen (k := cells + 1) (n := slots + 6) (by omega) (by omega) ?_
    exact kk 0 n mw nf sg fo L le sc li ba ca st wa (vp_updL f 0 (Int32.toInt64 (nI (ca k)))) hI H locs hP hD hS ls (lv_sub hl [2, 3, 4, 5, 6] rfl)

set_option maxRecDepth 100000 in
set_option maxHeartbeats 4000000 in
theorem lc_at {p : Program} {l : Launch} {e : Env} {s : State} {m : MethodId} {below : List Frame} {meth : Method} {c : Code} {dC : Nat → ClassId} {dI : Nat → Nat → Nat} {cI cZ cJ : ClassId} {a d : Nat → Nat} {o b i cells slots Ln : Nat} {xs : Nat → Int32} (hfl : l.flags = flags0) (S : CallFix p m c cL_law 7 s #[Value.ref b] tbG RL) (ht : twS s) (hK : va_K (dC, dI) vcl (vty cI cZ cJ) s) (hX : va_X b Ln xs s s.heap) (hbl : b < s.heap.size) (hLn : Ln ≤ 2560) (hi5 : i + 5 ≤ Ln) (hc1 : cells + 1 ≤ room_1.cells ∧ slots + 6 ≤ room_1.slots)
    (kk : lK p l e s m below meth c dC dI cI cZ cJ a d o b i cells slots) (th n mw nf : Nat) (sg fo L le sc li ba ca st : Nat → Nat) (wa : Nat → Int32) (f : Nat → Int64) (hI : iv n mw nf sg fo L le sc li ba ca) (H : Heap) (locs : List Loc) (hP : va_P (dC, dI) vcl (vX cI cZ a n mw nf sg fo L le sc li ba ca st ++ ([oc o cJ f] ++ vY cI cZ d th n mw nf sg fo L le sc li ba ca wa)) H) (hD : va_D (fun q => s.heap.size ≤ q) (vX cI cZ a n mw nf sg fo L le sc li ba ca st ++ ([oc o cJ f] ++ vY cI cZ d th n mw nf sg fo L le sc li ba ca wa))) (hS : va_S (fun q => s.heap.size ≤ q) s.heap H locs)
    (ls : Array Slot) (hl : lv_has ls 7 [(0, .ref b), (1, .ref (a 0)), (2, .ref (d 0)), (3, .ref o), (4, .int (nI i))]) : W p l e room_1 s m #[Value.ref b] below meth c H locs cells slots (lw_Z below #[Value.ref b] s) (F0 m 517 ls []) := by
  have hc0 : cells ≤ room_1.cells ∧ slots ≤ room_1.slots := ⟨by omega, by omega⟩
  have hn := hI.1.1
  have hm := hI.1.2.1
  have hf := hI.1.2.2
  rcases sp_L (xs (i + 2)) with h1 | ⟨y, h1, hu2⟩
  · refine lv_aload_n S.1 S.2.1 dL_law_517 rfl (lv_at hl 1 rfl) ?_
    refine lv_aload_n S.1 S.2.1 dL_law_518 rfl (lv_at hl 0 rfl) ?_
    refine lv_iload S.1 S.2.1 dL_law_519 (lv_at hl 4 rfl) ?_
    refine lv_iconst (v := (nI 1)) S.1 S.2.1 dL_law_521 (by decide) ?_
    refine n_iadd (x := i) (y := 1) S dL_law_522 ?_
    refine n_sld (j := i + 1) S hX hbl hS (by omega) (by omega) dL_law_523 ?_
    refine lv_aload_n S.1 S.2.1 dL_law_524 rfl (lv_at hl 0 rfl) ?_
    refine lv_iload S.1 S.2.1 dL_law_525 (lv_at hl 4 rfl) ?_
    refine lv_iconst (v := (nI 2)) S.1 S.2.1 dL_law_527 (by decide) ?_
    refine n_iadd (x := i) (y := 2) S dL_law_528 ?_
    refine n_sld (j := i + 2) S hX hbl hS (by omega) (by omega) dL_law_529 ?_
    refine lv_aload_n S.1 S.2.1 dL_law_530 rfl (lv_at hl 3 rfl) ?_
    refine lc_T (As := [.ref (a 0), .int (xs (i + 1)), .int (xs (i + 2)), .ref o]) (rest := []) S ht (kL_atE l dC dI cI cZ cJ a n mw nf sg fo L le sc li ba ca st o f hfl (xs (i + 1)) (xs (i + 2)) h1) hK hP hS hw_at hdL_at (by decide) hl.1 rfl (Nat.le_of_ble_eq_true rfl) dL_law_531 hc1 (fun H hP hS => ?_)
    refine lv_istore (lv' := [(5, .int (nI 1)), (0, .ref b), (1, .ref (a 0)), (2, .ref (d 0)), (3, .ref o), (4, .int (nI i))]) S.1 S.2.1 dL_law_534 hl (by decide) rfl (fun ls hl => ?_)
    refine lv_aload_n S.1 S.2.1 dL_law_536 rfl (lv_at hl 3 rfl) ?_
    refine lv_aload_n S.1 S.2.1 dL_law_537 rfl (lv_at hl 1 rfl) ?_
    refine lv_iload S.1 S.2.1 dL_law_538 (lv_at hl 5 rfl) ?_
    refine lv_iconst (v := (nI 1)) S.1 S.2.1 dL_law_540 (by decide) ?_
    refine n_iadd (x := i) (y := 1) S dL_law_541 ?_
    refine n_sld (j := i + 1) S hX hbl hS (by omega) (by omega) dL_law_542 ?_
    refine lv_aload_n S.1 S.2.1 dL_law_543 rfl (lv_at hl 1 rfl) ?_
    refine lv_iload S.1 S.2.1 dL_law_544 (lv_at hl 5 rfl) ?_
    refine lv_iconst (v := (nI 2)) S.1 S.2.1 dL_law_546 (by decide) ?_
    refine n_iadd (x := i) (y := 2) S dL_law_547 ?_
    refine n_sld (j := i + 2) S hX hbl hS (by omega) (by omega) dL_law_548 ?_
    refine lc_Y (As := [.int (xs (i + 1)), .int (xs (i + 2))]) (rest := []) S (kX1_atF l dC dI cI cZ cJ d th n mw nf sg fo L le sc li ba ca wa (xs (i + 1)) (xs (i + 2)) h1) hK hP hD hS rfl (va_recv hK hP (ci := 1) (q0 := 11) rfl rfl) gL_102 hdX1_at (by decide) hl.1 rfl (Nat.le_of_ble_eq_true rfl) dL_law_549 hc1 (fun H locs hP hD hS => ?_)
    have hP : va_P (dC, dI) vcl (vX cI cZ a n mw nf sg fo L le sc li ba ca st ++ ([oc o cJ f] ++ vY cI cZ d 1 n mw nf sg fo L le sc li ba ca wa)) H := hP
    have hD : va_D (fun q => s.heap.size ≤ q) (vX cI cZ a n mw nf sg fo L le sc li ba ca st ++ ([oc o cJ f] ++ vY cI cZ d 1 n mw nf sg fo L le sc li ba ca wa)) := hD
    refine lv_istore (lv' := [(6, .int (nI 0)), (5, .int (nI 1)), (0, .ref b), (1, .ref (a 0)), (2, .ref (d 0)), (3, .ref o), (4, .int (nI i))]) S.1 S.2.1 dL_law_552 hl (by decide) rfl (fun ls hl => ?_)
    refine lv_aload_n S.1 S.2.1 dL_law_554 rfl (lv_at hl 4 rfl) ?_
    refine rd_callV (C := RX1) (As := []) (rest := []) S (kX1_thrown l dC dI cI cZ cJ d 1 n mw nf sg fo L le sc li ba ca wa) rB_blind (fun U hU hW => ⟨by rw [hU]; exact lsY hP, va_K.moved hW.alike hK⟩) (va_recv hK hP (ci := 1) (q0 := 11) rfl rfl) gL_76 hdX1_thrown (by decide) hl.1 rfl (Nat.le_of_ble_eq_true rfl) dL_law_555 hc1 ?_
    refine lv_iload S.1 S.2.1 dL_law_558 (lv_at hl 1 rfl) ?_
    refine lv_icmp_eq (tgt := 565) S.1 S.2.1 dL_law_560 (by decide) (fun _ => ?_) (fun h => absurd rfl h)
    refine lv_iload S.1 S.2.1 dL_law_565 (lv_at hl 1 rfl) ?_
    refine lv_if_ne (tgt := 582) S.1 S.2.1 dL_law_567 (by decide) (fun _ => ?_) (fun h => absurd h (by decide))
    refine lv_goto (tgt := 1081) S.1 S.2.1 dL_law_582 (by decide) ?_
    exact kk 1 n mw nf sg fo L le sc li ba ca st wa f hI H locs hP hD hS ls (lv_sub hl [2, 3, 4, 5, 6] rfl)
  · refine lv_aload_n S.1 S.2.1 dL_law_517 rfl (lv_at hl 1 rfl) ?_
    refine lv_aload_n S.1 S.2.1 dL_law_518 rfl (lv_at hl 0 rfl) ?_
    refine lv_iload S.1 S.2.1 dL_law_519 (lv_at hl 4 rfl) ?_
    refine lv_iconst (v := (nI 1)) S.1 S.2.1 dL_law_521 (by decide) ?_
    refine n_iadd (x := i) (y := 1) S dL_law_522 ?_
    refine n_sld (j := i + 1) S hX hbl hS (by omega) (by omega) dL_law_523 ?_
    refine lv_aload_n S.1 S.2.1 dL_law_524 rfl (lv_at hl 0 rfl) ?_
    refine lv_iload S.1 S.2.1 dL_law_525 (lv_at hl 4 rfl) ?_
    refine lv_iconst (v := (nI 2)) S.1 S.2.1 dL_law_527 (by decide) ?_
    refine n_iadd (x := i) (y := 2) S dL_law_528 ?_
    refine n_sld (j := i + 2) S hX hbl hS (by omega) (by omega) dL_law_529 ?_
    rw [hu2]
    refine lv_aload_n S.1 S.2.1 dL_law_530 rfl (lv_at hl 3 rfl) ?_
    refine lc_W (As := [.ref (a 0), .int (xs (i + 1)), .int (nI y), .ref o]) (rest := []) S (kL_at l dC dI cI cZ cJ a n mw nf sg fo L le sc li ba ca st o f (xs (i + 1)) y hI h1) hK hP hD hS (fun _ => rfl) hw_at hdL_at (by decide) hl.1 rfl (Nat.le_of_ble_eq_true rfl) dL_law_531 hc0 (fun _ H locs hP hD hS => ?_)
    have hP : va_P (dC, dI) vcl ((vX cI cZ a n mw nf sg fo L le sc li ba ca st ++ [oc o cJ (vp_updL f 0 (Int32.toInt64 (nI (cnt (atP L le ca (xs (i + 1)) y) nf))))]) ++ vY cI cZ d th n mw nf sg fo L le sc li ba ca wa) H := hP
    have hD : va_D (fun q => s.heap.size ≤ q) ((vX cI cZ a n mw nf sg fo L le sc li ba ca st ++ [oc o cJ (vp_updL f 0 (Int32.toInt64 (nI (cnt (atP L le ca (xs (i + 1)) y) nf))))]) ++ vY cI cZ d th n mw nf sg fo L le sc li ba ca wa) := hD
    rw [List.append_assoc] at hP hD
    refine lv_istore (lv' := [(5, .int (nI 0)), (0, .ref b), (1, .ref (a 0)), (2, .ref (d 0)), (3, .ref o), (4, .int (nI i))]) S.1 S.2.1 dL_law_534 hl (by decide) rfl (fun ls hl => ?_)
    refine lv_aload_n S.1 S.2.1 dL_law_536 rfl (lv_at hl 3 rfl) ?_
    refine lv_aload_n S.1 S.2.1 dL_law_537 rfl (lv_at hl 1 rfl) ?_
    refine lv_iload S.1 S.2.1 dL_law_538 (lv_at hl 5 rfl) ?_
    refine lv_iconst (v := (nI 1)) S.1 S.2.1 dL_law_540 (by decide) ?_
    refine n_iadd (x := i) (y := 1) S dL_law_541 ?_
    refine n_sld (j := i + 1) S hX hbl hS (by omega) (by omega) dL_law_542 ?_
    refine lv_aload_n S.1 S.2.1 dL_law_543 rfl (lv_at hl 1 rfl) ?_
    refine lv_iload S.1 S.2.1 dL_law_544 (lv_at hl 5 rfl) ?_
    refine lv_iconst (v := (nI 2)) S.1 S.2.1 dL_law_546 (by decide) ?_
    refine n_iadd (x := i) (y := 2) S dL_law_547 ?_
    refine n_sld (j := i + 2) S hX hbl hS (by omega) (by omega) dL_law_548 ?_
    rw [hu2]
    refine lc_Y (As := [.int (xs (i + 1)), .int (nI y)]) (rest := []) S (kX1_at l dC dI cI cZ cJ d th n mw nf sg fo L le sc li ba ca wa (xs (i + 1)) y hI h1) hK hP hD hS rfl (va_recv hK hP (ci := 1) (q0 := 11) rfl rfl) gL_102 hdX1_at (by decide) hl.1 rfl (Nat.le_of_ble_eq_true rfl) dL_law_549 hc0 (fun H locs hP hD hS => ?_)
    have hP : va_P (dC, dI) vcl (vX cI cZ a n mw nf sg fo L le sc li ba ca st ++ ([oc o cJ (vp_updL f 0 (Int32.toInt64 (nI (cnt (atP L le ca (xs (i + 1)) y) nf))))] ++ vY cI cZ d 0 n mw nf sg fo L le sc li ba ca wa)) H := hP
    have hD : va_D (fun q => s.heap.size ≤ q) (vX cI cZ a n mw nf sg fo L le sc li ba ca st ++ ([oc o cJ (vp_updL f 0 (Int32.toInt64 (nI (cnt (atP L le ca (xs (i + 1)) y) nf))))] ++ vY cI cZ d 0 n mw nf sg fo L le sc li ba ca wa)) := hD
    refine lv_istore (lv' := [(6, .int (nI (cnt (atP L le ca (xs (i + 1)) y) nf))), (5, .int (nI 0)), (0, .ref b), (1, .ref (a 0)), (2, .ref (d 0)), (3, .ref o), (4, .int (nI i))]) S.1 S.2.1 dL_law_552 hl (by decide) rfl (fun ls hl => ?_)
    refine lv_aload_n S.1 S.2.1 dL_law_554 rfl (lv_at hl 4 rfl) ?_
    refine rd_callV (C := RX1) (As := []) (rest := []) S (kX1_thrown l dC dI cI cZ cJ d 0 n mw nf sg fo L le sc li ba ca wa) rB_blind (fun U hU hW => ⟨by rw [hU]; exact lsY hP, va_K.moved hW.alike hK⟩) (va_recv hK hP (ci := 1) (q0 := 11) rfl rfl) gL_76 hdX1_thrown (by decide) hl.1 rfl (Nat.le_of_ble_eq_true rfl) dL_law_555 hc0 ?_
    refine lv_iload S.1 S.2.1 dL_law_558 (lv_at hl 1 rfl) ?_
    refine lv_icmp_eq (tgt := 565) S.1 S.2.1 dL_law_560 (by decide) (fun _ => ?_) (fun h => absurd rfl h)
    refine lv_iload S.1 S.2.1 dL_law_565 (lv_at hl 1 rfl) ?_
    refine lv_if_ne (tgt := 582) S.1 S.2.1 dL_law_567 (by decide) (fun h => absurd (by decide) h) (fun _ => ?_)
    refine lv_aload_n S.1 S.2.1 dL_law_570 rfl (lv_at hl 5 rfl) ?_
    refine lv_iconst (v := (nI 0)) S.1 S.2.1 dL_law_571 (by decide) ?_
    refine n_lald S hK hP 10 2 rfl rfl dL_law_572 ?_
    refine lv_iload S.1 S.2.1 dL_law_573 (lv_at hl 0 rfl) ?_
    refine lv_i2l (v := Int32.toInt64 (nI (cnt (atP L le ca (xs (i + 1)) y) nf))) S.1 S.2.1 dL_law_575 rfl ?_
    refine n_lcmp S dL_law_576 ?_
    refine lv_if_eq (tgt := 582) S.1 S.2.1 dL_law_577 (by decide) (fun _ => ?_) (fun h => absurd rfl h)
    refine lv_goto (tgt := 1081) S.1 S.2.1 dL_law_582 (by decide) ?_
    refine W.widen (k := cells + 1) (n := slots + 6) (by omega) (by omega) ?_
    exact kk 0 n mw nf sg fo L le sc li ba ca st wa (vp_updL f 0 (Int32.toInt64 (nI (cnt (atP L le ca (xs (i + 1)) y) nf)))) hI H locs hP hD hS ls (lv_sub hl [2, 3, 4, 5, 6] rfl)

set_option maxRecDepth 100000 in
set_option maxHeartbeats 4000000 in
theorem lc_begins {p : Program} {l : Launch} {e : Env} {s : State} {m : MethodId} {below : List Frame} {meth : Method} {c : Code} {dC : Nat → ClassId} {dI : Nat → Nat → Nat} {cI cZ cJ : ClassId} {a d : Nat → Nat} {o b i cells slots Ln : Nat} {xs : Nat → Int32} (hfl : l.flags = flags0) (S : CallFix p m c cL_law 7 s #[Value.ref b] tbG RL) (ht : twS s) (hK : va_K (dC, dI) vcl (vty cI cZ cJ) s) (hX : va_X b Ln xs s s.heap) (hbl : b < s.heap.size) (hLn : Ln ≤ 2560) (hi5 : i + 5 ≤ Ln) (hc1 : cells + 1 ≤ room_1.cells ∧ slots + 6 ≤ room_1.slots)
    (kk : lK p l e s m below meth c dC dI cI cZ cJ a d o b i cells slots) (th n mw nf : Nat) (sg fo L le sc li ba ca st : Nat → Nat) (wa : Nat → Int32) (f : Nat → Int64) (hI : iv n mw nf sg fo L le sc li ba ca) (H : Heap) (locs : List Loc) (hP : va_P (dC, dI) vcl (vX cI cZ a n mw nf sg fo L le sc li ba ca st ++ ([oc o cJ f] ++ vY cI cZ d th n mw nf sg fo L le sc li ba ca wa)) H) (hD : va_D (fun q => s.heap.size ≤ q) (vX cI cZ a n mw nf sg fo L le sc li ba ca st ++ ([oc o cJ f] ++ vY cI cZ d th n mw nf sg fo L le sc li ba ca wa))) (hS : va_S (fun q => s.heap.size ≤ q) s.heap H locs)
    (ls : Array Slot) (hl : lv_has ls 7 [(0, .ref b), (1, .ref (a 0)), (2, .ref (d 0)), (3, .ref o), (4, .int (nI i))]) : W p l e room_1 s m #[Value.ref b] below meth c H locs cells slots (lw_Z below #[Value.ref b] s) (F0 m 585 ls []) := by
  have hc0 : cells ≤ room_1.cells ∧ slots ≤ room_1.slots := ⟨by omega, by omega⟩
  have hn := hI.1.1
  have hm := hI.1.2.1
  have hf := hI.1.2.2
  rcases sp_Li (xs (i + 1)) with h1 | ⟨t, h1, hu1⟩
  · refine lv_aload_n S.1 S.2.1 dL_law_585 rfl (lv_at hl 1 rfl) ?_
    refine lv_aload_n S.1 S.2.1 dL_law_586 rfl (lv_at hl 0 rfl) ?_
    refine lv_iload S.1 S.2.1 dL_law_587 (lv_at hl 4 rfl) ?_
    refine lv_iconst (v := (nI 1)) S.1 S.2.1 dL_law_589 (by decide) ?_
    refine n_iadd (x := i) (y := 1) S dL_law_590 ?_
    refine n_sld (j := i + 1) S hX hbl hS (by omega) (by omega) dL_law_591 ?_
    refine lv_aload_n S.1 S.2.1 dL_law_592 rfl (lv_at hl 3 rfl) ?_
    refine lc_T (As := [.ref (a 0), .int (xs (i + 1)), .ref o]) (rest := []) S ht (kL_beginsE l dC dI cI cZ cJ a n mw nf sg fo L le sc li ba ca st o f hfl (xs (i + 1)) h1) hK hP hS hw_begins hdL_begins (by decide) hl.1 rfl (Nat.le_of_ble_eq_true rfl) dL_law_593 hc1 (fun H hP hS => ?_)
    refine lv_istore (lv' := [(5, .int (nI 1)), (0, .ref b), (1, .ref (a 0)), (2, .ref (d 0)), (3, .ref o), (4, .int (nI i))]) S.1 S.2.1 dL_law_596 hl (by decide) rfl (fun ls hl => ?_)
    refine lv_aload_n S.1 S.2.1 dL_law_598 rfl (lv_at hl 3 rfl) ?_
    refine lv_aload_n S.1 S.2.1 dL_law_599 rfl (lv_at hl 1 rfl) ?_
    refine lv_iload S.1 S.2.1 dL_law_600 (lv_at hl 5 rfl) ?_
    refine lv_iconst (v := (nI 1)) S.1 S.2.1 dL_law_602 (by decide) ?_
    refine n_iadd (x := i) (y := 1) S dL_law_603 ?_
    refine n_sld (j := i + 1) S hX hbl hS (by omega) (by omega) dL_law_604 ?_
    refine lc_Y (As := [.int (xs (i + 1))]) (rest := []) S (kX1_beginsF l dC dI cI cZ cJ d th n mw nf sg fo L le sc li ba ca wa (xs (i + 1)) h1) hK hP hD hS rfl (va_recv hK hP (ci := 1) (q0 := 11) rfl rfl) gL_105 hdX1_begins (by decide) hl.1 rfl (Nat.le_of_ble_eq_true rfl) dL_law_605 hc1 (fun H locs hP hD hS => ?_)
    have hP : va_P (dC, dI) vcl (vX cI cZ a n mw nf sg fo L le sc li ba ca st ++ ([oc o cJ f] ++ vY cI cZ d 1 n mw nf sg fo L le sc li ba ca wa)) H := hP
    have hD : va_D (fun q => s.heap.size ≤ q) (vX cI cZ a n mw nf sg fo L le sc li ba ca st ++ ([oc o cJ f] ++ vY cI cZ d 1 n mw nf sg fo L le sc li ba ca wa)) := hD
    refine lv_istore (lv' := [(6, .int (nI 0)), (5, .int (nI 1)), (0, .ref b), (1, .ref (a 0)), (2, .ref (d 0)), (3, .ref o), (4, .int (nI i))]) S.1 S.2.1 dL_law_608 hl (by decide) rfl (fun ls hl => ?_)
    refine lv_aload_n S.1 S.2.1 dL_law_610 rfl (lv_at hl 4 rfl) ?_
    refine rd_callV (C := RX1) (As := []) (rest := []) S (kX1_thrown l dC dI cI cZ cJ d 1 n mw nf sg fo L le sc li ba ca wa) rB_blind (fun U hU hW => ⟨by rw [hU]; exact lsY hP, va_K.moved hW.alike hK⟩) (va_recv hK hP (ci := 1) (q0 := 11) rfl rfl) gL_76 hdX1_thrown (by decide) hl.1 rfl (Nat.le_of_ble_eq_true rfl) dL_law_611 hc1 ?_
    refine lv_iload S.1 S.2.1 dL_law_614 (lv_at hl 1 rfl) ?_
    refine lv_icmp_eq (tgt := 621) S.1 S.2.1 dL_law_616 (by decide) (fun _ => ?_) (fun h => absurd rfl h)
    refine lv_iload S.1 S.2.1 dL_law_621 (lv_at hl 1 rfl) ?_
    refine lv_if_ne (tgt := 638) S.1 S.2.1 dL_law_623 (by decide) (fun _ => ?_) (fun h => absurd h (by decide))
    refine lv_goto (tgt := 1081) S.1 S.2.1 dL_law_638 (by decide) ?_
    exact kk 1 n mw nf sg fo L le sc li ba ca st wa f hI H locs hP hD hS ls (lv_sub hl [2, 3, 4, 5, 6] rfl)
  · refine lv_aload_n S.1 S.2.1 dL_law_585 rfl (lv_at hl 1 rfl) ?_
    refine lv_aload_n S.1 S.2.1 dL_law_586 rfl (lv_at hl 0 rfl) ?_
    refine lv_iload S.1 S.2.1 dL_law_587 (lv_at hl 4 rfl) ?_
    refine lv_iconst (v := (nI 1)) S.1 S.2.1 dL_law_589 (by decide) ?_
    refine n_iadd (x := i) (y := 1) S dL_law_590 ?_
    refine n_sld (j := i + 1) S hX hbl hS (by omega) (by omega) dL_law_591 ?_
    rw [hu1]
    refine lv_aload_n S.1 S.2.1 dL_law_592 rfl (lv_at hl 3 rfl) ?_
    refine lc_W (As := [.ref (a 0), .int (nI t), .ref o]) (rest := []) S (kL_begins l dC dI cI cZ cJ a n mw nf sg fo L le sc li ba ca st o f t hI h1) hK hP hD hS (fun _ => rfl) hw_begins hdL_begins (by decide) hl.1 rfl (Nat.le_of_ble_eq_true rfl) dL_law_593 hc0 (fun _ H locs hP hD hS => ?_)
    have hP : va_P (dC, dI) vcl ((vX cI cZ a n mw nf sg fo L le sc li ba ca st ++ [oc o cJ (vp_updL f 0 (Int32.toInt64 (nI (cnt (bgn n sg fo L le li ba t) mw))))]) ++ vY cI cZ d th n mw nf sg fo L le sc li ba ca wa) H := hP
    have hD : va_D (fun q => s.heap.size ≤ q) ((vX cI cZ a n mw nf sg fo L le sc li ba ca st ++ [oc o cJ (vp_updL f 0 (Int32.toInt64 (nI (cnt (bgn n sg fo L le li ba t) mw))))]) ++ vY cI cZ d th n mw nf sg fo L le sc li ba ca wa) := hD
    rw [List.append_assoc] at hP hD
    refine lv_istore (lv' := [(5, .int (nI 0)), (0, .ref b), (1, .ref (a 0)), (2, .ref (d 0)), (3, .ref o), (4, .int (nI i))]) S.1 S.2.1 dL_law_596 hl (by decide) rfl (fun ls hl => ?_)
    refine lv_aload_n S.1 S.2.1 dL_law_598 rfl (lv_at hl 3 rfl) ?_
    refine lv_aload_n S.1 S.2.1 dL_law_599 rfl (lv_at hl 1 rfl) ?_
    refine lv_iload S.1 S.2.1 dL_law_600 (lv_at hl 5 rfl) ?_
    refine lv_iconst (v := (nI 1)) S.1 S.2.1 dL_law_602 (by decide) ?_
    refine n_iadd (x := i) (y := 1) S dL_law_603 ?_
    refine n_sld (j := i + 1) S hX hbl hS (by omega) (by omega) dL_law_604 ?_
    rw [hu1]
    refine lc_Y (As := [.int (nI t)]) (rest := []) S (kX1_begins l dC dI cI cZ cJ d th n mw nf sg fo L le sc li ba ca wa t hI h1) hK hP hD hS rfl (va_recv hK hP (ci := 1) (q0 := 11) rfl rfl) gL_105 hdX1_begins (by decide) hl.1 rfl (Nat.le_of_ble_eq_true rfl) dL_law_605 hc0 (fun H locs hP hD hS => ?_)
    have hP : va_P (dC, dI) vcl (vX cI cZ a n mw nf sg fo L le sc li ba ca st ++ ([oc o cJ (vp_updL f 0 (Int32.toInt64 (nI (cnt (bgn n sg fo L le li ba t) mw))))] ++ vY cI cZ d 0 n mw nf sg fo L le sc li ba ca wa)) H := hP
    have hD : va_D (fun q => s.heap.size ≤ q) (vX cI cZ a n mw nf sg fo L le sc li ba ca st ++ ([oc o cJ (vp_updL f 0 (Int32.toInt64 (nI (cnt (bgn n sg fo L le li ba t) mw))))] ++ vY cI cZ d 0 n mw nf sg fo L le sc li ba ca wa)) := hD
    refine lv_istore (lv' := [(6, .int (nI (cnt (bgn n sg fo L le li ba t) mw))), (5, .int (nI 0)), (0, .ref b), (1, .ref (a 0)), (2, .ref (d 0)), (3, .ref o), (4, .int (nI i))]) S.1 S.2.1 dL_law_608 hl (by decide) rfl (fun ls hl => ?_)
    refine lv_aload_n S.1 S.2.1 dL_law_610 rfl (lv_at hl 4 rfl) ?_
    refine rd_callV (C := RX1) (As := []) (rest := []) S (kX1_thrown l dC dI cI cZ cJ d 0 n mw nf sg fo L le sc li ba ca wa) rB_blind (fun U hU hW => ⟨by rw [hU]; exact lsY hP, va_K.moved hW.alike hK⟩) (va_recv hK hP (ci := 1) (q0 := 11) rfl rfl) gL_76 hdX1_thrown (by decide) hl.1 rfl (Nat.le_of_ble_eq_true rfl) dL_law_611 hc0 ?_
    refine lv_iload S.1 S.2.1 dL_law_614 (lv_at hl 1 rfl) ?_
    refine lv_icmp_eq (tgt := 621) S.1 S.2.1 dL_law_616 (by decide) (fun _ => ?_) (fun h => absurd rfl h)
    refine lv_iload S.1 S.2.1 dL_law_621 (lv_at hl 1 rfl) ?_
    refine lv_if_ne (tgt := 638) S.1 S.2.1 dL_law_623 (by decide) (fun h => absurd (by decide) h) (fun _ => ?_)
    refine lv_aload_n S.1 S.2.1 dL_law_626 rfl (lv_at hl 5 rfl) ?_
    refine lv_iconst (v := (nI 0)) S.1 S.2.1 dL_law_627 (by decide) ?_
    refine n_lald S hK hP 10 2 rfl rfl dL_law_628 ?_
    refine lv_iload S.1 S.2.1 dL_law_629 (lv_at hl 0 rfl) ?_
    refine lv_i2l (v := Int32.toInt64 (nI (cnt (bgn n sg fo L le li ba t) mw))) S.1 S.2.1 dL_law_631 rfl ?_
    refine n_lcmp S dL_law_632 ?_
    refine lv_if_eq (tgt := 638) S.1 S.2.1 dL_law_633 (by decide) (fun _ => ?_) (fun h => absurd rfl h)
    refine lv_goto (tgt := 1081) S.1 S.2.1 dL_law_638 (by decide) ?_
    refine W.widen (k := cells + 1) (n := slots + 6) (by omega) (by omega) ?_
    exact kk 0 n mw nf sg fo L le sc li ba ca st wa (vp_updL f 0 (Int32.toInt64 (nI (cnt (bgn n sg fo L le li ba t) mw)))) hI H locs hP hD hS ls (lv_sub hl [2, 3, 4, 5, 6] rfl)

set_option maxRecDepth 100000 in
set_option maxHeartbeats 4000000 in
theorem lc_ends {p : Program} {l : Launch} {e : Env} {s : State} {m : MethodId} {below : List Frame} {meth : Method} {c : Code} {dC : Nat → ClassId} {dI : Nat → Nat → Nat} {cI cZ cJ : ClassId} {a d : Nat → Nat} {o b i cells slots Ln : Nat} {xs : Nat → Int32} (hfl : l.flags = flags0) (S : CallFix p m c cL_law 7 s #[Value.ref b] tbG RL) (ht : twS s) (hK : va_K (dC, dI) vcl (vty cI cZ cJ) s) (hX : va_X b Ln xs s s.heap) (hbl : b < s.heap.size) (hLn : Ln ≤ 2560) (hi5 : i + 5 ≤ Ln) (hc1 : cells + 1 ≤ room_1.cells ∧ slots + 6 ≤ room_1.slots)
    (kk : lK p l e s m below meth c dC dI cI cZ cJ a d o b i cells slots) (th n mw nf : Nat) (sg fo L le sc li ba ca st : Nat → Nat) (wa : Nat → Int32) (f : Nat → Int64) (hI : iv n mw nf sg fo L le sc li ba ca) (H : Heap) (locs : List Loc) (hP : va_P (dC, dI) vcl (vX cI cZ a n mw nf sg fo L le sc li ba ca st ++ ([oc o cJ f] ++ vY cI cZ d th n mw nf sg fo L le sc li ba ca wa)) H) (hD : va_D (fun q => s.heap.size ≤ q) (vX cI cZ a n mw nf sg fo L le sc li ba ca st ++ ([oc o cJ f] ++ vY cI cZ d th n mw nf sg fo L le sc li ba ca wa))) (hS : va_S (fun q => s.heap.size ≤ q) s.heap H locs)
    (ls : Array Slot) (hl : lv_has ls 7 [(0, .ref b), (1, .ref (a 0)), (2, .ref (d 0)), (3, .ref o), (4, .int (nI i))]) : W p l e room_1 s m #[Value.ref b] below meth c H locs cells slots (lw_Z below #[Value.ref b] s) (F0 m 641 ls []) := by
  have hc0 : cells ≤ room_1.cells ∧ slots ≤ room_1.slots := ⟨by omega, by omega⟩
  have hn := hI.1.1
  have hm := hI.1.2.1
  have hf := hI.1.2.2
  rcases sp_Li (xs (i + 1)) with h1 | ⟨t, h1, hu1⟩
  · refine lv_aload_n S.1 S.2.1 dL_law_641 rfl (lv_at hl 1 rfl) ?_
    refine lv_aload_n S.1 S.2.1 dL_law_642 rfl (lv_at hl 0 rfl) ?_
    refine lv_iload S.1 S.2.1 dL_law_643 (lv_at hl 4 rfl) ?_
    refine lv_iconst (v := (nI 1)) S.1 S.2.1 dL_law_645 (by decide) ?_
    refine n_iadd (x := i) (y := 1) S dL_law_646 ?_
    refine n_sld (j := i + 1) S hX hbl hS (by omega) (by omega) dL_law_647 ?_
    refine lv_aload_n S.1 S.2.1 dL_law_648 rfl (lv_at hl 3 rfl) ?_
    refine lc_T (As := [.ref (a 0), .int (xs (i + 1)), .ref o]) (rest := []) S ht (kL_endsE l dC dI cI cZ cJ a n mw nf sg fo L le sc li ba ca st o f hfl (xs (i + 1)) h1) hK hP hS hw_ends hdL_ends (by decide) hl.1 rfl (Nat.le_of_ble_eq_true rfl) dL_law_649 hc1 (fun H hP hS => ?_)
    refine lv_istore (lv' := [(5, .int (nI 1)), (0, .ref b), (1, .ref (a 0)), (2, .ref (d 0)), (3, .ref o), (4, .int (nI i))]) S.1 S.2.1 dL_law_652 hl (by decide) rfl (fun ls hl => ?_)
    refine lv_aload_n S.1 S.2.1 dL_law_654 rfl (lv_at hl 3 rfl) ?_
    refine lv_aload_n S.1 S.2.1 dL_law_655 rfl (lv_at hl 1 rfl) ?_
    refine lv_iload S.1 S.2.1 dL_law_656 (lv_at hl 5 rfl) ?_
    refine lv_iconst (v := (nI 1)) S.1 S.2.1 dL_law_658 (by decide) ?_
    refine n_iadd (x := i) (y := 1) S dL_law_659 ?_
    refine n_sld (j := i + 1) S hX hbl hS (by omega) (by omega) dL_law_660 ?_
    refine lc_Y (As := [.int (xs (i + 1))]) (rest := []) S (kX1_endsF l dC dI cI cZ cJ d th n mw nf sg fo L le sc li ba ca wa (xs (i + 1)) h1) hK hP hD hS rfl (va_recv hK hP (ci := 1) (q0 := 11) rfl rfl) gL_108 hdX1_ends (by decide) hl.1 rfl (Nat.le_of_ble_eq_true rfl) dL_law_661 hc1 (fun H locs hP hD hS => ?_)
    have hP : va_P (dC, dI) vcl (vX cI cZ a n mw nf sg fo L le sc li ba ca st ++ ([oc o cJ f] ++ vY cI cZ d 1 n mw nf sg fo L le sc li ba ca wa)) H := hP
    have hD : va_D (fun q => s.heap.size ≤ q) (vX cI cZ a n mw nf sg fo L le sc li ba ca st ++ ([oc o cJ f] ++ vY cI cZ d 1 n mw nf sg fo L le sc li ba ca wa)) := hD
    refine lv_istore (lv' := [(6, .int (nI 0)), (5, .int (nI 1)), (0, .ref b), (1, .ref (a 0)), (2, .ref (d 0)), (3, .ref o), (4, .int (nI i))]) S.1 S.2.1 dL_law_664 hl (by decide) rfl (fun ls hl => ?_)
    refine lv_aload_n S.1 S.2.1 dL_law_666 rfl (lv_at hl 4 rfl) ?_
    refine rd_callV (C := RX1) (As := []) (rest := []) S (kX1_thrown l dC dI cI cZ cJ d 1 n mw nf sg fo L le sc li ba ca wa) rB_blind (fun U hU hW => ⟨by rw [hU]; exact lsY hP, va_K.moved hW.alike hK⟩) (va_recv hK hP (ci := 1) (q0 := 11) rfl rfl) gL_76 hdX1_thrown (by decide) hl.1 rfl (Nat.le_of_ble_eq_true rfl) dL_law_667 hc1 ?_
    refine lv_iload S.1 S.2.1 dL_law_670 (lv_at hl 1 rfl) ?_
    refine lv_icmp_eq (tgt := 677) S.1 S.2.1 dL_law_672 (by decide) (fun _ => ?_) (fun h => absurd rfl h)
    refine lv_iload S.1 S.2.1 dL_law_677 (lv_at hl 1 rfl) ?_
    refine lv_if_ne (tgt := 694) S.1 S.2.1 dL_law_679 (by decide) (fun _ => ?_) (fun h => absurd h (by decide))
    refine lv_goto (tgt := 1081) S.1 S.2.1 dL_law_694 (by decide) ?_
    exact kk 1 n mw nf sg fo L le sc li ba ca st wa f hI H locs hP hD hS ls (lv_sub hl [2, 3, 4, 5, 6] rfl)
  · refine lv_aload_n S.1 S.2.1 dL_law_641 rfl (lv_at hl 1 rfl) ?_
    refine lv_aload_n S.1 S.2.1 dL_law_642 rfl (lv_at hl 0 rfl) ?_
    refine lv_iload S.1 S.2.1 dL_law_643 (lv_at hl 4 rfl) ?_
    refine lv_iconst (v := (nI 1)) S.1 S.2.1 dL_law_645 (by decide) ?_
    refine n_iadd (x := i) (y := 1) S dL_law_646 ?_
    refine n_sld (j := i + 1) S hX hbl hS (by omega) (by omega) dL_law_647 ?_
    rw [hu1]
    refine lv_aload_n S.1 S.2.1 dL_law_648 rfl (lv_at hl 3 rfl) ?_
    refine lc_W (As := [.ref (a 0), .int (nI t), .ref o]) (rest := []) S (kL_ends l dC dI cI cZ cJ a n mw nf sg fo L le sc li ba ca st o f t hI h1) hK hP hD hS (fun _ => rfl) hw_ends hdL_ends (by decide) hl.1 rfl (Nat.le_of_ble_eq_true rfl) dL_law_649 hc0 (fun _ H locs hP hD hS => ?_)
    have hP : va_P (dC, dI) vcl ((vX cI cZ a n mw nf sg fo L le sc li ba ca st ++ [oc o cJ (vp_updL f 0 (Int32.toInt64 (nI (cnt (edn n sg fo L le li ba t) mw))))]) ++ vY cI cZ d th n mw nf sg fo L le sc li ba ca wa) H := hP
    have hD : va_D (fun q => s.heap.size ≤ q) ((vX cI cZ a n mw nf sg fo L le sc li ba ca st ++ [oc o cJ (vp_updL f 0 (Int32.toInt64 (nI (cnt (edn n sg fo L le li ba t) mw))))]) ++ vY cI cZ d th n mw nf sg fo L le sc li ba ca wa) := hD
    rw [List.append_assoc] at hP hD
    refine lv_istore (lv' := [(5, .int (nI 0)), (0, .ref b), (1, .ref (a 0)), (2, .ref (d 0)), (3, .ref o), (4, .int (nI i))]) S.1 S.2.1 dL_law_652 hl (by decide) rfl (fun ls hl => ?_)
    refine lv_aload_n S.1 S.2.1 dL_law_654 rfl (lv_at hl 3 rfl) ?_
    refine lv_aload_n S.1 S.2.1 dL_law_655 rfl (lv_at hl 1 rfl) ?_
    refine lv_iload S.1 S.2.1 dL_law_656 (lv_at hl 5 rfl) ?_
    refine lv_iconst (v := (nI 1)) S.1 S.2.1 dL_law_658 (by decide) ?_
    refine n_iadd (x := i) (y := 1) S dL_law_659 ?_
    refine n_sld (j := i + 1) S hX hbl hS (by omega) (by omega) dL_law_660 ?_
    rw [hu1]
    refine lc_Y (As := [.int (nI t)]) (rest := []) S (kX1_ends l dC dI cI cZ cJ d th n mw nf sg fo L le sc li ba ca wa t hI h1) hK hP hD hS rfl (va_recv hK hP (ci := 1) (q0 := 11) rfl rfl) gL_108 hdX1_ends (by decide) hl.1 rfl (Nat.le_of_ble_eq_true rfl) dL_law_661 hc0 (fun H locs hP hD hS => ?_)
    have hP : va_P (dC, dI) vcl (vX cI cZ a n mw nf sg fo L le sc li ba ca st ++ ([oc o cJ (vp_updL f 0 (Int32.toInt64 (nI (cnt (edn n sg fo L le li ba t) mw))))] ++ vY cI cZ d 0 n mw nf sg fo L le sc li ba ca wa)) H := hP
    have hD : va_D (fun q => s.heap.size ≤ q) (vX cI cZ a n mw nf sg fo L le sc li ba ca st ++ ([oc o cJ (vp_updL f 0 (Int32.toInt64 (nI (cnt (edn n sg fo L le li ba t) mw))))] ++ vY cI cZ d 0 n mw nf sg fo L le sc li ba ca wa)) := hD
    refine lv_istore (lv' := [(6, .int (nI (cnt (edn n sg fo L le li ba t) mw))), (5, .int (nI 0)), (0, .ref b), (1, .ref (a 0)), (2, .ref (d 0)), (3, .ref o), (4, .int (nI i))]) S.1 S.2.1 dL_law_664 hl (by decide) rfl (fun ls hl => ?_)
    refine lv_aload_n S.1 S.2.1 dL_law_666 rfl (lv_at hl 4 rfl) ?_
    refine rd_callV (C := RX1) (As := []) (rest := []) S (kX1_thrown l dC dI cI cZ cJ d 0 n mw nf sg fo L le sc li ba ca wa) rB_blind (fun U hU hW => ⟨by rw [hU]; exact lsY hP, va_K.moved hW.alike hK⟩) (va_recv hK hP (ci := 1) (q0 := 11) rfl rfl) gL_76 hdX1_thrown (by decide) hl.1 rfl (Nat.le_of_ble_eq_true rfl) dL_law_667 hc0 ?_
    refine lv_iload S.1 S.2.1 dL_law_670 (lv_at hl 1 rfl) ?_
    refine lv_icmp_eq (tgt := 677) S.1 S.2.1 dL_law_672 (by decide) (fun _ => ?_) (fun h => absurd rfl h)
    refine lv_iload S.1 S.2.1 dL_law_677 (lv_at hl 1 rfl) ?_
    refine lv_if_ne (tgt := 694) S.1 S.2.1 dL_law_679 (by decide) (fun h => absurd (by decide) h) (fun _ => ?_)
    refine lv_aload_n S.1 S.2.1 dL_law_682 rfl (lv_at hl 5 rfl) ?_
    refine lv_iconst (v := (nI 0)) S.1 S.2.1 dL_law_683 (by decide) ?_
    refine n_lald S hK hP 10 2 rfl rfl dL_law_684 ?_
    refine lv_iload S.1 S.2.1 dL_law_685 (lv_at hl 0 rfl) ?_
    refine lv_i2l (v := Int32.toInt64 (nI (cnt (edn n sg fo L le li ba t) mw))) S.1 S.2.1 dL_law_687 rfl ?_
    refine n_lcmp S dL_law_688 ?_
    refine lv_if_eq (tgt := 694) S.1 S.2.1 dL_law_689 (by decide) (fun _ => ?_) (fun h => absurd rfl h)
    refine lv_goto (tgt := 1081) S.1 S.2.1 dL_law_694 (by decide) ?_
    refine W.widen (k := cells + 1) (n := slots + 6) (by omega) (by omega) ?_
    exact kk 0 n mw nf sg fo L le sc li ba ca st wa (vp_updL f 0 (Int32.toInt64 (nI (cnt (edn n sg fo L le li ba t) mw)))) hI H locs hP hD hS ls (lv_sub hl [2, 3, 4, 5, 6] rfl)

set_option maxRecDepth 100000 in
set_option maxHeartbeats 4000000 in
theorem lc_mixed {p : Program} {l : Launch} {e : Env} {s : State} {m : MethodId} {below : List Frame} {meth : Method} {c : Code} {dC : Nat → ClassId} {dI : Nat → Nat → Nat} {cI cZ cJ : ClassId} {a d : Nat → Nat} {o b i cells slots Ln : Nat} {xs : Nat → Int32} (hfl : l.flags = flags0) (S : CallFix p m c cL_law 7 s #[Value.ref b] tbG RL) (ht : twS s) (hK : va_K (dC, dI) vcl (vty cI cZ cJ) s) (hX : va_X b Ln xs s s.heap) (hbl : b < s.heap.size) (hLn : Ln ≤ 2560) (hi5 : i + 5 ≤ Ln) (hc1 : cells + 1 ≤ room_1.cells ∧ slots + 6 ≤ room_1.slots)
    (kk : lK p l e s m below meth c dC dI cI cZ cJ a d o b i cells slots) (th n mw nf : Nat) (sg fo L le sc li ba ca st : Nat → Nat) (wa : Nat → Int32) (f : Nat → Int64) (hI : iv n mw nf sg fo L le sc li ba ca) (H : Heap) (locs : List Loc) (hP : va_P (dC, dI) vcl (vX cI cZ a n mw nf sg fo L le sc li ba ca st ++ ([oc o cJ f] ++ vY cI cZ d th n mw nf sg fo L le sc li ba ca wa)) H) (hD : va_D (fun q => s.heap.size ≤ q) (vX cI cZ a n mw nf sg fo L le sc li ba ca st ++ ([oc o cJ f] ++ vY cI cZ d th n mw nf sg fo L le sc li ba ca wa))) (hS : va_S (fun q => s.heap.size ≤ q) s.heap H locs)
    (ls : Array Slot) (hl : lv_has ls 7 [(0, .ref b), (1, .ref (a 0)), (2, .ref (d 0)), (3, .ref o), (4, .int (nI i))]) : W p l e room_1 s m #[Value.ref b] below meth c H locs cells slots (lw_Z below #[Value.ref b] s) (F0 m 697 ls []) := by
  have hc0 : cells ≤ room_1.cells ∧ slots ≤ room_1.slots := ⟨by omega, by omega⟩
  have hn := hI.1.1
  have hm := hI.1.2.1
  have hf := hI.1.2.2
  rcases sp_Li (xs (i + 1)) with h1 | ⟨t, h1, hu1⟩
  · refine lv_aload_n S.1 S.2.1 dL_law_697 rfl (lv_at hl 1 rfl) ?_
    refine lv_aload_n S.1 S.2.1 dL_law_698 rfl (lv_at hl 0 rfl) ?_
    refine lv_iload S.1 S.2.1 dL_law_699 (lv_at hl 4 rfl) ?_
    refine lv_iconst (v := (nI 1)) S.1 S.2.1 dL_law_701 (by decide) ?_
    refine n_iadd (x := i) (y := 1) S dL_law_702 ?_
    refine n_sld (j := i + 1) S hX hbl hS (by omega) (by omega) dL_law_703 ?_
    refine lv_aload_n S.1 S.2.1 dL_law_704 rfl (lv_at hl 3 rfl) ?_
    refine lc_T (As := [.ref (a 0), .int (xs (i + 1)), .ref o]) (rest := []) S ht (kL_mixedE l dC dI cI cZ cJ a n mw nf sg fo L le sc li ba ca st o f hfl (xs (i + 1)) h1) hK hP hS hw_mixed hdL_mixed (by decide) hl.1 rfl (Nat.le_of_ble_eq_true rfl) dL_law_705 hc1 (fun H hP hS => ?_)
    refine lv_istore (lv' := [(5, .int (nI 1)), (0, .ref b), (1, .ref (a 0)), (2, .ref (d 0)), (3, .ref o), (4, .int (nI i))]) S.1 S.2.1 dL_law_708 hl (by decide) rfl (fun ls hl => ?_)
    refine lv_aload_n S.1 S.2.1 dL_law_710 rfl (lv_at hl 3 rfl) ?_
    refine lv_aload_n S.1 S.2.1 dL_law_711 rfl (lv_at hl 1 rfl) ?_
    refine lv_iload S.1 S.2.1 dL_law_712 (lv_at hl 5 rfl) ?_
    refine lv_iconst (v := (nI 1)) S.1 S.2.1 dL_law_714 (by decide) ?_
    refine n_iadd (x := i) (y := 1) S dL_law_715 ?_
    refine n_sld (j := i + 1) S hX hbl hS (by omega) (by omega) dL_law_716 ?_
    refine lc_Y (As := [.int (xs (i + 1))]) (rest := []) S (kX1_mixedF l dC dI cI cZ cJ d th n mw nf sg fo L le sc li ba ca wa (xs (i + 1)) h1) hK hP hD hS rfl (va_recv hK hP (ci := 1) (q0 := 11) rfl rfl) gL_111 hdX1_mixed (by decide) hl.1 rfl (Nat.le_of_ble_eq_true rfl) dL_law_717 hc1 (fun H locs hP hD hS => ?_)
    have hP : va_P (dC, dI) vcl (vX cI cZ a n mw nf sg fo L le sc li ba ca st ++ ([oc o cJ f] ++ vY cI cZ d 1 n mw nf sg fo L le sc li ba ca wa)) H := hP
    have hD : va_D (fun q => s.heap.size ≤ q) (vX cI cZ a n mw nf sg fo L le sc li ba ca st ++ ([oc o cJ f] ++ vY cI cZ d 1 n mw nf sg fo L le sc li ba ca wa)) := hD
    refine lv_istore (lv' := [(6, .int (nI 0)), (5, .int (nI 1)), (0, .ref b), (1, .ref (a 0)), (2, .ref (d 0)), (3, .ref o), (4, .int (nI i))]) S.1 S.2.1 dL_law_720 hl (by decide) rfl (fun ls hl => ?_)
    refine lv_aload_n S.1 S.2.1 dL_law_722 rfl (lv_at hl 4 rfl) ?_
    refine rd_callV (C := RX1) (As := []) (rest := []) S (kX1_thrown l dC dI cI cZ cJ d 1 n mw nf sg fo L le sc li ba ca wa) rB_blind (fun U hU hW => ⟨by rw [hU]; exact lsY hP, va_K.moved hW.alike hK⟩) (va_recv hK hP (ci := 1) (q0 := 11) rfl rfl) gL_76 hdX1_thrown (by decide) hl.1 rfl (Nat.le_of_ble_eq_true rfl) dL_law_723 hc1 ?_
    refine lv_iload S.1 S.2.1 dL_law_726 (lv_at hl 1 rfl) ?_
    refine lv_icmp_eq (tgt := 733) S.1 S.2.1 dL_law_728 (by decide) (fun _ => ?_) (fun h => absurd rfl h)
    refine lv_iload S.1 S.2.1 dL_law_733 (lv_at hl 1 rfl) ?_
    refine lv_if_ne (tgt := 750) S.1 S.2.1 dL_law_735 (by decide) (fun _ => ?_) (fun h => absurd h (by decide))
    refine lv_goto (tgt := 1081) S.1 S.2.1 dL_law_750 (by decide) ?_
    exact kk 1 n mw nf sg fo L le sc li ba ca st wa f hI H locs hP hD hS ls (lv_sub hl [2, 3, 4, 5, 6] rfl)
  · refine lv_aload_n S.1 S.2.1 dL_law_697 rfl (lv_at hl 1 rfl) ?_
    refine lv_aload_n S.1 S.2.1 dL_law_698 rfl (lv_at hl 0 rfl) ?_
    refine lv_iload S.1 S.2.1 dL_law_699 (lv_at hl 4 rfl) ?_
    refine lv_iconst (v := (nI 1)) S.1 S.2.1 dL_law_701 (by decide) ?_
    refine n_iadd (x := i) (y := 1) S dL_law_702 ?_
    refine n_sld (j := i + 1) S hX hbl hS (by omega) (by omega) dL_law_703 ?_
    rw [hu1]
    refine lv_aload_n S.1 S.2.1 dL_law_704 rfl (lv_at hl 3 rfl) ?_
    refine lc_W (As := [.ref (a 0), .int (nI t), .ref o]) (rest := []) S (kL_mixed l dC dI cI cZ cJ a n mw nf sg fo L le sc li ba ca st o f t hI h1) hK hP hD hS (fun _ => rfl) hw_mixed hdL_mixed (by decide) hl.1 rfl (Nat.le_of_ble_eq_true rfl) dL_law_705 hc0 (fun zx H locs hP hD hS => ?_)
    have hP : va_P (dC, dI) vcl ((vX cI cZ a n mw nf sg fo L le sc li ba ca zx ++ [oc o cJ (vp_updL f 0 (Int32.toInt64 (nI (cnt (mxP n sg fo L le li ba t) mw))))]) ++ vY cI cZ d th n mw nf sg fo L le sc li ba ca wa) H := hP
    have hD : va_D (fun q => s.heap.size ≤ q) ((vX cI cZ a n mw nf sg fo L le sc li ba ca zx ++ [oc o cJ (vp_updL f 0 (Int32.toInt64 (nI (cnt (mxP n sg fo L le li ba t) mw))))]) ++ vY cI cZ d th n mw nf sg fo L le sc li ba ca wa) := hD
    rw [List.append_assoc] at hP hD
    refine lv_istore (lv' := [(5, .int (nI 0)), (0, .ref b), (1, .ref (a 0)), (2, .ref (d 0)), (3, .ref o), (4, .int (nI i))]) S.1 S.2.1 dL_law_708 hl (by decide) rfl (fun ls hl => ?_)
    refine lv_aload_n S.1 S.2.1 dL_law_710 rfl (lv_at hl 3 rfl) ?_
    refine lv_aload_n S.1 S.2.1 dL_law_711 rfl (lv_at hl 1 rfl) ?_
    refine lv_iload S.1 S.2.1 dL_law_712 (lv_at hl 5 rfl) ?_
    refine lv_iconst (v := (nI 1)) S.1 S.2.1 dL_law_714 (by decide) ?_
    refine n_iadd (x := i) (y := 1) S dL_law_715 ?_
    refine n_sld (j := i + 1) S hX hbl hS (by omega) (by omega) dL_law_716 ?_
    rw [hu1]
    refine lc_YE (As := [.int (nI t)]) (rest := []) S (kX1_mixed l dC dI cI cZ cJ d th n mw nf sg fo L le sc li ba ca wa t hI h1) hK hP hD hS (fun _ => rfl) (va_recv hK hP (ci := 1) (q0 := 11) rfl rfl) gL_111 hdX1_mixed (by decide) hl.1 rfl (Nat.le_of_ble_eq_true rfl) dL_law_717 hc0 (fun zy H locs hP hD hS => ?_)
    have hP : va_P (dC, dI) vcl (vX cI cZ a n mw nf sg fo L le sc li ba ca zx ++ ([oc o cJ (vp_updL f 0 (Int32.toInt64 (nI (cnt (mxP n sg fo L le li ba t) mw))))] ++ vY cI cZ d 0 n mw nf sg fo L le sc li ba ca zy)) H := hP
    have hD : va_D (fun q => s.heap.size ≤ q) (vX cI cZ a n mw nf sg fo L le sc li ba ca zx ++ ([oc o cJ (vp_updL f 0 (Int32.toInt64 (nI (cnt (mxP n sg fo L le li ba t) mw))))] ++ vY cI cZ d 0 n mw nf sg fo L le sc li ba ca zy)) := hD
    refine lv_istore (lv' := [(6, .int (nI (cnt (mxP n sg fo L le li ba t) mw))), (5, .int (nI 0)), (0, .ref b), (1, .ref (a 0)), (2, .ref (d 0)), (3, .ref o), (4, .int (nI i))]) S.1 S.2.1 dL_law_720 hl (by decide) rfl (fun ls hl => ?_)
    refine lv_aload_n S.1 S.2.1 dL_law_722 rfl (lv_at hl 4 rfl) ?_
    refine rd_callV (C := RX1) (As := []) (rest := []) S (kX1_thrown l dC dI cI cZ cJ d 0 n mw nf sg fo L le sc li ba ca zy) rB_blind (fun U hU hW => ⟨by rw [hU]; exact lsY hP, va_K.moved hW.alike hK⟩) (va_recv hK hP (ci := 1) (q0 := 11) rfl rfl) gL_76 hdX1_thrown (by decide) hl.1 rfl (Nat.le_of_ble_eq_true rfl) dL_law_723 hc0 ?_
    refine lv_iload S.1 S.2.1 dL_law_726 (lv_at hl 1 rfl) ?_
    refine lv_icmp_eq (tgt := 733) S.1 S.2.1 dL_law_728 (by decide) (fun _ => ?_) (fun h => absurd rfl h)
    refine lv_iload S.1 S.2.1 dL_law_733 (lv_at hl 1 rfl) ?_
    refine lv_if_ne (tgt := 750) S.1 S.2.1 dL_law_735 (by decide) (fun h => absurd (by decide) h) (fun _ => ?_)
    refine lv_aload_n S.1 S.2.1 dL_law_738 rfl (lv_at hl 5 rfl) ?_
    refine lv_iconst (v := (nI 0)) S.1 S.2.1 dL_law_739 (by decide) ?_
    refine n_lald S hK hP 10 2 rfl rfl dL_law_740 ?_
    refine lv_iload S.1 S.2.1 dL_law_741 (lv_at hl 0 rfl) ?_
    refine lv_i2l (v := Int32.toInt64 (nI (cnt (mxP n sg fo L le li ba t) mw))) S.1 S.2.1 dL_law_743 rfl ?_
    refine n_lcmp S dL_law_744 ?_
    refine lv_if_eq (tgt := 750) S.1 S.2.1 dL_law_745 (by decide) (fun _ => ?_) (fun h => absurd rfl h)
    refine lv_goto (tgt := 1081) S.1 S.2.1 dL_law_750 (by decide) ?_
    refine W.widen (k := cells + 1) (n := slots + 6) (by omega) (by omega) ?_
    exact kk 0 n mw nf sg fo L le sc li ba ca zx zy (vp_updL f 0 (Int32.toInt64 (nI (cnt (mxP n sg fo L le li ba t) mw)))) hI H locs hP hD hS ls (lv_sub hl [2, 3, 4, 5, 6] rfl)

set_option maxRecDepth 100000 in
set_option maxHeartbeats 4000000 in
theorem lc_many {p : Program} {l : Launch} {e : Env} {s : State} {m : MethodId} {below : List Frame} {meth : Method} {c : Code} {dC : Nat → ClassId} {dI : Nat → Nat → Nat} {cI cZ cJ : ClassId} {a d : Nat → Nat} {o b i cells slots Ln : Nat} {xs : Nat → Int32} (hfl : l.flags = flags0) (S : CallFix p m c cL_law 7 s #[Value.ref b] tbG RL) (ht : twS s) (hK : va_K (dC, dI) vcl (vty cI cZ cJ) s) (hX : va_X b Ln xs s s.heap) (hbl : b < s.heap.size) (hLn : Ln ≤ 2560) (hi5 : i + 5 ≤ Ln) (hc1 : cells + 1 ≤ room_1.cells ∧ slots + 6 ≤ room_1.slots)
    (kk : lK p l e s m below meth c dC dI cI cZ cJ a d o b i cells slots) (th n mw nf : Nat) (sg fo L le sc li ba ca st : Nat → Nat) (wa : Nat → Int32) (f : Nat → Int64) (hI : iv n mw nf sg fo L le sc li ba ca) (H : Heap) (locs : List Loc) (hP : va_P (dC, dI) vcl (vX cI cZ a n mw nf sg fo L le sc li ba ca st ++ ([oc o cJ f] ++ vY cI cZ d th n mw nf sg fo L le sc li ba ca wa)) H) (hD : va_D (fun q => s.heap.size ≤ q) (vX cI cZ a n mw nf sg fo L le sc li ba ca st ++ ([oc o cJ f] ++ vY cI cZ d th n mw nf sg fo L le sc li ba ca wa))) (hS : va_S (fun q => s.heap.size ≤ q) s.heap H locs)
    (ls : Array Slot) (hl : lv_has ls 7 [(0, .ref b), (1, .ref (a 0)), (2, .ref (d 0)), (3, .ref o), (4, .int (nI i))]) : W p l e room_1 s m #[Value.ref b] below meth c H locs cells slots (lw_Z below #[Value.ref b] s) (F0 m 753 ls []) := by
  have hc0 : cells ≤ room_1.cells ∧ slots ≤ room_1.slots := ⟨by omega, by omega⟩
  have hn := hI.1.1
  have hm := hI.1.2.1
  have hf := hI.1.2.2
  rcases sp_Li (xs (i + 1)) with h1 | ⟨t, h1, hu1⟩
  · refine lv_aload_n S.1 S.2.1 dL_law_753 rfl (lv_at hl 1 rfl) ?_
    refine lv_aload_n S.1 S.2.1 dL_law_754 rfl (lv_at hl 0 rfl) ?_
    refine lv_iload S.1 S.2.1 dL_law_755 (lv_at hl 4 rfl) ?_
    refine lv_iconst (v := (nI 1)) S.1 S.2.1 dL_law_757 (by decide) ?_
    refine n_iadd (x := i) (y := 1) S dL_law_758 ?_
    refine n_sld (j := i + 1) S hX hbl hS (by omega) (by omega) dL_law_759 ?_
    refine lv_aload_n S.1 S.2.1 dL_law_760 rfl (lv_at hl 0 rfl) ?_
    refine lv_iload S.1 S.2.1 dL_law_761 (lv_at hl 4 rfl) ?_
    refine lv_iconst (v := (nI 2)) S.1 S.2.1 dL_law_763 (by decide) ?_
    refine n_iadd (x := i) (y := 2) S dL_law_764 ?_
    refine n_sld (j := i + 2) S hX hbl hS (by omega) (by omega) dL_law_765 ?_
    refine lv_aload_n S.1 S.2.1 dL_law_766 rfl (lv_at hl 3 rfl) ?_
    refine lc_T (As := [.ref (a 0), .int (xs (i + 1)), .int (xs (i + 2)), .ref o]) (rest := []) S ht (kL_manyE l dC dI cI cZ cJ a n mw nf sg fo L le sc li ba ca st o f hfl (xs (i + 1)) (xs (i + 2)) h1) hK hP hS hw_many hdL_many (by decide) hl.1 rfl (Nat.le_of_ble_eq_true rfl) dL_law_767 hc1 (fun H hP hS => ?_)
    refine lv_istore (lv' := [(5, .int (nI 1)), (0, .ref b), (1, .ref (a 0)), (2, .ref (d 0)), (3, .ref o), (4, .int (nI i))]) S.1 S.2.1 dL_law_770 hl (by decide) rfl (fun ls hl => ?_)
    refine lv_aload_n S.1 S.2.1 dL_law_772 rfl (lv_at hl 3 rfl) ?_
    refine lv_aload_n S.1 S.2.1 dL_law_773 rfl (lv_at hl 1 rfl) ?_
    refine lv_iload S.1 S.2.1 dL_law_774 (lv_at hl 5 rfl) ?_
    refine lv_iconst (v := (nI 1)) S.1 S.2.1 dL_law_776 (by decide) ?_
    refine n_iadd (x := i) (y := 1) S dL_law_777 ?_
    refine n_sld (j := i + 1) S hX hbl hS (by omega) (by omega) dL_law_778 ?_
    refine lv_aload_n S.1 S.2.1 dL_law_779 rfl (lv_at hl 1 rfl) ?_
    refine lv_iload S.1 S.2.1 dL_law_780 (lv_at hl 5 rfl) ?_
    refine lv_iconst (v := (nI 2)) S.1 S.2.1 dL_law_782 (by decide) ?_
    refine n_iadd (x := i) (y := 2) S dL_law_783 ?_
    refine n_sld (j := i + 2) S hX hbl hS (by omega) (by omega) dL_law_784 ?_
    refine lc_Y (As := [.int (xs (i + 1)), .int (xs (i + 2))]) (rest := []) S (kX1_manyF l dC dI cI cZ cJ d th n mw nf sg fo L le sc li ba ca wa (xs (i + 1)) (xs (i + 2)) h1) hK hP hD hS rfl (va_recv hK hP (ci := 1) (q0 := 11) rfl rfl) gL_114 hdX1_many (by decide) hl.1 rfl (Nat.le_of_ble_eq_true rfl) dL_law_785 hc1 (fun H locs hP hD hS => ?_)
    have hP : va_P (dC, dI) vcl (vX cI cZ a n mw nf sg fo L le sc li ba ca st ++ ([oc o cJ f] ++ vY cI cZ d 1 n mw nf sg fo L le sc li ba ca wa)) H := hP
    have hD : va_D (fun q => s.heap.size ≤ q) (vX cI cZ a n mw nf sg fo L le sc li ba ca st ++ ([oc o cJ f] ++ vY cI cZ d 1 n mw nf sg fo L le sc li ba ca wa)) := hD
    refine lv_istore (lv' := [(6, .int (nI 0)), (5, .int (nI 1)), (0, .ref b), (1, .ref (a 0)), (2, .ref (d 0)), (3, .ref o), (4, .int (nI i))]) S.1 S.2.1 dL_law_788 hl (by decide) rfl (fun ls hl => ?_)
    refine lv_aload_n S.1 S.2.1 dL_law_790 rfl (lv_at hl 4 rfl) ?_
    refine rd_callV (C := RX1) (As := []) (rest := []) S (kX1_thrown l dC dI cI cZ cJ d 1 n mw nf sg fo L le sc li ba ca wa) rB_blind (fun U hU hW => ⟨by rw [hU]; exact lsY hP, va_K.moved hW.alike hK⟩) (va_recv hK hP (ci := 1) (q0 := 11) rfl rfl) gL_76 hdX1_thrown (by decide) hl.1 rfl (Nat.le_of_ble_eq_true rfl) dL_law_791 hc1 ?_
    refine lv_iload S.1 S.2.1 dL_law_794 (lv_at hl 1 rfl) ?_
    refine lv_icmp_eq (tgt := 801) S.1 S.2.1 dL_law_796 (by decide) (fun _ => ?_) (fun h => absurd rfl h)
    refine lv_iload S.1 S.2.1 dL_law_801 (lv_at hl 1 rfl) ?_
    refine lv_if_ne (tgt := 818) S.1 S.2.1 dL_law_803 (by decide) (fun _ => ?_) (fun h => absurd h (by decide))
    refine lv_goto (tgt := 1081) S.1 S.2.1 dL_law_818 (by decide) ?_
    exact kk 1 n mw nf sg fo L le sc li ba ca st wa f hI H locs hP hD hS ls (lv_sub hl [2, 3, 4, 5, 6] rfl)
  · refine lv_aload_n S.1 S.2.1 dL_law_753 rfl (lv_at hl 1 rfl) ?_
    refine lv_aload_n S.1 S.2.1 dL_law_754 rfl (lv_at hl 0 rfl) ?_
    refine lv_iload S.1 S.2.1 dL_law_755 (lv_at hl 4 rfl) ?_
    refine lv_iconst (v := (nI 1)) S.1 S.2.1 dL_law_757 (by decide) ?_
    refine n_iadd (x := i) (y := 1) S dL_law_758 ?_
    refine n_sld (j := i + 1) S hX hbl hS (by omega) (by omega) dL_law_759 ?_
    rw [hu1]
    refine lv_aload_n S.1 S.2.1 dL_law_760 rfl (lv_at hl 0 rfl) ?_
    refine lv_iload S.1 S.2.1 dL_law_761 (lv_at hl 4 rfl) ?_
    refine lv_iconst (v := (nI 2)) S.1 S.2.1 dL_law_763 (by decide) ?_
    refine n_iadd (x := i) (y := 2) S dL_law_764 ?_
    refine n_sld (j := i + 2) S hX hbl hS (by omega) (by omega) dL_law_765 ?_
    refine lv_aload_n S.1 S.2.1 dL_law_766 rfl (lv_at hl 3 rfl) ?_
    refine lc_W (As := [.ref (a 0), .int (nI t), .int (xs (i + 2)), .ref o]) (rest := []) S (kL_many l dC dI cI cZ cJ a n mw nf sg fo L le sc li ba ca st o f t (xs (i + 2)) hI h1) hK hP hD hS (fun _ => rfl) hw_many hdL_many (by decide) hl.1 rfl (Nat.le_of_ble_eq_true rfl) dL_law_767 hc0 (fun _ H locs hP hD hS => ?_)
    have hP : va_P (dC, dI) vcl ((vX cI cZ a n mw nf sg fo L le sc li ba ca st ++ [oc o cJ (vp_updL f 0 (Int32.toInt64 (mny le li mw t (xs (i + 2)))))]) ++ vY cI cZ d th n mw nf sg fo L le sc li ba ca wa) H := hP
    have hD : va_D (fun q => s.heap.size ≤ q) ((vX cI cZ a n mw nf sg fo L le sc li ba ca st ++ [oc o cJ (vp_updL f 0 (Int32.toInt64 (mny le li mw t (xs (i + 2)))))]) ++ vY cI cZ d th n mw nf sg fo L le sc li ba ca wa) := hD
    rw [List.append_assoc] at hP hD
    refine lv_istore (lv' := [(5, .int (nI 0)), (0, .ref b), (1, .ref (a 0)), (2, .ref (d 0)), (3, .ref o), (4, .int (nI i))]) S.1 S.2.1 dL_law_770 hl (by decide) rfl (fun ls hl => ?_)
    refine lv_aload_n S.1 S.2.1 dL_law_772 rfl (lv_at hl 3 rfl) ?_
    refine lv_aload_n S.1 S.2.1 dL_law_773 rfl (lv_at hl 1 rfl) ?_
    refine lv_iload S.1 S.2.1 dL_law_774 (lv_at hl 5 rfl) ?_
    refine lv_iconst (v := (nI 1)) S.1 S.2.1 dL_law_776 (by decide) ?_
    refine n_iadd (x := i) (y := 1) S dL_law_777 ?_
    refine n_sld (j := i + 1) S hX hbl hS (by omega) (by omega) dL_law_778 ?_
    rw [hu1]
    refine lv_aload_n S.1 S.2.1 dL_law_779 rfl (lv_at hl 1 rfl) ?_
    refine lv_iload S.1 S.2.1 dL_law_780 (lv_at hl 5 rfl) ?_
    refine lv_iconst (v := (nI 2)) S.1 S.2.1 dL_law_782 (by decide) ?_
    refine n_iadd (x := i) (y := 2) S dL_law_783 ?_
    refine n_sld (j := i + 2) S hX hbl hS (by omega) (by omega) dL_law_784 ?_
    refine lc_Y (As := [.int (nI t), .int (xs (i + 2))]) (rest := []) S (kX1_many l dC dI cI cZ cJ d th n mw nf sg fo L le sc li ba ca wa t (xs (i + 2)) hI h1) hK hP hD hS rfl (va_recv hK hP (ci := 1) (q0 := 11) rfl rfl) gL_114 hdX1_many (by decide) hl.1 rfl (Nat.le_of_ble_eq_true rfl) dL_law_785 hc0 (fun H locs hP hD hS => ?_)
    have hP : va_P (dC, dI) vcl (vX cI cZ a n mw nf sg fo L le sc li ba ca st ++ ([oc o cJ (vp_updL f 0 (Int32.toInt64 (mny le li mw t (xs (i + 2)))))] ++ vY cI cZ d 0 n mw nf sg fo L le sc li ba ca wa)) H := hP
    have hD : va_D (fun q => s.heap.size ≤ q) (vX cI cZ a n mw nf sg fo L le sc li ba ca st ++ ([oc o cJ (vp_updL f 0 (Int32.toInt64 (mny le li mw t (xs (i + 2)))))] ++ vY cI cZ d 0 n mw nf sg fo L le sc li ba ca wa)) := hD
    refine lv_istore (lv' := [(6, .int (mny le li mw t (xs (i + 2)))), (5, .int (nI 0)), (0, .ref b), (1, .ref (a 0)), (2, .ref (d 0)), (3, .ref o), (4, .int (nI i))]) S.1 S.2.1 dL_law_788 hl (by decide) rfl (fun ls hl => ?_)
    refine lv_aload_n S.1 S.2.1 dL_law_790 rfl (lv_at hl 4 rfl) ?_
    refine rd_callV (C := RX1) (As := []) (rest := []) S (kX1_thrown l dC dI cI cZ cJ d 0 n mw nf sg fo L le sc li ba ca wa) rB_blind (fun U hU hW => ⟨by rw [hU]; exact lsY hP, va_K.moved hW.alike hK⟩) (va_recv hK hP (ci := 1) (q0 := 11) rfl rfl) gL_76 hdX1_thrown (by decide) hl.1 rfl (Nat.le_of_ble_eq_true rfl) dL_law_791 hc0 ?_
    refine lv_iload S.1 S.2.1 dL_law_794 (lv_at hl 1 rfl) ?_
    refine lv_icmp_eq (tgt := 801) S.1 S.2.1 dL_law_796 (by decide) (fun _ => ?_) (fun h => absurd rfl h)
    refine lv_iload S.1 S.2.1 dL_law_801 (lv_at hl 1 rfl) ?_
    refine lv_if_ne (tgt := 818) S.1 S.2.1 dL_law_803 (by decide) (fun h => absurd (by decide) h) (fun _ => ?_)
    refine lv_aload_n S.1 S.2.1 dL_law_806 rfl (lv_at hl 5 rfl) ?_
    refine lv_iconst (v := (nI 0)) S.1 S.2.1 dL_law_807 (by decide) ?_
    refine n_lald S hK hP 10 2 rfl rfl dL_law_808 ?_
    refine lv_iload S.1 S.2.1 dL_law_809 (lv_at hl 0 rfl) ?_
    refine lv_i2l (v := Int32.toInt64 (mny le li mw t (xs (i + 2)))) S.1 S.2.1 dL_law_811 rfl ?_
    refine n_lcmp S dL_law_812 ?_
    refine lv_if_eq (tgt := 818) S.1 S.2.1 dL_law_813 (by decide) (fun _ => ?_) (fun h => absurd rfl h)
    refine lv_goto (tgt := 1081) S.1 S.2.1 dL_law_818 (by decide) ?_
    refine W.widen (k := cells + 1) (n := slots + 6) (by omega) (by omega) ?_
    exact kk 0 n mw nf sg fo L le sc li ba ca st wa (vp_updL f 0 (Int32.toInt64 (mny le li mw t (xs (i + 2))))) hI H locs hP hD hS ls (lv_sub hl [2, 3, 4, 5, 6] rfl)

set_option maxRecDepth 100000 in
set_option maxHeartbeats 4000000 in
theorem lc_letters {p : Program} {l : Launch} {e : Env} {s : State} {m : MethodId} {below : List Frame} {meth : Method} {c : Code} {dC : Nat → ClassId} {dI : Nat → Nat → Nat} {cI cZ cJ : ClassId} {a d : Nat → Nat} {o b i cells slots Ln : Nat} {xs : Nat → Int32} (hfl : l.flags = flags0) (S : CallFix p m c cL_law 7 s #[Value.ref b] tbG RL) (ht : twS s) (hK : va_K (dC, dI) vcl (vty cI cZ cJ) s) (hX : va_X b Ln xs s s.heap) (hbl : b < s.heap.size) (hLn : Ln ≤ 2560) (hi5 : i + 5 ≤ Ln) (hc1 : cells + 1 ≤ room_1.cells ∧ slots + 6 ≤ room_1.slots)
    (kk : lK p l e s m below meth c dC dI cI cZ cJ a d o b i cells slots) (th n mw nf : Nat) (sg fo L le sc li ba ca st : Nat → Nat) (wa : Nat → Int32) (f : Nat → Int64) (hI : iv n mw nf sg fo L le sc li ba ca) (H : Heap) (locs : List Loc) (hP : va_P (dC, dI) vcl (vX cI cZ a n mw nf sg fo L le sc li ba ca st ++ ([oc o cJ f] ++ vY cI cZ d th n mw nf sg fo L le sc li ba ca wa)) H) (hD : va_D (fun q => s.heap.size ≤ q) (vX cI cZ a n mw nf sg fo L le sc li ba ca st ++ ([oc o cJ f] ++ vY cI cZ d th n mw nf sg fo L le sc li ba ca wa))) (hS : va_S (fun q => s.heap.size ≤ q) s.heap H locs)
    (ls : Array Slot) (hl : lv_has ls 7 [(0, .ref b), (1, .ref (a 0)), (2, .ref (d 0)), (3, .ref o), (4, .int (nI i))]) : W p l e room_1 s m #[Value.ref b] below meth c H locs cells slots (lw_Z below #[Value.ref b] s) (F0 m 821 ls []) := by
  have hc0 : cells ≤ room_1.cells ∧ slots ≤ room_1.slots := ⟨by omega, by omega⟩
  have hn := hI.1.1
  have hm := hI.1.2.1
  have hf := hI.1.2.2
  rcases sp_Li (xs (i + 1)) with h1 | ⟨t, h1, hu1⟩
  · refine lv_aload_n S.1 S.2.1 dL_law_821 rfl (lv_at hl 1 rfl) ?_
    refine lv_aload_n S.1 S.2.1 dL_law_822 rfl (lv_at hl 0 rfl) ?_
    refine lv_iload S.1 S.2.1 dL_law_823 (lv_at hl 4 rfl) ?_
    refine lv_iconst (v := (nI 1)) S.1 S.2.1 dL_law_825 (by decide) ?_
    refine n_iadd (x := i) (y := 1) S dL_law_826 ?_
    refine n_sld (j := i + 1) S hX hbl hS (by omega) (by omega) dL_law_827 ?_
    refine lv_aload_n S.1 S.2.1 dL_law_828 rfl (lv_at hl 0 rfl) ?_
    refine lv_iload S.1 S.2.1 dL_law_829 (lv_at hl 4 rfl) ?_
    refine lv_iconst (v := (nI 2)) S.1 S.2.1 dL_law_831 (by decide) ?_
    refine n_iadd (x := i) (y := 2) S dL_law_832 ?_
    refine n_sld (j := i + 2) S hX hbl hS (by omega) (by omega) dL_law_833 ?_
    refine lv_aload_n S.1 S.2.1 dL_law_834 rfl (lv_at hl 3 rfl) ?_
    refine lc_T (As := [.ref (a 0), .int (xs (i + 1)), .int (xs (i + 2)), .ref o]) (rest := []) S ht (kL_lettersE1 l dC dI cI cZ cJ a n mw nf sg fo L le sc li ba ca st o f hfl (xs (i + 1)) (xs (i + 2)) h1) hK hP hS hw_letters hdL_letters (by decide) hl.1 rfl (Nat.le_of_ble_eq_true rfl) dL_law_835 hc1 (fun H hP hS => ?_)
    refine lv_istore (lv' := [(5, .int (nI 1)), (0, .ref b), (1, .ref (a 0)), (2, .ref (d 0)), (3, .ref o), (4, .int (nI i))]) S.1 S.2.1 dL_law_838 hl (by decide) rfl (fun ls hl => ?_)
    refine lv_aload_n S.1 S.2.1 dL_law_840 rfl (lv_at hl 3 rfl) ?_
    refine lv_aload_n S.1 S.2.1 dL_law_841 rfl (lv_at hl 1 rfl) ?_
    refine lv_iload S.1 S.2.1 dL_law_842 (lv_at hl 5 rfl) ?_
    refine lv_iconst (v := (nI 1)) S.1 S.2.1 dL_law_844 (by decide) ?_
    refine n_iadd (x := i) (y := 1) S dL_law_845 ?_
    refine n_sld (j := i + 1) S hX hbl hS (by omega) (by omega) dL_law_846 ?_
    refine lv_aload_n S.1 S.2.1 dL_law_847 rfl (lv_at hl 1 rfl) ?_
    refine lv_iload S.1 S.2.1 dL_law_848 (lv_at hl 5 rfl) ?_
    refine lv_iconst (v := (nI 2)) S.1 S.2.1 dL_law_850 (by decide) ?_
    refine n_iadd (x := i) (y := 2) S dL_law_851 ?_
    refine n_sld (j := i + 2) S hX hbl hS (by omega) (by omega) dL_law_852 ?_
    refine lc_Y (As := [.int (xs (i + 1)), .int (xs (i + 2))]) (rest := []) S (kX1_lettersF l dC dI cI cZ cJ d th n mw nf sg fo L le sc li ba ca wa (xs (i + 1)) (xs (i + 2)) (Or.inl h1)) hK hP hD hS rfl (va_recv hK hP (ci := 1) (q0 := 11) rfl rfl) gL_117 hdX1_letters (by decide) hl.1 rfl (Nat.le_of_ble_eq_true rfl) dL_law_853 hc1 (fun H locs hP hD hS => ?_)
    have hP : va_P (dC, dI) vcl (vX cI cZ a n mw nf sg fo L le sc li ba ca st ++ ([oc o cJ f] ++ vY cI cZ d 1 n mw nf sg fo L le sc li ba ca wa)) H := hP
    have hD : va_D (fun q => s.heap.size ≤ q) (vX cI cZ a n mw nf sg fo L le sc li ba ca st ++ ([oc o cJ f] ++ vY cI cZ d 1 n mw nf sg fo L le sc li ba ca wa)) := hD
    refine lv_istore (lv' := [(6, .int (nI 0)), (5, .int (nI 1)), (0, .ref b), (1, .ref (a 0)), (2, .ref (d 0)), (3, .ref o), (4, .int (nI i))]) S.1 S.2.1 dL_law_856 hl (by decide) rfl (fun ls hl => ?_)
    refine lv_aload_n S.1 S.2.1 dL_law_858 rfl (lv_at hl 4 rfl) ?_
    refine rd_callV (C := RX1) (As := []) (rest := []) S (kX1_thrown l dC dI cI cZ cJ d 1 n mw nf sg fo L le sc li ba ca wa) rB_blind (fun U hU hW => ⟨by rw [hU]; exact lsY hP, va_K.moved hW.alike hK⟩) (va_recv hK hP (ci := 1) (q0 := 11) rfl rfl) gL_76 hdX1_thrown (by decide) hl.1 rfl (Nat.le_of_ble_eq_true rfl) dL_law_859 hc1 ?_
    refine lv_iload S.1 S.2.1 dL_law_862 (lv_at hl 1 rfl) ?_
    refine lv_icmp_eq (tgt := 869) S.1 S.2.1 dL_law_864 (by decide) (fun _ => ?_) (fun h => absurd rfl h)
    refine lv_iload S.1 S.2.1 dL_law_869 (lv_at hl 1 rfl) ?_
    refine lv_if_ne (tgt := 886) S.1 S.2.1 dL_law_871 (by decide) (fun _ => ?_) (fun h => absurd h (by decide))
    refine lv_goto (tgt := 1081) S.1 S.2.1 dL_law_886 (by decide) ?_
    exact kk 1 n mw nf sg fo L le sc li ba ca st wa f hI H locs hP hD hS ls (lv_sub hl [2, 3, 4, 5, 6] rfl)
  · rcases sp_L (xs (i + 2)) with h2 | ⟨y, h2, hu2⟩
    · refine lv_aload_n S.1 S.2.1 dL_law_821 rfl (lv_at hl 1 rfl) ?_
      refine lv_aload_n S.1 S.2.1 dL_law_822 rfl (lv_at hl 0 rfl) ?_
      refine lv_iload S.1 S.2.1 dL_law_823 (lv_at hl 4 rfl) ?_
      refine lv_iconst (v := (nI 1)) S.1 S.2.1 dL_law_825 (by decide) ?_
      refine n_iadd (x := i) (y := 1) S dL_law_826 ?_
      refine n_sld (j := i + 1) S hX hbl hS (by omega) (by omega) dL_law_827 ?_
      rw [hu1]
      refine lv_aload_n S.1 S.2.1 dL_law_828 rfl (lv_at hl 0 rfl) ?_
      refine lv_iload S.1 S.2.1 dL_law_829 (lv_at hl 4 rfl) ?_
      refine lv_iconst (v := (nI 2)) S.1 S.2.1 dL_law_831 (by decide) ?_
      refine n_iadd (x := i) (y := 2) S dL_law_832 ?_
      refine n_sld (j := i + 2) S hX hbl hS (by omega) (by omega) dL_law_833 ?_
      refine lv_aload_n S.1 S.2.1 dL_law_834 rfl (lv_at hl 3 rfl) ?_
      refine lc_T (As := [.ref (a 0), .int (nI t), .int (xs (i + 2)), .ref o]) (rest := []) S ht (kL_lettersE2 l dC dI cI cZ cJ a n mw nf sg fo L le sc li ba ca st o f hfl t (xs (i + 2)) h1 h2) hK hP hS hw_letters hdL_letters (by decide) hl.1 rfl (Nat.le_of_ble_eq_true rfl) dL_law_835 hc1 (fun H hP hS => ?_)
      refine lv_istore (lv' := [(5, .int (nI 1)), (0, .ref b), (1, .ref (a 0)), (2, .ref (d 0)), (3, .ref o), (4, .int (nI i))]) S.1 S.2.1 dL_law_838 hl (by decide) rfl (fun ls hl => ?_)
      refine lv_aload_n S.1 S.2.1 dL_law_840 rfl (lv_at hl 3 rfl) ?_
      refine lv_aload_n S.1 S.2.1 dL_law_841 rfl (lv_at hl 1 rfl) ?_
      refine lv_iload S.1 S.2.1 dL_law_842 (lv_at hl 5 rfl) ?_
      refine lv_iconst (v := (nI 1)) S.1 S.2.1 dL_law_844 (by decide) ?_
      refine n_iadd (x := i) (y := 1) S dL_law_845 ?_
      refine n_sld (j := i + 1) S hX hbl hS (by omega) (by omega) dL_law_846 ?_
      rw [hu1]
      refine lv_aload_n S.1 S.2.1 dL_law_847 rfl (lv_at hl 1 rfl) ?_
      refine lv_iload S.1 S.2.1 dL_law_848 (lv_at hl 5 rfl) ?_
      refine lv_iconst (v := (nI 2)) S.1 S.2.1 dL_law_850 (by decide) ?_
      refine n_iadd (x := i) (y := 2) S dL_law_851 ?_
      refine n_sld (j := i + 2) S hX hbl hS (by omega) (by omega) dL_law_852 ?_
      refine lc_Y (As := [.int (nI t), .int (xs (i + 2))]) (rest := []) S (kX1_lettersF l dC dI cI cZ cJ d th n mw nf sg fo L le sc li ba ca wa (nI t) (xs (i + 2)) (Or.inr h2)) hK hP hD hS rfl (va_recv hK hP (ci := 1) (q0 := 11) rfl rfl) gL_117 hdX1_letters (by decide) hl.1 rfl (Nat.le_of_ble_eq_true rfl) dL_law_853 hc1 (fun H locs hP hD hS => ?_)
      have hP : va_P (dC, dI) vcl (vX cI cZ a n mw nf sg fo L le sc li ba ca st ++ ([oc o cJ f] ++ vY cI cZ d 1 n mw nf sg fo L le sc li ba ca wa)) H := hP
      have hD : va_D (fun q => s.heap.size ≤ q) (vX cI cZ a n mw nf sg fo L le sc li ba ca st ++ ([oc o cJ f] ++ vY cI cZ d 1 n mw nf sg fo L le sc li ba ca wa)) := hD
      refine lv_istore (lv' := [(6, .int (nI 0)), (5, .int (nI 1)), (0, .ref b), (1, .ref (a 0)), (2, .ref (d 0)), (3, .ref o), (4, .int (nI i))]) S.1 S.2.1 dL_law_856 hl (by decide) rfl (fun ls hl => ?_)
      refine lv_aload_n S.1 S.2.1 dL_law_858 rfl (lv_at hl 4 rfl) ?_
      refine rd_callV (C := RX1) (As := []) (rest := []) S (kX1_thrown l dC dI cI cZ cJ d 1 n mw nf sg fo L le sc li ba ca wa) rB_blind (fun U hU hW => ⟨by rw [hU]; exact lsY hP, va_K.moved hW.alike hK⟩) (va_recv hK hP (ci := 1) (q0 := 11) rfl rfl) gL_76 hdX1_thrown (by decide) hl.1 rfl (Nat.le_of_ble_eq_true rfl) dL_law_859 hc1 ?_
      refine lv_iload S.1 S.2.1 dL_law_862 (lv_at hl 1 rfl) ?_
      refine lv_icmp_eq (tgt := 869) S.1 S.2.1 dL_law_864 (by decide) (fun _ => ?_) (fun h => absurd rfl h)
      refine lv_iload S.1 S.2.1 dL_law_869 (lv_at hl 1 rfl) ?_
      refine lv_if_ne (tgt := 886) S.1 S.2.1 dL_law_871 (by decide) (fun _ => ?_) (fun h => absurd h (by decide))
      refine lv_goto (tgt := 1081) S.1 S.2.1 dL_law_886 (by decide) ?_
      exact kk 1 n mw nf sg fo L le sc li ba ca st wa f hI H locs hP hD hS ls (lv_sub hl [2, 3, 4, 5, 6] rfl)
    · refine lv_aload_n S.1 S.2.1 dL_law_821 rfl (lv_at hl 1 rfl) ?_
      refine lv_aload_n S.1 S.2.1 dL_law_822 rfl (lv_at hl 0 rfl) ?_
      refine lv_iload S.1 S.2.1 dL_law_823 (lv_at hl 4 rfl) ?_
      refine lv_iconst (v := (nI 1)) S.1 S.2.1 dL_law_825 (by decide) ?_
      refine n_iadd (x := i) (y := 1) S dL_law_826 ?_
      refine n_sld (j := i + 1) S hX hbl hS (by omega) (by omega) dL_law_827 ?_
      rw [hu1]
      refine lv_aload_n S.1 S.2.1 dL_law_828 rfl (lv_at hl 0 rfl) ?_
      refine lv_iload S.1 S.2.1 dL_law_829 (lv_at hl 4 rfl) ?_
      refine lv_iconst (v := (nI 2)) S.1 S.2.1 dL_law_831 (by decide) ?_
      refine n_iadd (x := i) (y := 2) S dL_law_832 ?_
      refine n_sld (j := i + 2) S hX hbl hS (by omega) (by omega) dL_law_833 ?_
      rw [hu2]
      refine lv_aload_n S.1 S.2.1 dL_law_834 rfl (lv_at hl 3 rfl) ?_
      refine lc_W (As := [.ref (a 0), .int (nI t), .int (nI y), .ref o]) (rest := []) S (kL_letters l dC dI cI cZ cJ a n mw nf sg fo L le sc li ba ca st o f t y hI h1 h2) hK hP hD hS (fun _ => rfl) hw_letters hdL_letters (by decide) hl.1 rfl (Nat.le_of_ble_eq_true rfl) dL_law_835 hc0 (fun _ H locs hP hD hS => ?_)
      have hP : va_P (dC, dI) vcl ((vX cI cZ a n mw nf sg fo L le sc li ba ca st ++ [oc o cJ (vp_updL f 0 (Int32.toInt64 (nI (smm (ltF L le li t y) mw))))]) ++ vY cI cZ d th n mw nf sg fo L le sc li ba ca wa) H := hP
      have hD : va_D (fun q => s.heap.size ≤ q) ((vX cI cZ a n mw nf sg fo L le sc li ba ca st ++ [oc o cJ (vp_updL f 0 (Int32.toInt64 (nI (smm (ltF L le li t y) mw))))]) ++ vY cI cZ d th n mw nf sg fo L le sc li ba ca wa) := hD
      rw [List.append_assoc] at hP hD
      refine lv_istore (lv' := [(5, .int (nI 0)), (0, .ref b), (1, .ref (a 0)), (2, .ref (d 0)), (3, .ref o), (4, .int (nI i))]) S.1 S.2.1 dL_law_838 hl (by decide) rfl (fun ls hl => ?_)
      refine lv_aload_n S.1 S.2.1 dL_law_840 rfl (lv_at hl 3 rfl) ?_
      refine lv_aload_n S.1 S.2.1 dL_law_841 rfl (lv_at hl 1 rfl) ?_
      refine lv_iload S.1 S.2.1 dL_law_842 (lv_at hl 5 rfl) ?_
      refine lv_iconst (v := (nI 1)) S.1 S.2.1 dL_law_844 (by decide) ?_
      refine n_iadd (x := i) (y := 1) S dL_law_845 ?_
      refine n_sld (j := i + 1) S hX hbl hS (by omega) (by omega) dL_law_846 ?_
      rw [hu1]
      refine lv_aload_n S.1 S.2.1 dL_law_847 rfl (lv_at hl 1 rfl) ?_
      refine lv_iload S.1 S.2.1 dL_law_848 (lv_at hl 5 rfl) ?_
      refine lv_iconst (v := (nI 2)) S.1 S.2.1 dL_law_850 (by decide) ?_
      refine n_iadd (x := i) (y := 2) S dL_law_851 ?_
      refine n_sld (j := i + 2) S hX hbl hS (by omega) (by omega) dL_law_852 ?_
      rw [hu2]
      refine lc_Y (As := [.int (nI t), .int (nI y)]) (rest := []) S (kX1_letters l dC dI cI cZ cJ d th n mw nf sg fo L le sc li ba ca wa t y hI h1 h2) hK hP hD hS rfl (va_recv hK hP (ci := 1) (q0 := 11) rfl rfl) gL_117 hdX1_letters (by decide) hl.1 rfl (Nat.le_of_ble_eq_true rfl) dL_law_853 hc0 (fun H locs hP hD hS => ?_)
      have hP : va_P (dC, dI) vcl (vX cI cZ a n mw nf sg fo L le sc li ba ca st ++ ([oc o cJ (vp_updL f 0 (Int32.toInt64 (nI (smm (ltF L le li t y) mw))))] ++ vY cI cZ d 0 n mw nf sg fo L le sc li ba ca wa)) H := hP
      have hD : va_D (fun q => s.heap.size ≤ q) (vX cI cZ a n mw nf sg fo L le sc li ba ca st ++ ([oc o cJ (vp_updL f 0 (Int32.toInt64 (nI (smm (ltF L le li t y) mw))))] ++ vY cI cZ d 0 n mw nf sg fo L le sc li ba ca wa)) := hD
      refine lv_istore (lv' := [(6, .int (nI (smm (ltF L le li t y) mw))), (5, .int (nI 0)), (0, .ref b), (1, .ref (a 0)), (2, .ref (d 0)), (3, .ref o), (4, .int (nI i))]) S.1 S.2.1 dL_law_856 hl (by decide) rfl (fun ls hl => ?_)
      refine lv_aload_n S.1 S.2.1 dL_law_858 rfl (lv_at hl 4 rfl) ?_
      refine rd_callV (C := RX1) (As := []) (rest := []) S (kX1_thrown l dC dI cI cZ cJ d 0 n mw nf sg fo L le sc li ba ca wa) rB_blind (fun U hU hW => ⟨by rw [hU]; exact lsY hP, va_K.moved hW.alike hK⟩) (va_recv hK hP (ci := 1) (q0 := 11) rfl rfl) gL_76 hdX1_thrown (by decide) hl.1 rfl (Nat.le_of_ble_eq_true rfl) dL_law_859 hc0 ?_
      refine lv_iload S.1 S.2.1 dL_law_862 (lv_at hl 1 rfl) ?_
      refine lv_icmp_eq (tgt := 869) S.1 S.2.1 dL_law_864 (by decide) (fun _ => ?_) (fun h => absurd rfl h)
      refine lv_iload S.1 S.2.1 dL_law_869 (lv_at hl 1 rfl) ?_
      refine lv_if_ne (tgt := 886) S.1 S.2.1 dL_law_871 (by decide) (fun h => absurd (by decide) h) (fun _ => ?_)
      refine lv_aload_n S.1 S.2.1 dL_law_874 rfl (lv_at hl 5 rfl) ?_
      refine lv_iconst (v := (nI 0)) S.1 S.2.1 dL_law_875 (by decide) ?_
      refine n_lald S hK hP 10 2 rfl rfl dL_law_876 ?_
      refine lv_iload S.1 S.2.1 dL_law_877 (lv_at hl 0 rfl) ?_
      refine lv_i2l (v := Int32.toInt64 (nI (smm (ltF L le li t y) mw))) S.1 S.2.1 dL_law_879 rfl ?_
      refine n_lcmp S dL_law_880 ?_
      refine lv_if_eq (tgt := 886) S.1 S.2.1 dL_law_881 (by decide) (fun _ => ?_) (fun h => absurd rfl h)
      refine lv_goto (tgt := 1081) S.1 S.2.1 dL_law_886 (by decide) ?_
      refine W.widen (k := cells + 1) (n := slots + 6) (by omega) (by omega) ?_
      exact kk 0 n mw nf sg fo L le sc li ba ca st wa (vp_updL f 0 (Int32.toInt64 (nI (smm (ltF L le li t y) mw)))) hI H locs hP hD hS ls (lv_sub hl [2, 3, 4, 5, 6] rfl)

set_option maxRecDepth 100000 in
set_option maxHeartbeats 4000000 in
theorem lc_letter {p : Program} {l : Launch} {e : Env} {s : State} {m : MethodId} {below : List Frame} {meth : Method} {c : Code} {dC : Nat → ClassId} {dI : Nat → Nat → Nat} {cI cZ cJ : ClassId} {a d : Nat → Nat} {o b i cells slots Ln : Nat} {xs : Nat → Int32} (hfl : l.flags = flags0) (S : CallFix p m c cL_law 7 s #[Value.ref b] tbG RL) (ht : twS s) (hK : va_K (dC, dI) vcl (vty cI cZ cJ) s) (hX : va_X b Ln xs s s.heap) (hbl : b < s.heap.size) (hLn : Ln ≤ 2560) (hi5 : i + 5 ≤ Ln) (hc1 : cells + 1 ≤ room_1.cells ∧ slots + 6 ≤ room_1.slots)
    (kk : lK p l e s m below meth c dC dI cI cZ cJ a d o b i cells slots) (th n mw nf : Nat) (sg fo L le sc li ba ca st : Nat → Nat) (wa : Nat → Int32) (f : Nat → Int64) (hI : iv n mw nf sg fo L le sc li ba ca) (H : Heap) (locs : List Loc) (hP : va_P (dC, dI) vcl (vX cI cZ a n mw nf sg fo L le sc li ba ca st ++ ([oc o cJ f] ++ vY cI cZ d th n mw nf sg fo L le sc li ba ca wa)) H) (hD : va_D (fun q => s.heap.size ≤ q) (vX cI cZ a n mw nf sg fo L le sc li ba ca st ++ ([oc o cJ f] ++ vY cI cZ d th n mw nf sg fo L le sc li ba ca wa))) (hS : va_S (fun q => s.heap.size ≤ q) s.heap H locs)
    (ls : Array Slot) (hl : lv_has ls 7 [(0, .ref b), (1, .ref (a 0)), (2, .ref (d 0)), (3, .ref o), (4, .int (nI i))]) : W p l e room_1 s m #[Value.ref b] below meth c H locs cells slots (lw_Z below #[Value.ref b] s) (F0 m 889 ls []) := by
  have hc0 : cells ≤ room_1.cells ∧ slots ≤ room_1.slots := ⟨by omega, by omega⟩
  have hn := hI.1.1
  have hm := hI.1.2.1
  have hf := hI.1.2.2
  rcases sp_W (show mw < 2 ^ 31 by omega) (xs (i + 1)) with h1 | ⟨w, h1, hu1⟩
  · refine lv_aload_n S.1 S.2.1 dL_law_889 rfl (lv_at hl 1 rfl) ?_
    refine lv_aload_n S.1 S.2.1 dL_law_890 rfl (lv_at hl 0 rfl) ?_
    refine lv_iload S.1 S.2.1 dL_law_891 (lv_at hl 4 rfl) ?_
    refine lv_iconst (v := (nI 1)) S.1 S.2.1 dL_law_893 (by decide) ?_
    refine n_iadd (x := i) (y := 1) S dL_law_894 ?_
    refine n_sld (j := i + 1) S hX hbl hS (by omega) (by omega) dL_law_895 ?_
    refine lv_aload_n S.1 S.2.1 dL_law_896 rfl (lv_at hl 0 rfl) ?_
    refine lv_iload S.1 S.2.1 dL_law_897 (lv_at hl 4 rfl) ?_
    refine lv_iconst (v := (nI 2)) S.1 S.2.1 dL_law_899 (by decide) ?_
    refine n_iadd (x := i) (y := 2) S dL_law_900 ?_
    refine n_sld (j := i + 2) S hX hbl hS (by omega) (by omega) dL_law_901 ?_
    refine lv_aload_n S.1 S.2.1 dL_law_902 rfl (lv_at hl 3 rfl) ?_
    refine lc_T (As := [.ref (a 0), .int (xs (i + 1)), .int (xs (i + 2)), .ref o]) (rest := []) S ht (kL_letterE l dC dI cI cZ cJ a n mw nf sg fo L le sc li ba ca st o f hfl (xs (i + 1)) (xs (i + 2)) h1) hK hP hS hw_letter hdL_letter (by decide) hl.1 rfl (Nat.le_of_ble_eq_true rfl) dL_law_903 hc1 (fun H hP hS => ?_)
    refine lv_istore (lv' := [(5, .int (nI 1)), (0, .ref b), (1, .ref (a 0)), (2, .ref (d 0)), (3, .ref o), (4, .int (nI i))]) S.1 S.2.1 dL_law_906 hl (by decide) rfl (fun ls hl => ?_)
    refine lv_aload_n S.1 S.2.1 dL_law_908 rfl (lv_at hl 3 rfl) ?_
    refine lv_aload_n S.1 S.2.1 dL_law_909 rfl (lv_at hl 1 rfl) ?_
    refine lv_iload S.1 S.2.1 dL_law_910 (lv_at hl 5 rfl) ?_
    refine lv_iconst (v := (nI 1)) S.1 S.2.1 dL_law_912 (by decide) ?_
    refine n_iadd (x := i) (y := 1) S dL_law_913 ?_
    refine n_sld (j := i + 1) S hX hbl hS (by omega) (by omega) dL_law_914 ?_
    refine lv_aload_n S.1 S.2.1 dL_law_915 rfl (lv_at hl 1 rfl) ?_
    refine lv_iload S.1 S.2.1 dL_law_916 (lv_at hl 5 rfl) ?_
    refine lv_iconst (v := (nI 2)) S.1 S.2.1 dL_law_918 (by decide) ?_
    refine n_iadd (x := i) (y := 2) S dL_law_919 ?_
    refine n_sld (j := i + 2) S hX hbl hS (by omega) (by omega) dL_law_920 ?_
    refine lc_Y (As := [.int (xs (i + 1)), .int (xs (i + 2))]) (rest := []) S (kX1_letterF l dC dI cI cZ cJ d th n mw nf sg fo L le sc li ba ca wa (xs (i + 1)) (xs (i + 2)) h1) hK hP hD hS rfl (va_recv hK hP (ci := 1) (q0 := 11) rfl rfl) gL_120 hdX1_letter (by decide) hl.1 rfl (Nat.le_of_ble_eq_true rfl) dL_law_921 hc1 (fun H locs hP hD hS => ?_)
    have hP : va_P (dC, dI) vcl (vX cI cZ a n mw nf sg fo L le sc li ba ca st ++ ([oc o cJ f] ++ vY cI cZ d 1 n mw nf sg fo L le sc li ba ca wa)) H := hP
    have hD : va_D (fun q => s.heap.size ≤ q) (vX cI cZ a n mw nf sg fo L le sc li ba ca st ++ ([oc o cJ f] ++ vY cI cZ d 1 n mw nf sg fo L le sc li ba ca wa)) := hD
    refine lv_istore (lv' := [(6, .int (nI 0)), (5, .int (nI 1)), (0, .ref b), (1, .ref (a 0)), (2, .ref (d 0)), (3, .ref o), (4, .int (nI i))]) S.1 S.2.1 dL_law_924 hl (by decide) rfl (fun ls hl => ?_)
    refine lv_aload_n S.1 S.2.1 dL_law_926 rfl (lv_at hl 4 rfl) ?_
    refine rd_callV (C := RX1) (As := []) (rest := []) S (kX1_thrown l dC dI cI cZ cJ d 1 n mw nf sg fo L le sc li ba ca wa) rB_blind (fun U hU hW => ⟨by rw [hU]; exact lsY hP, va_K.moved hW.alike hK⟩) (va_recv hK hP (ci := 1) (q0 := 11) rfl rfl) gL_76 hdX1_thrown (by decide) hl.1 rfl (Nat.le_of_ble_eq_true rfl) dL_law_927 hc1 ?_
    refine lv_iload S.1 S.2.1 dL_law_930 (lv_at hl 1 rfl) ?_
    refine lv_icmp_eq (tgt := 937) S.1 S.2.1 dL_law_932 (by decide) (fun _ => ?_) (fun h => absurd rfl h)
    refine lv_iload S.1 S.2.1 dL_law_937 (lv_at hl 1 rfl) ?_
    refine lv_if_ne (tgt := 954) S.1 S.2.1 dL_law_939 (by decide) (fun _ => ?_) (fun h => absurd h (by decide))
    refine lv_goto (tgt := 1081) S.1 S.2.1 dL_law_954 (by decide) ?_
    exact kk 1 n mw nf sg fo L le sc li ba ca st wa f hI H locs hP hD hS ls (lv_sub hl [2, 3, 4, 5, 6] rfl)
  · refine lv_aload_n S.1 S.2.1 dL_law_889 rfl (lv_at hl 1 rfl) ?_
    refine lv_aload_n S.1 S.2.1 dL_law_890 rfl (lv_at hl 0 rfl) ?_
    refine lv_iload S.1 S.2.1 dL_law_891 (lv_at hl 4 rfl) ?_
    refine lv_iconst (v := (nI 1)) S.1 S.2.1 dL_law_893 (by decide) ?_
    refine n_iadd (x := i) (y := 1) S dL_law_894 ?_
    refine n_sld (j := i + 1) S hX hbl hS (by omega) (by omega) dL_law_895 ?_
    rw [hu1]
    refine lv_aload_n S.1 S.2.1 dL_law_896 rfl (lv_at hl 0 rfl) ?_
    refine lv_iload S.1 S.2.1 dL_law_897 (lv_at hl 4 rfl) ?_
    refine lv_iconst (v := (nI 2)) S.1 S.2.1 dL_law_899 (by decide) ?_
    refine n_iadd (x := i) (y := 2) S dL_law_900 ?_
    refine n_sld (j := i + 2) S hX hbl hS (by omega) (by omega) dL_law_901 ?_
    refine lv_aload_n S.1 S.2.1 dL_law_902 rfl (lv_at hl 3 rfl) ?_
    refine lc_W (As := [.ref (a 0), .int (nI w), .int (xs (i + 2)), .ref o]) (rest := []) S (kL_letter l dC dI cI cZ cJ a n mw nf sg fo L le sc li ba ca st o f w (xs (i + 2)) hI h1) hK hP hD hS (fun _ => rfl) hw_letter hdL_letter (by decide) hl.1 rfl (Nat.le_of_ble_eq_true rfl) dL_law_903 hc0 (fun _ H locs hP hD hS => ?_)
    have hP : va_P (dC, dI) vcl ((vX cI cZ a n mw nf sg fo L le sc li ba ca st ++ [oc o cJ (vp_updL f 0 (Int32.toInt64 (lon L le w (xs (i + 2)))))]) ++ vY cI cZ d th n mw nf sg fo L le sc li ba ca wa) H := hP
    have hD : va_D (fun q => s.heap.size ≤ q) ((vX cI cZ a n mw nf sg fo L le sc li ba ca st ++ [oc o cJ (vp_updL f 0 (Int32.toInt64 (lon L le w (xs (i + 2)))))]) ++ vY cI cZ d th n mw nf sg fo L le sc li ba ca wa) := hD
    rw [List.append_assoc] at hP hD
    refine lv_istore (lv' := [(5, .int (nI 0)), (0, .ref b), (1, .ref (a 0)), (2, .ref (d 0)), (3, .ref o), (4, .int (nI i))]) S.1 S.2.1 dL_law_906 hl (by decide) rfl (fun ls hl => ?_)
    refine lv_aload_n S.1 S.2.1 dL_law_908 rfl (lv_at hl 3 rfl) ?_
    refine lv_aload_n S.1 S.2.1 dL_law_909 rfl (lv_at hl 1 rfl) ?_
    refine lv_iload S.1 S.2.1 dL_law_910 (lv_at hl 5 rfl) ?_
    refine lv_iconst (v := (nI 1)) S.1 S.2.1 dL_law_912 (by decide) ?_
    refine n_iadd (x := i) (y := 1) S dL_law_913 ?_
    refine n_sld (j := i + 1) S hX hbl hS (by omega) (by omega) dL_law_914 ?_
    rw [hu1]
    refine lv_aload_n S.1 S.2.1 dL_law_915 rfl (lv_at hl 1 rfl) ?_
    refine lv_iload S.1 S.2.1 dL_law_916 (lv_at hl 5 rfl) ?_
    refine lv_iconst (v := (nI 2)) S.1 S.2.1 dL_law_918 (by decide) ?_
    refine n_iadd (x := i) (y := 2) S dL_law_919 ?_
    refine n_sld (j := i + 2) S hX hbl hS (by omega) (by omega) dL_law_920 ?_
    refine lc_Y (As := [.int (nI w), .int (xs (i + 2))]) (rest := []) S (kX1_letter l dC dI cI cZ cJ d th n mw nf sg fo L le sc li ba ca wa w (xs (i + 2)) hI h1) hK hP hD hS rfl (va_recv hK hP (ci := 1) (q0 := 11) rfl rfl) gL_120 hdX1_letter (by decide) hl.1 rfl (Nat.le_of_ble_eq_true rfl) dL_law_921 hc0 (fun H locs hP hD hS => ?_)
    have hP : va_P (dC, dI) vcl (vX cI cZ a n mw nf sg fo L le sc li ba ca st ++ ([oc o cJ (vp_updL f 0 (Int32.toInt64 (lon L le w (xs (i + 2)))))] ++ vY cI cZ d 0 n mw nf sg fo L le sc li ba ca wa)) H := hP
    have hD : va_D (fun q => s.heap.size ≤ q) (vX cI cZ a n mw nf sg fo L le sc li ba ca st ++ ([oc o cJ (vp_updL f 0 (Int32.toInt64 (lon L le w (xs (i + 2)))))] ++ vY cI cZ d 0 n mw nf sg fo L le sc li ba ca wa)) := hD
    refine lv_istore (lv' := [(6, .int (lon L le w (xs (i + 2)))), (5, .int (nI 0)), (0, .ref b), (1, .ref (a 0)), (2, .ref (d 0)), (3, .ref o), (4, .int (nI i))]) S.1 S.2.1 dL_law_924 hl (by decide) rfl (fun ls hl => ?_)
    refine lv_aload_n S.1 S.2.1 dL_law_926 rfl (lv_at hl 4 rfl) ?_
    refine rd_callV (C := RX1) (As := []) (rest := []) S (kX1_thrown l dC dI cI cZ cJ d 0 n mw nf sg fo L le sc li ba ca wa) rB_blind (fun U hU hW => ⟨by rw [hU]; exact lsY hP, va_K.moved hW.alike hK⟩) (va_recv hK hP (ci := 1) (q0 := 11) rfl rfl) gL_76 hdX1_thrown (by decide) hl.1 rfl (Nat.le_of_ble_eq_true rfl) dL_law_927 hc0 ?_
    refine lv_iload S.1 S.2.1 dL_law_930 (lv_at hl 1 rfl) ?_
    refine lv_icmp_eq (tgt := 937) S.1 S.2.1 dL_law_932 (by decide) (fun _ => ?_) (fun h => absurd rfl h)
    refine lv_iload S.1 S.2.1 dL_law_937 (lv_at hl 1 rfl) ?_
    refine lv_if_ne (tgt := 954) S.1 S.2.1 dL_law_939 (by decide) (fun h => absurd (by decide) h) (fun _ => ?_)
    refine lv_aload_n S.1 S.2.1 dL_law_942 rfl (lv_at hl 5 rfl) ?_
    refine lv_iconst (v := (nI 0)) S.1 S.2.1 dL_law_943 (by decide) ?_
    refine n_lald S hK hP 10 2 rfl rfl dL_law_944 ?_
    refine lv_iload S.1 S.2.1 dL_law_945 (lv_at hl 0 rfl) ?_
    refine lv_i2l (v := Int32.toInt64 (lon L le w (xs (i + 2)))) S.1 S.2.1 dL_law_947 rfl ?_
    refine n_lcmp S dL_law_948 ?_
    refine lv_if_eq (tgt := 954) S.1 S.2.1 dL_law_949 (by decide) (fun _ => ?_) (fun h => absurd rfl h)
    refine lv_goto (tgt := 1081) S.1 S.2.1 dL_law_954 (by decide) ?_
    refine W.widen (k := cells + 1) (n := slots + 6) (by omega) (by omega) ?_
    exact kk 0 n mw nf sg fo L le sc li ba ca st wa (vp_updL f 0 (Int32.toInt64 (lon L le w (xs (i + 2))))) hI H locs hP hD hS ls (lv_sub hl [2, 3, 4, 5, 6] rfl)

set_option maxRecDepth 100000 in
set_option maxHeartbeats 4000000 in
theorem lc_tell {p : Program} {l : Launch} {e : Env} {s : State} {m : MethodId} {below : List Frame} {meth : Method} {c : Code} {dC : Nat → ClassId} {dI : Nat → Nat → Nat} {cI cZ cJ : ClassId} {a d : Nat → Nat} {o b i cells slots Ln : Nat} {xs : Nat → Int32} (hfl : l.flags = flags0) (S : CallFix p m c cL_law 7 s #[Value.ref b] tbG RL) (ht : twS s) (hK : va_K (dC, dI) vcl (vty cI cZ cJ) s) (hX : va_X b Ln xs s s.heap) (hbl : b < s.heap.size) (hLn : Ln ≤ 2560) (hi5 : i + 5 ≤ Ln) (hc1 : cells + 1 ≤ room_1.cells ∧ slots + 6 ≤ room_1.slots)
    (kk : lK p l e s m below meth c dC dI cI cZ cJ a d o b i cells slots) (th n mw nf : Nat) (sg fo L le sc li ba ca st : Nat → Nat) (wa : Nat → Int32) (f : Nat → Int64) (hI : iv n mw nf sg fo L le sc li ba ca) (H : Heap) (locs : List Loc) (hP : va_P (dC, dI) vcl (vX cI cZ a n mw nf sg fo L le sc li ba ca st ++ ([oc o cJ f] ++ vY cI cZ d th n mw nf sg fo L le sc li ba ca wa)) H) (hD : va_D (fun q => s.heap.size ≤ q) (vX cI cZ a n mw nf sg fo L le sc li ba ca st ++ ([oc o cJ f] ++ vY cI cZ d th n mw nf sg fo L le sc li ba ca wa))) (hS : va_S (fun q => s.heap.size ≤ q) s.heap H locs)
    (ls : Array Slot) (hl : lv_has ls 7 [(0, .ref b), (1, .ref (a 0)), (2, .ref (d 0)), (3, .ref o), (4, .int (nI i))]) : W p l e room_1 s m #[Value.ref b] below meth c H locs cells slots (lw_Z below #[Value.ref b] s) (F0 m 957 ls []) := by
  have hc0 : cells ≤ room_1.cells ∧ slots ≤ room_1.slots := ⟨by omega, by omega⟩
  have hn := hI.1.1
  have hm := hI.1.2.1
  have hf := hI.1.2.2
  rcases sp_W (show mw < 2 ^ 31 by omega) (xs (i + 1)) with h1 | ⟨w, h1, hu1⟩
  · refine lv_aload_n S.1 S.2.1 dL_law_957 rfl (lv_at hl 1 rfl) ?_
    refine lv_aload_n S.1 S.2.1 dL_law_958 rfl (lv_at hl 0 rfl) ?_
    refine lv_iload S.1 S.2.1 dL_law_959 (lv_at hl 4 rfl) ?_
    refine lv_iconst (v := (nI 1)) S.1 S.2.1 dL_law_961 (by decide) ?_
    refine n_iadd (x := i) (y := 1) S dL_law_962 ?_
    refine n_sld (j := i + 1) S hX hbl hS (by omega) (by omega) dL_law_963 ?_
    refine lv_aload_n S.1 S.2.1 dL_law_964 rfl (lv_at hl 0 rfl) ?_
    refine lv_iload S.1 S.2.1 dL_law_965 (lv_at hl 4 rfl) ?_
    refine lv_iconst (v := (nI 2)) S.1 S.2.1 dL_law_967 (by decide) ?_
    refine n_iadd (x := i) (y := 2) S dL_law_968 ?_
    refine n_sld (j := i + 2) S hX hbl hS (by omega) (by omega) dL_law_969 ?_
    refine lv_aload_n S.1 S.2.1 dL_law_970 rfl (lv_at hl 3 rfl) ?_
    refine lc_T (As := [.ref (a 0), .int (xs (i + 1)), .int (xs (i + 2)), .ref o]) (rest := []) S ht (kL_tellE l dC dI cI cZ cJ a n mw nf sg fo L le sc li ba ca st o f hfl (xs (i + 1)) (xs (i + 2)) h1) hK hP hS hw_tell hdL_tell (by decide) hl.1 rfl (Nat.le_of_ble_eq_true rfl) dL_law_971 hc1 (fun H hP hS => ?_)
    refine lv_istore (lv' := [(5, .int (nI 1)), (0, .ref b), (1, .ref (a 0)), (2, .ref (d 0)), (3, .ref o), (4, .int (nI i))]) S.1 S.2.1 dL_law_974 hl (by decide) rfl (fun ls hl => ?_)
    refine lv_aload_n S.1 S.2.1 dL_law_976 rfl (lv_at hl 3 rfl) ?_
    refine lv_aload_n S.1 S.2.1 dL_law_977 rfl (lv_at hl 1 rfl) ?_
    refine lv_iload S.1 S.2.1 dL_law_978 (lv_at hl 5 rfl) ?_
    refine lv_iconst (v := (nI 1)) S.1 S.2.1 dL_law_980 (by decide) ?_
    refine n_iadd (x := i) (y := 1) S dL_law_981 ?_
    refine n_sld (j := i + 1) S hX hbl hS (by omega) (by omega) dL_law_982 ?_
    refine lv_aload_n S.1 S.2.1 dL_law_983 rfl (lv_at hl 1 rfl) ?_
    refine lv_iload S.1 S.2.1 dL_law_984 (lv_at hl 5 rfl) ?_
    refine lv_iconst (v := (nI 2)) S.1 S.2.1 dL_law_986 (by decide) ?_
    refine n_iadd (x := i) (y := 2) S dL_law_987 ?_
    refine n_sld (j := i + 2) S hX hbl hS (by omega) (by omega) dL_law_988 ?_
    refine lc_Y (As := [.int (xs (i + 1)), .int (xs (i + 2))]) (rest := []) S (kX1_tellF l dC dI cI cZ cJ d th n mw nf sg fo L le sc li ba ca wa (xs (i + 1)) (xs (i + 2)) h1) hK hP hD hS rfl (va_recv hK hP (ci := 1) (q0 := 11) rfl rfl) gL_123 hdX1_tell (by decide) hl.1 rfl (Nat.le_of_ble_eq_true rfl) dL_law_989 hc1 (fun H locs hP hD hS => ?_)
    have hP : va_P (dC, dI) vcl (vX cI cZ a n mw nf sg fo L le sc li ba ca st ++ ([oc o cJ f] ++ vY cI cZ d 1 n mw nf sg fo L le sc li ba ca wa)) H := hP
    have hD : va_D (fun q => s.heap.size ≤ q) (vX cI cZ a n mw nf sg fo L le sc li ba ca st ++ ([oc o cJ f] ++ vY cI cZ d 1 n mw nf sg fo L le sc li ba ca wa)) := hD
    refine lv_istore (lv' := [(6, .int (nI 0)), (5, .int (nI 1)), (0, .ref b), (1, .ref (a 0)), (2, .ref (d 0)), (3, .ref o), (4, .int (nI i))]) S.1 S.2.1 dL_law_992 hl (by decide) rfl (fun ls hl => ?_)
    refine lv_aload_n S.1 S.2.1 dL_law_994 rfl (lv_at hl 4 rfl) ?_
    refine rd_callV (C := RX1) (As := []) (rest := []) S (kX1_thrown l dC dI cI cZ cJ d 1 n mw nf sg fo L le sc li ba ca wa) rB_blind (fun U hU hW => ⟨by rw [hU]; exact lsY hP, va_K.moved hW.alike hK⟩) (va_recv hK hP (ci := 1) (q0 := 11) rfl rfl) gL_76 hdX1_thrown (by decide) hl.1 rfl (Nat.le_of_ble_eq_true rfl) dL_law_995 hc1 ?_
    refine lv_iload S.1 S.2.1 dL_law_998 (lv_at hl 1 rfl) ?_
    refine lv_icmp_eq (tgt := 1005) S.1 S.2.1 dL_law_1000 (by decide) (fun _ => ?_) (fun h => absurd rfl h)
    refine lv_iload S.1 S.2.1 dL_law_1005 (lv_at hl 1 rfl) ?_
    refine lv_if_ne (tgt := 1022) S.1 S.2.1 dL_law_1007 (by decide) (fun _ => ?_) (fun h => absurd h (by decide))
    refine lv_goto (tgt := 1081) S.1 S.2.1 dL_law_1022 (by decide) ?_
    exact kk 1 n mw nf sg fo L le sc li ba ca st wa f hI H locs hP hD hS ls (lv_sub hl [2, 3, 4, 5, 6] rfl)
  · refine lv_aload_n S.1 S.2.1 dL_law_957 rfl (lv_at hl 1 rfl) ?_
    refine lv_aload_n S.1 S.2.1 dL_law_958 rfl (lv_at hl 0 rfl) ?_
    refine lv_iload S.1 S.2.1 dL_law_959 (lv_at hl 4 rfl) ?_
    refine lv_iconst (v := (nI 1)) S.1 S.2.1 dL_law_961 (by decide) ?_
    refine n_iadd (x := i) (y := 1) S dL_law_962 ?_
    refine n_sld (j := i + 1) S hX hbl hS (by omega) (by omega) dL_law_963 ?_
    rw [hu1]
    refine lv_aload_n S.1 S.2.1 dL_law_964 rfl (lv_at hl 0 rfl) ?_
    refine lv_iload S.1 S.2.1 dL_law_965 (lv_at hl 4 rfl) ?_
    refine lv_iconst (v := (nI 2)) S.1 S.2.1 dL_law_967 (by decide) ?_
    refine n_iadd (x := i) (y := 2) S dL_law_968 ?_
    refine n_sld (j := i + 2) S hX hbl hS (by omega) (by omega) dL_law_969 ?_
    refine lv_aload_n S.1 S.2.1 dL_law_970 rfl (lv_at hl 3 rfl) ?_
    refine lc_W (As := [.ref (a 0), .int (nI w), .int (xs (i + 2)), .ref o]) (rest := []) S (kL_tell l dC dI cI cZ cJ a n mw nf sg fo L le sc li ba ca st o f w (xs (i + 2)) hI h1) hK hP hD hS (fun _ => rfl) hw_tell hdL_tell (by decide) hl.1 rfl (Nat.le_of_ble_eq_true rfl) dL_law_971 hc0 (fun _ H locs hP hD hS => ?_)
    have hP : va_P (dC, dI) vcl ((vX cI cZ a n mw nf sg fo L le sc li ba ca st ++ [oc o cJ (vp_updL f 0 (Int32.toInt64 (tel le sc li ba w (xs (i + 2)))))]) ++ vY cI cZ d th n mw nf sg fo L le sc li ba ca wa) H := hP
    have hD : va_D (fun q => s.heap.size ≤ q) ((vX cI cZ a n mw nf sg fo L le sc li ba ca st ++ [oc o cJ (vp_updL f 0 (Int32.toInt64 (tel le sc li ba w (xs (i + 2)))))]) ++ vY cI cZ d th n mw nf sg fo L le sc li ba ca wa) := hD
    rw [List.append_assoc] at hP hD
    refine lv_istore (lv' := [(5, .int (nI 0)), (0, .ref b), (1, .ref (a 0)), (2, .ref (d 0)), (3, .ref o), (4, .int (nI i))]) S.1 S.2.1 dL_law_974 hl (by decide) rfl (fun ls hl => ?_)
    refine lv_aload_n S.1 S.2.1 dL_law_976 rfl (lv_at hl 3 rfl) ?_
    refine lv_aload_n S.1 S.2.1 dL_law_977 rfl (lv_at hl 1 rfl) ?_
    refine lv_iload S.1 S.2.1 dL_law_978 (lv_at hl 5 rfl) ?_
    refine lv_iconst (v := (nI 1)) S.1 S.2.1 dL_law_980 (by decide) ?_
    refine n_iadd (x := i) (y := 1) S dL_law_981 ?_
    refine n_sld (j := i + 1) S hX hbl hS (by omega) (by omega) dL_law_982 ?_
    rw [hu1]
    refine lv_aload_n S.1 S.2.1 dL_law_983 rfl (lv_at hl 1 rfl) ?_
    refine lv_iload S.1 S.2.1 dL_law_984 (lv_at hl 5 rfl) ?_
    refine lv_iconst (v := (nI 2)) S.1 S.2.1 dL_law_986 (by decide) ?_
    refine n_iadd (x := i) (y := 2) S dL_law_987 ?_
    refine n_sld (j := i + 2) S hX hbl hS (by omega) (by omega) dL_law_988 ?_
    refine lc_Y (As := [.int (nI w), .int (xs (i + 2))]) (rest := []) S (kX1_tell l dC dI cI cZ cJ d th n mw nf sg fo L le sc li ba ca wa w (xs (i + 2)) hI h1) hK hP hD hS rfl (va_recv hK hP (ci := 1) (q0 := 11) rfl rfl) gL_123 hdX1_tell (by decide) hl.1 rfl (Nat.le_of_ble_eq_true rfl) dL_law_989 hc0 (fun H locs hP hD hS => ?_)
    have hP : va_P (dC, dI) vcl (vX cI cZ a n mw nf sg fo L le sc li ba ca st ++ ([oc o cJ (vp_updL f 0 (Int32.toInt64 (tel le sc li ba w (xs (i + 2)))))] ++ vY cI cZ d 0 n mw nf sg fo L le sc li ba ca wa)) H := hP
    have hD : va_D (fun q => s.heap.size ≤ q) (vX cI cZ a n mw nf sg fo L le sc li ba ca st ++ ([oc o cJ (vp_updL f 0 (Int32.toInt64 (tel le sc li ba w (xs (i + 2)))))] ++ vY cI cZ d 0 n mw nf sg fo L le sc li ba ca wa)) := hD
    refine lv_istore (lv' := [(6, .int (tel le sc li ba w (xs (i + 2)))), (5, .int (nI 0)), (0, .ref b), (1, .ref (a 0)), (2, .ref (d 0)), (3, .ref o), (4, .int (nI i))]) S.1 S.2.1 dL_law_992 hl (by decide) rfl (fun ls hl => ?_)
    refine lv_aload_n S.1 S.2.1 dL_law_994 rfl (lv_at hl 4 rfl) ?_
    refine rd_callV (C := RX1) (As := []) (rest := []) S (kX1_thrown l dC dI cI cZ cJ d 0 n mw nf sg fo L le sc li ba ca wa) rB_blind (fun U hU hW => ⟨by rw [hU]; exact lsY hP, va_K.moved hW.alike hK⟩) (va_recv hK hP (ci := 1) (q0 := 11) rfl rfl) gL_76 hdX1_thrown (by decide) hl.1 rfl (Nat.le_of_ble_eq_true rfl) dL_law_995 hc0 ?_
    refine lv_iload S.1 S.2.1 dL_law_998 (lv_at hl 1 rfl) ?_
    refine lv_icmp_eq (tgt := 1005) S.1 S.2.1 dL_law_1000 (by decide) (fun _ => ?_) (fun h => absurd rfl h)
    refine lv_iload S.1 S.2.1 dL_law_1005 (lv_at hl 1 rfl) ?_
    refine lv_if_ne (tgt := 1022) S.1 S.2.1 dL_law_1007 (by decide) (fun h => absurd (by decide) h) (fun _ => ?_)
    refine lv_aload_n S.1 S.2.1 dL_law_1010 rfl (lv_at hl 5 rfl) ?_
    refine lv_iconst (v := (nI 0)) S.1 S.2.1 dL_law_1011 (by decide) ?_
    refine n_lald S hK hP 10 2 rfl rfl dL_law_1012 ?_
    refine lv_iload S.1 S.2.1 dL_law_1013 (lv_at hl 0 rfl) ?_
    refine lv_i2l (v := Int32.toInt64 (tel le sc li ba w (xs (i + 2)))) S.1 S.2.1 dL_law_1015 rfl ?_
    refine n_lcmp S dL_law_1016 ?_
    refine lv_if_eq (tgt := 1022) S.1 S.2.1 dL_law_1017 (by decide) (fun _ => ?_) (fun h => absurd rfl h)
    refine lv_goto (tgt := 1081) S.1 S.2.1 dL_law_1022 (by decide) ?_
    refine W.widen (k := cells + 1) (n := slots + 6) (by omega) (by omega) ?_
    exact kk 0 n mw nf sg fo L le sc li ba ca st wa (vp_updL f 0 (Int32.toInt64 (tel le sc li ba w (xs (i + 2))))) hI H locs hP hD hS ls (lv_sub hl [2, 3, 4, 5, 6] rfl)

set_option maxRecDepth 100000 in
set_option maxHeartbeats 4000000 in
theorem lc_common {p : Program} {l : Launch} {e : Env} {s : State} {m : MethodId} {below : List Frame} {meth : Method} {c : Code} {dC : Nat → ClassId} {dI : Nat → Nat → Nat} {cI cZ cJ : ClassId} {a d : Nat → Nat} {o b i cells slots Ln : Nat} {xs : Nat → Int32} (hfl : l.flags = flags0) (S : CallFix p m c cL_law 7 s #[Value.ref b] tbG RL) (ht : twS s) (hK : va_K (dC, dI) vcl (vty cI cZ cJ) s) (hX : va_X b Ln xs s s.heap) (hbl : b < s.heap.size) (hLn : Ln ≤ 2560) (hi5 : i + 5 ≤ Ln) (hc1 : cells + 1 ≤ room_1.cells ∧ slots + 6 ≤ room_1.slots)
    (kk : lK p l e s m below meth c dC dI cI cZ cJ a d o b i cells slots) (th n mw nf : Nat) (sg fo L le sc li ba ca st : Nat → Nat) (wa : Nat → Int32) (f : Nat → Int64) (hI : iv n mw nf sg fo L le sc li ba ca) (H : Heap) (locs : List Loc) (hP : va_P (dC, dI) vcl (vX cI cZ a n mw nf sg fo L le sc li ba ca st ++ ([oc o cJ f] ++ vY cI cZ d th n mw nf sg fo L le sc li ba ca wa)) H) (hD : va_D (fun q => s.heap.size ≤ q) (vX cI cZ a n mw nf sg fo L le sc li ba ca st ++ ([oc o cJ f] ++ vY cI cZ d th n mw nf sg fo L le sc li ba ca wa))) (hS : va_S (fun q => s.heap.size ≤ q) s.heap H locs)
    (ls : Array Slot) (hl : lv_has ls 7 [(0, .ref b), (1, .ref (a 0)), (2, .ref (d 0)), (3, .ref o), (4, .int (nI i))]) : W p l e room_1 s m #[Value.ref b] below meth c H locs cells slots (lw_Z below #[Value.ref b] s) (F0 m 1025 ls []) := by
  have hc0 : cells ≤ room_1.cells ∧ slots ≤ room_1.slots := ⟨by omega, by omega⟩
  have hn := hI.1.1
  have hm := hI.1.2.1
  have hf := hI.1.2.2
  rcases sp_Li (xs (i + 1)) with h1 | ⟨t, h1, hu1⟩
  · refine lv_aload_n S.1 S.2.1 dL_law_1025 rfl (lv_at hl 1 rfl) ?_
    refine lv_aload_n S.1 S.2.1 dL_law_1026 rfl (lv_at hl 0 rfl) ?_
    refine lv_iload S.1 S.2.1 dL_law_1027 (lv_at hl 4 rfl) ?_
    refine lv_iconst (v := (nI 1)) S.1 S.2.1 dL_law_1029 (by decide) ?_
    refine n_iadd (x := i) (y := 1) S dL_law_1030 ?_
    refine n_sld (j := i + 1) S hX hbl hS (by omega) (by omega) dL_law_1031 ?_
    refine lv_aload_n S.1 S.2.1 dL_law_1032 rfl (lv_at hl 3 rfl) ?_
    refine lc_T (As := [.ref (a 0), .int (xs (i + 1)), .ref o]) (rest := []) S ht (kL_commonE l dC dI cI cZ cJ a n mw nf sg fo L le sc li ba ca st o f hfl (xs (i + 1)) h1) hK hP hS hw_common hdL_common (by decide) hl.1 rfl (Nat.le_of_ble_eq_true rfl) dL_law_1033 hc1 (fun H hP hS => ?_)
    refine lv_istore (lv' := [(5, .int (nI 1)), (0, .ref b), (1, .ref (a 0)), (2, .ref (d 0)), (3, .ref o), (4, .int (nI i))]) S.1 S.2.1 dL_law_1036 hl (by decide) rfl (fun ls hl => ?_)
    refine lv_aload_n S.1 S.2.1 dL_law_1038 rfl (lv_at hl 3 rfl) ?_
    refine lv_aload_n S.1 S.2.1 dL_law_1039 rfl (lv_at hl 1 rfl) ?_
    refine lv_iload S.1 S.2.1 dL_law_1040 (lv_at hl 5 rfl) ?_
    refine lv_iconst (v := (nI 1)) S.1 S.2.1 dL_law_1042 (by decide) ?_
    refine n_iadd (x := i) (y := 1) S dL_law_1043 ?_
    refine n_sld (j := i + 1) S hX hbl hS (by omega) (by omega) dL_law_1044 ?_
    refine lc_Y (As := [.int (xs (i + 1))]) (rest := []) S (kX1_commonF l dC dI cI cZ cJ d th n mw nf sg fo L le sc li ba ca wa (xs (i + 1)) h1) hK hP hD hS rfl (va_recv hK hP (ci := 1) (q0 := 11) rfl rfl) gL_126 hdX1_common (by decide) hl.1 rfl (Nat.le_of_ble_eq_true rfl) dL_law_1045 hc1 (fun H locs hP hD hS => ?_)
    have hP : va_P (dC, dI) vcl (vX cI cZ a n mw nf sg fo L le sc li ba ca st ++ ([oc o cJ f] ++ vY cI cZ d 1 n mw nf sg fo L le sc li ba ca wa)) H := hP
    have hD : va_D (fun q => s.heap.size ≤ q) (vX cI cZ a n mw nf sg fo L le sc li ba ca st ++ ([oc o cJ f] ++ vY cI cZ d 1 n mw nf sg fo L le sc li ba ca wa)) := hD
    refine lv_istore (lv' := [(6, .int (nI 0)), (5, .int (nI 1)), (0, .ref b), (1, .ref (a 0)), (2, .ref (d 0)), (3, .ref o), (4, .int (nI i))]) S.1 S.2.1 dL_law_1048 hl (by decide) rfl (fun ls hl => ?_)
    refine lv_aload_n S.1 S.2.1 dL_law_1050 rfl (lv_at hl 4 rfl) ?_
    refine rd_callV (C := RX1) (As := []) (rest := []) S (kX1_thrown l dC dI cI cZ cJ d 1 n mw nf sg fo L le sc li ba ca wa) rB_blind (fun U hU hW => ⟨by rw [hU]; exact lsY hP, va_K.moved hW.alike hK⟩) (va_recv hK hP (ci := 1) (q0 := 11) rfl rfl) gL_76 hdX1_thrown (by decide) hl.1 rfl (Nat.le_of_ble_eq_true rfl) dL_law_1051 hc1 ?_
    refine lv_iload S.1 S.2.1 dL_law_1054 (lv_at hl 1 rfl) ?_
    refine lv_icmp_eq (tgt := 1061) S.1 S.2.1 dL_law_1056 (by decide) (fun _ => ?_) (fun h => absurd rfl h)
    refine lv_iload S.1 S.2.1 dL_law_1061 (lv_at hl 1 rfl) ?_
    refine lv_if_ne (tgt := 1078) S.1 S.2.1 dL_law_1063 (by decide) (fun _ => ?_) (fun h => absurd h (by decide))
    refine lv_goto (tgt := 1081) S.1 S.2.1 dL_law_1078 (by decide) ?_
    exact kk 1 n mw nf sg fo L le sc li ba ca st wa f hI H locs hP hD hS ls (lv_sub hl [2, 3, 4, 5, 6] rfl)
  · refine lv_aload_n S.1 S.2.1 dL_law_1025 rfl (lv_at hl 1 rfl) ?_
    refine lv_aload_n S.1 S.2.1 dL_law_1026 rfl (lv_at hl 0 rfl) ?_
    refine lv_iload S.1 S.2.1 dL_law_1027 (lv_at hl 4 rfl) ?_
    refine lv_iconst (v := (nI 1)) S.1 S.2.1 dL_law_1029 (by decide) ?_
    refine n_iadd (x := i) (y := 1) S dL_law_1030 ?_
    refine n_sld (j := i + 1) S hX hbl hS (by omega) (by omega) dL_law_1031 ?_
    rw [hu1]
    refine lv_aload_n S.1 S.2.1 dL_law_1032 rfl (lv_at hl 3 rfl) ?_
    refine lc_W (As := [.ref (a 0), .int (nI t), .ref o]) (rest := []) S (kL_common l dC dI cI cZ cJ a n mw nf sg fo L le sc li ba ca st o f t hI h1) hK hP hD hS (fun _ => rfl) hw_common hdL_common (by decide) hl.1 rfl (Nat.le_of_ble_eq_true rfl) dL_law_1033 hc0 (fun _ H locs hP hD hS => ?_)
    have hP : va_P (dC, dI) vcl ((vX cI cZ a n mw nf sg fo L le sc li ba ca st ++ [oc o cJ (vp_updL f 0 (Int32.toInt64 (nI ((cmn L le li ba t mw).2))))]) ++ vY cI cZ d th n mw nf sg fo L le sc li ba ca wa) H := hP
    have hD : va_D (fun q => s.heap.size ≤ q) ((vX cI cZ a n mw nf sg fo L le sc li ba ca st ++ [oc o cJ (vp_updL f 0 (Int32.toInt64 (nI ((cmn L le li ba t mw).2))))]) ++ vY cI cZ d th n mw nf sg fo L le sc li ba ca wa) := hD
    rw [List.append_assoc] at hP hD
    refine lv_istore (lv' := [(5, .int (nI 0)), (0, .ref b), (1, .ref (a 0)), (2, .ref (d 0)), (3, .ref o), (4, .int (nI i))]) S.1 S.2.1 dL_law_1036 hl (by decide) rfl (fun ls hl => ?_)
    refine lv_aload_n S.1 S.2.1 dL_law_1038 rfl (lv_at hl 3 rfl) ?_
    refine lv_aload_n S.1 S.2.1 dL_law_1039 rfl (lv_at hl 1 rfl) ?_
    refine lv_iload S.1 S.2.1 dL_law_1040 (lv_at hl 5 rfl) ?_
    refine lv_iconst (v := (nI 1)) S.1 S.2.1 dL_law_1042 (by decide) ?_
    refine n_iadd (x := i) (y := 1) S dL_law_1043 ?_
    refine n_sld (j := i + 1) S hX hbl hS (by omega) (by omega) dL_law_1044 ?_
    rw [hu1]
    refine lc_Y (As := [.int (nI t)]) (rest := []) S (kX1_common l dC dI cI cZ cJ d th n mw nf sg fo L le sc li ba ca wa t hI h1) hK hP hD hS rfl (va_recv hK hP (ci := 1) (q0 := 11) rfl rfl) gL_126 hdX1_common (by decide) hl.1 rfl (Nat.le_of_ble_eq_true rfl) dL_law_1045 hc0 (fun H locs hP hD hS => ?_)
    have hP : va_P (dC, dI) vcl (vX cI cZ a n mw nf sg fo L le sc li ba ca st ++ ([oc o cJ (vp_updL f 0 (Int32.toInt64 (nI ((cmn L le li ba t mw).2))))] ++ vY cI cZ d 0 n mw nf sg fo L le sc li ba ca wa)) H := hP
    have hD : va_D (fun q => s.heap.size ≤ q) (vX cI cZ a n mw nf sg fo L le sc li ba ca st ++ ([oc o cJ (vp_updL f 0 (Int32.toInt64 (nI ((cmn L le li ba t mw).2))))] ++ vY cI cZ d 0 n mw nf sg fo L le sc li ba ca wa)) := hD
    refine lv_istore (lv' := [(6, .int (nI ((cmn L le li ba t mw).2))), (5, .int (nI 0)), (0, .ref b), (1, .ref (a 0)), (2, .ref (d 0)), (3, .ref o), (4, .int (nI i))]) S.1 S.2.1 dL_law_1048 hl (by decide) rfl (fun ls hl => ?_)
    refine lv_aload_n S.1 S.2.1 dL_law_1050 rfl (lv_at hl 4 rfl) ?_
    refine rd_callV (C := RX1) (As := []) (rest := []) S (kX1_thrown l dC dI cI cZ cJ d 0 n mw nf sg fo L le sc li ba ca wa) rB_blind (fun U hU hW => ⟨by rw [hU]; exact lsY hP, va_K.moved hW.alike hK⟩) (va_recv hK hP (ci := 1) (q0 := 11) rfl rfl) gL_76 hdX1_thrown (by decide) hl.1 rfl (Nat.le_of_ble_eq_true rfl) dL_law_1051 hc0 ?_
    refine lv_iload S.1 S.2.1 dL_law_1054 (lv_at hl 1 rfl) ?_
    refine lv_icmp_eq (tgt := 1061) S.1 S.2.1 dL_law_1056 (by decide) (fun _ => ?_) (fun h => absurd rfl h)
    refine lv_iload S.1 S.2.1 dL_law_1061 (lv_at hl 1 rfl) ?_
    refine lv_if_ne (tgt := 1078) S.1 S.2.1 dL_law_1063 (by decide) (fun h => absurd (by decide) h) (fun _ => ?_)
    refine lv_aload_n S.1 S.2.1 dL_law_1066 rfl (lv_at hl 5 rfl) ?_
    refine lv_iconst (v := (nI 0)) S.1 S.2.1 dL_law_1067 (by decide) ?_
    refine n_lald S hK hP 10 2 rfl rfl dL_law_1068 ?_
    refine lv_iload S.1 S.2.1 dL_law_1069 (lv_at hl 0 rfl) ?_
    refine lv_i2l (v := Int32.toInt64 (nI ((cmn L le li ba t mw).2))) S.1 S.2.1 dL_law_1071 rfl ?_
    refine n_lcmp S dL_law_1072 ?_
    refine lv_if_eq (tgt := 1078) S.1 S.2.1 dL_law_1073 (by decide) (fun _ => ?_) (fun h => absurd rfl h)
    refine lv_goto (tgt := 1081) S.1 S.2.1 dL_law_1078 (by decide) ?_
    refine W.widen (k := cells + 1) (n := slots + 6) (by omega) (by omega) ?_
    exact kk 0 n mw nf sg fo L le sc li ba ca st wa (vp_updL f 0 (Int32.toInt64 (nI ((cmn L le li ba t mw).2)))) hI H locs hP hD hS ls (lv_sub hl [2, 3, 4, 5, 6] rfl)
