/-! ===== the reference: writers, second part ===== -/
theorem up_all {P : Nat → Nat → Prop} {f : Nat → Nat} {q x : Nat} (h : ∀ k, P k (f k)) (hx : P q x) : ∀ k, P k (va_up f q x k) := fun k => by
  by_cases z : k = q
  · rw [z, va_up_self]; exact hx
  · rw [va_up_ne _ _ z]; exact h k
theorem no3 {x : Int32} (h : ¬ x < 0) (h2 : x ≤ nI 2) : ¬ (¬ x = nI 0 ∧ ¬ x = nI 1 ∧ ¬ x = nI 2) := by
  obtain ⟨j, hj, rfl⟩ := nI_of h
  have := (nI_leI hj (by decide)).mp h2
  rintro ⟨a, b, c⟩
  rcases (show j = 0 ∨ j = 1 ∨ j = 2 by omega) with rfl | rfl | rfl
  · exact a rfl
  · exact b rfl
  · exact c rfl
def cbe (n : Nat) (sg fo L le li ba : Nat → Nat) (t : Nat) (o : Bool) (w : Nat) : Bool := fre li ba t w && (decide (n ≤ le w) && mat n sg fo L w (if o = true then le w - n else 0))
theorem cbe_bgn {n : Nat} {sg fo L le li ba : Nat → Nat} {t : Nat} : cbe n sg fo L le li ba t false = bgn n sg fo L le li ba t := rfl
theorem cbe_edn {n : Nat} {sg fo L le li ba : Nat → Nat} {t : Nat} : cbe n sg fo L le li ba t true = edn n sg fo L le li ba t := rfl
set_option maxRecDepth 100000 in
set_option maxHeartbeats 1000000 in
theorem kX1_mergeF (l : Launch) (dC : Nat → ClassId) (dI : Nat → Nat → Nat) (cI cZ cJ : ClassId) (a : Nat → Nat) (th n mw nf : Nat) (sg fo L le sc li ba ca : Nat → Nat) (wa : Nat → Int32) (x : Int32) (u : Int32) (v : Int32) (z : Int32) (hu : isLi u = false ∨ isLi v = false ∨ isLi z = false) : wr l yX1_merge cX1_merge 10 (some .int) 1 21 [.ref (a 0), .int x, .int u, .int v, .int z] dC dI cI cZ cJ (vY cI cZ a th n mw nf sg fo L le sc li ba ca wa) (vY cI cZ a 1 n mw nf sg fo L le sc li ba ca wa) (some (.int (nI (0)))) := by
  refine wr_ofW RX1 (by decide) rfl (Nat.le_of_ble_eq_true rfl) ?_
  intro p e s m below meth c S hr hlk hK hP hD hS ls hl
  have hl : lv_has ls 10 [(0, .ref (a 0)), (1, .int x), (2, .int u), (3, .int v), (4, .int z)] := hl
  refine lv_aload_n S.1 S.2.1 dX1_merge_0 rfl (lv_at hl 0 rfl) ?_
  refine lv_iload_n S.1 S.2.1 dX1_merge_1 rfl (lv_at hl 2 rfl) ?_
  refine rd_callS (As := [.int u]) (rest := [.ref (a 0)]) S (kX1_isList l u) tr_blind (fun _ _ _ => trivial) gX1_68 hdX1_isList (by decide) hl.1 rfl (Nat.le_of_ble_eq_true rfl) dX1_merge_2 ⟨Nat.zero_le _, Nat.zero_le _⟩ ?_
  refine n_bif_eq (b := isLi u) (tgt := 23) S dX1_merge_5 (by decide) (fun h5 => ?_) (fun h5 => ?_)
  · refine lv_iconst (v := (nI 1)) S.1 S.2.1 dX1_merge_23 (by decide) ?_
    refine lv_goto (tgt := 28) S.1 S.2.1 dX1_merge_24 (by decide) ?_
    refine wr_callV (C := RX1) (As := [.int (nI 1)]) (rest := []) S (kX1_fails l dC dI cI cZ cJ a th n mw nf sg fo L le sc li ba ca wa true) hK [] [] hP hD hS rfl (va_recv hK hP (ci := 1) (q0 := 0) rfl rfl) gX1_52 hdX1_fails (by decide) hl.1 rfl (Nat.le_of_ble_eq_true rfl) dX1_merge_28 ⟨Nat.zero_le _, Nat.zero_le _⟩ (fun H locs hP hD hS => ?_)
    have hP : va_P (dC, dI) vcl (vY cI cZ a 1 n mw nf sg fo L le sc li ba ca wa) H := hP
    have hD : va_D (wF (vY cI cZ a th n mw nf sg fo L le sc li ba ca wa)) (vY cI cZ a 1 n mw nf sg fo L le sc li ba ca wa) := hD
    refine n_bif_eq (b := true) (tgt := 36) S dX1_merge_31 (by decide) (fun h31 => ?_) (fun h31 => ?_)
    · exact absurd h31 (by decide)
    · refine lv_iconst (v := (nI 0)) S.1 S.2.1 dX1_merge_34 (by decide) ?_
      exact wr_ret S hr hlk (rfl) (rfl) hP (rfl) hS dX1_merge_35
  · refine lv_iload_n S.1 S.2.1 dX1_merge_8 rfl (lv_at hl 3 rfl) ?_
    refine rd_callS (As := [.int v]) (rest := [.ref (a 0)]) S (kX1_isList l v) tr_blind (fun _ _ _ => trivial) gX1_68 hdX1_isList (by decide) hl.1 rfl (Nat.le_of_ble_eq_true rfl) dX1_merge_9 ⟨Nat.zero_le _, Nat.zero_le _⟩ ?_
    refine n_bif_eq (b := isLi v) (tgt := 23) S dX1_merge_12 (by decide) (fun h12 => ?_) (fun h12 => ?_)
    · refine lv_iconst (v := (nI 1)) S.1 S.2.1 dX1_merge_23 (by decide) ?_
      refine lv_goto (tgt := 28) S.1 S.2.1 dX1_merge_24 (by decide) ?_
      refine wr_callV (C := RX1) (As := [.int (nI 1)]) (rest := []) S (kX1_fails l dC dI cI cZ cJ a th n mw nf sg fo L le sc li ba ca wa true) hK [] [] hP hD hS rfl (va_recv hK hP (ci := 1) (q0 := 0) rfl rfl) gX1_52 hdX1_fails (by decide) hl.1 rfl (Nat.le_of_ble_eq_true rfl) dX1_merge_28 ⟨Nat.zero_le _, Nat.zero_le _⟩ (fun H locs hP hD hS => ?_)
      have hP : va_P (dC, dI) vcl (vY cI cZ a 1 n mw nf sg fo L le sc li ba ca wa) H := hP
      have hD : va_D (wF (vY cI cZ a th n mw nf sg fo L le sc li ba ca wa)) (vY cI cZ a 1 n mw nf sg fo L le sc li ba ca wa) := hD
      refine n_bif_eq (b := true) (tgt := 36) S dX1_merge_31 (by decide) (fun h31 => ?_) (fun h31 => ?_)
      · exact absurd h31 (by decide)
      · refine lv_iconst (v := (nI 0)) S.1 S.2.1 dX1_merge_34 (by decide) ?_
        exact wr_ret S hr hlk (rfl) (rfl) hP (rfl) hS dX1_merge_35
    · refine lv_iload S.1 S.2.1 dX1_merge_15 (lv_at hl 4 rfl) ?_
      refine rd_callS (As := [.int z]) (rest := [.ref (a 0)]) S (kX1_isList l z) tr_blind (fun _ _ _ => trivial) gX1_68 hdX1_isList (by decide) hl.1 rfl (Nat.le_of_ble_eq_true rfl) dX1_merge_17 ⟨Nat.zero_le _, Nat.zero_le _⟩ ?_
      refine n_bif_ne (b := isLi z) (tgt := 27) S dX1_merge_20 (by decide) (fun h20 => ?_) (fun h20 => ?_)
      · exact absurd hu (by rw [h5, h12, h20]; decide)
      · refine lv_iconst (v := (nI 1)) S.1 S.2.1 dX1_merge_23 (by decide) ?_
        refine lv_goto (tgt := 28) S.1 S.2.1 dX1_merge_24 (by decide) ?_
        refine wr_callV (C := RX1) (As := [.int (nI 1)]) (rest := []) S (kX1_fails l dC dI cI cZ cJ a th n mw nf sg fo L le sc li ba ca wa true) hK [] [] hP hD hS rfl (va_recv hK hP (ci := 1) (q0 := 0) rfl rfl) gX1_52 hdX1_fails (by decide) hl.1 rfl (Nat.le_of_ble_eq_true rfl) dX1_merge_28 ⟨Nat.zero_le _, Nat.zero_le _⟩ (fun H locs hP hD hS => ?_)
        have hP : va_P (dC, dI) vcl (vY cI cZ a 1 n mw nf sg fo L le sc li ba ca wa) H := hP
        have hD : va_D (wF (vY cI cZ a th n mw nf sg fo L le sc li ba ca wa)) (vY cI cZ a 1 n mw nf sg fo L le sc li ba ca wa) := hD
        refine n_bif_eq (b := true) (tgt := 36) S dX1_merge_31 (by decide) (fun h31 => ?_) (fun h31 => ?_)
        · exact absurd h31 (by decide)
        · refine lv_iconst (v := (nI 0)) S.1 S.2.1 dX1_merge_34 (by decide) ?_
          exact wr_ret S hr hlk (rfl) (rfl) hP (rfl) hS dX1_merge_35

set_option maxRecDepth 100000 in
set_option maxHeartbeats 1000000 in
theorem kX1_mergeN (l : Launch) (dC : Nat → ClassId) (dI : Nat → Nat → Nat) (cI cZ cJ : ClassId) (a : Nat → Nat) (th n mw nf : Nat) (sg fo L le sc li ba ca : Nat → Nat) (wa : Nat → Int32) (x : Int32) (t : Nat) (u : Nat) (v : Nat) (hI : iv n mw nf sg fo L le sc li ba ca) (ht : t < 4) (hu : u < 4) (hv : v < 4) (hx : ¬ x = nI 0 ∧ ¬ x = nI 1 ∧ ¬ x = nI 2) : wr l yX1_merge cX1_merge 10 (some .int) 1 21 [.ref (a 0), .int x, .int (nI t), .int (nI u), .int (nI v)] dC dI cI cZ cJ (vY cI cZ a th n mw nf sg fo L le sc li ba ca wa) (vY cI cZ a 0 n mw nf sg fo L le sc li ba ca wa) (some (.int ((-1 : Int32)))) := by
  refine wr_ofW RX1 (by decide) rfl (Nat.le_of_ble_eq_true rfl) ?_
  intro p e s m below meth c S hr hlk hK hP hD hS ls hl
  have hl : lv_has ls 10 [(0, .ref (a 0)), (1, .int x), (2, .int (nI t)), (3, .int (nI u)), (4, .int (nI v))] := hl
  obtain ⟨⟨hn, hm, hf⟩, ⟨hsg, hfo, hL, hle, hsc, hli, hba, hca⟩, hv1, hv2, hv3, hv4, hv5, hv6, hv7⟩ := id hI
  refine lv_aload_n S.1 S.2.1 dX1_merge_0 rfl (lv_at hl 0 rfl) ?_
  refine lv_iload_n S.1 S.2.1 dX1_merge_1 rfl (lv_at hl 2 rfl) ?_
  refine rd_callS (As := [.int (nI t)]) (rest := [.ref (a 0)]) S (kX1_isList l ((nI t))) tr_blind (fun _ _ _ => trivial) gX1_68 hdX1_isList (by decide) hl.1 rfl (Nat.le_of_ble_eq_true rfl) dX1_merge_2 ⟨Nat.zero_le _, Nat.zero_le _⟩ ?_
  rw [isLi_n ht]
  refine n_bif_eq (b := true) (tgt := 23) S dX1_merge_5 (by decide) (fun h5 => ?_) (fun h5 => ?_)
  · exact absurd h5 (by decide)
  · refine lv_iload_n S.1 S.2.1 dX1_merge_8 rfl (lv_at hl 3 rfl) ?_
    refine rd_callS (As := [.int (nI u)]) (rest := [.ref (a 0)]) S (kX1_isList l (nI u)) tr_blind (fun _ _ _ => trivial) gX1_68 hdX1_isList (by decide) hl.1 rfl (Nat.le_of_ble_eq_true rfl) dX1_merge_9 ⟨Nat.zero_le _, Nat.zero_le _⟩ ?_
    rw [isLi_n hu]
    refine n_bif_eq (b := true) (tgt := 23) S dX1_merge_12 (by decide) (fun h12 => ?_) (fun h12 => ?_)
    · exact absurd h12 (by decide)
    · refine lv_iload S.1 S.2.1 dX1_merge_15 (lv_at hl 4 rfl) ?_
      refine rd_callS (As := [.int (nI v)]) (rest := [.ref (a 0)]) S (kX1_isList l (nI v)) tr_blind (fun _ _ _ => trivial) gX1_68 hdX1_isList (by decide) hl.1 rfl (Nat.le_of_ble_eq_true rfl) dX1_merge_17 ⟨Nat.zero_le _, Nat.zero_le _⟩ ?_
      rw [isLi_n hv]
      refine n_bif_ne (b := true) (tgt := 27) S dX1_merge_20 (by decide) (fun h20 => ?_) (fun h20 => ?_)
      · refine lv_iconst (v := (nI 0)) S.1 S.2.1 dX1_merge_27 (by decide) ?_
        refine wr_callV (C := RX1) (As := [.int (nI 0)]) (rest := []) S (kX1_fails l dC dI cI cZ cJ a th n mw nf sg fo L le sc li ba ca wa false) hK [] [] hP hD hS rfl (va_recv hK hP (ci := 1) (q0 := 0) rfl rfl) gX1_52 hdX1_fails (by decide) hl.1 rfl (Nat.le_of_ble_eq_true rfl) dX1_merge_28 ⟨Nat.zero_le _, Nat.zero_le _⟩ (fun H locs hP hD hS => ?_)
        have hP : va_P (dC, dI) vcl (vY cI cZ a 0 n mw nf sg fo L le sc li ba ca wa) H := hP
        have hD : va_D (wF (vY cI cZ a th n mw nf sg fo L le sc li ba ca wa)) (vY cI cZ a 0 n mw nf sg fo L le sc li ba ca wa) := hD
        refine n_bif_eq (b := false) (tgt := 36) S dX1_merge_31 (by decide) (fun h31 => ?_) (fun h31 => ?_)
        · refine lv_iload_n S.1 S.2.1 dX1_merge_36 rfl (lv_at hl 1 rfl) ?_
          refine lv_if_lt (tgt := 45) S.1 S.2.1 dX1_merge_37 (by decide) (fun h37 => ?_) (fun h37 => ?_)
          · refine lv_iconst (v := -1) S.1 S.2.1 dX1_merge_45 (by decide) ?_
            exact wr_ret S hr hlk (rfl) (rfl) hP (rfl) hS dX1_merge_46
          · refine lv_iload_n S.1 S.2.1 dX1_merge_40 rfl (lv_at hl 1 rfl) ?_
            refine lv_iconst (v := (nI 2)) S.1 S.2.1 dX1_merge_41 (by decide) ?_
            refine lv_icmp_le (tgt := 47) S.1 S.2.1 dX1_merge_42 (by decide) (fun h42 => ?_) (fun h42 => ?_)
            · exact absurd hx (no3 h37 h42)
            · refine lv_iconst (v := -1) S.1 S.2.1 dX1_merge_45 (by decide) ?_
              exact wr_ret S hr hlk (rfl) (rfl) hP (rfl) hS dX1_merge_46
        · exact absurd h31 (by decide)
      · exact absurd h20 (by decide)

set_option maxRecDepth 100000 in
set_option maxHeartbeats 1000000 in
theorem lX1_merge_53 (l : Launch) (dC : Nat → ClassId) (dI : Nat → Nat → Nat) (cI cZ cJ : ClassId) (a : Nat → Nat) (th n mw nf : Nat) (sg fo L le sc li ba ca : Nat → Nat) (wa : Nat → Int32) (hw : Nat) (t : Nat) (u : Nat) (v : Nat) (hI : iv n mw nf sg fo L le sc li ba ca) (hh : hw < 3) (ht : t < 4) (hu : u < 4) (hv : v < 4)  {p : Program} {e : Env} {s : State} {m : MethodId} {below : List Frame} {meth : Method} {c : Code} (S : CallFix p m c cX1_merge 10 s ([.ref (a 0), .int (nI hw), .int (nI t), .int (nI u), .int (nI v)] : List Value).toArray tbG RX1) (hr : meth.sig.returnType = (some .int)) (hlk : meth.locks = false) (hK : va_K (dC, dI) vcl (vty cI cZ cJ) s) :
    ∀ (fuel : Nat) (i : Nat) (k : Nat), mw - i < fuel → i ≤ mw → k = cnt (mgP hw u v li) i → ∀ (H : Heap) (locs : List Loc), va_P (dC, dI) vcl (vY cI cZ a 0 n mw nf sg fo L le sc (mgF hw t u v li i) ba ca wa) H → va_D (wF (vY cI cZ a th n mw nf sg fo L le sc li ba ca wa)) (vY cI cZ a 0 n mw nf sg fo L le sc (mgF hw t u v li i) ba ca wa) → va_S (wF (vY cI cZ a th n mw nf sg fo L le sc li ba ca wa)) s.heap H locs → ∀ ls : Array Slot, lv_has ls 10 [(0, .ref (a 0)), (1, .int (nI hw)), (2, .int (nI t)), (3, .int (nI u)), (4, .int (nI v)), (5, .int (nI k)), (6, .int (nI i))] → W p l e ({ frames := 1, cells := 0, slots := 0, locals := 22 } : Room) s m ([.ref (a 0), .int (nI hw), .int (nI t), .int (nI u), .int (nI v)] : List Value).toArray below meth c H locs 0 0 (MQ below (Qw dC dI (vY cI cZ a th n mw nf sg fo L le sc li ba ca wa) (vY cI cZ a 0 n mw nf sg fo L le sc (mgF hw t u v li mw) ba ca wa) (some (.int (nI (cnt (mgP hw u v li) mw))))) ([.ref (a 0), .int (nI hw), .int (nI t), .int (nI u), .int (nI v)] : List Value).toArray s 0 0 (wF (vY cI cZ a th n mw nf sg fo L le sc li ba ca wa))) (F0 m 53 ls []) := by
  obtain ⟨⟨hn, hm, hf⟩, ⟨hsg, hfo, hL, hle, hsc, hli, hba, hca⟩, hv1, hv2, hv3, hv4, hv5, hv6, hv7⟩ := id hI
  intro fuel
  induction fuel with
  | zero =>
    intro i k hq
    exact absurd hq (Nat.not_lt_zero _)
  | succ fuel ih =>
    intro i k hq hi hk H locs hP hD hS ls hl
    have hki := cnt_le (mgP hw u v li) i
    have hI2 := iv_mg hI hw t u v i ht hi
    refine lv_iload S.1 S.2.1 dX1_merge_53 (lv_at hl 6 rfl) ?_
    refine lv_aload_n S.1 S.2.1 dX1_merge_55 rfl (lv_at hl 0 rfl) ?_
    refine fX1_many (v := .int (nI mw)) S hK hP rfl rfl dX1_merge_56 ?_
    refine n_icmp_ge (x := i) (y := mw) (tgt := 203) S dX1_merge_59 (by decide) (by omega) (by omega) (fun h59 => ?_) (fun h59 => ?_)
    · refine lv_iload S.1 S.2.1 dX1_merge_203 (lv_at hl 5 rfl) ?_
      exact wr_ret S hr hlk (rfl) (by rw [hk, show i = mw by omega]) hP (by rw [show i = mw by omega]) hS dX1_merge_205
    · refine lv_aload_n S.1 S.2.1 dX1_merge_62 rfl (lv_at hl 0 rfl) ?_
      refine lv_iload S.1 S.2.1 dX1_merge_63 (lv_at hl 6 rfl) ?_
      refine lv_iload_n S.1 S.2.1 dX1_merge_65 rfl (lv_at hl 3 rfl) ?_
      refine rd_callV (C := RX1) (As := [.int (nI i), .int (nI u)]) (rest := []) S (kX1_isIn l dC dI cI cZ cJ a 0 n mw nf sg fo L le sc (mgF hw t u v li i) ba ca wa i u hI2 (by omega) hu) rB_blind (fun U hU hW => ⟨by rw [hU]; exact hP, va_K.moved hW.alike hK⟩) (va_recv hK hP (ci := 1) (q0 := 0) rfl rfl) gX1_78 hdX1_isIn (by decide) hl.1 rfl (Nat.le_of_ble_eq_true rfl) dX1_merge_66 ⟨Nat.zero_le _, Nat.zero_le _⟩ ?_
      rw [mgF_in]
      refine lv_istore (lv' := [(7, .int (nI (inl li i u).toNat)), (0, .ref (a 0)), (1, .int (nI hw)), (2, .int (nI t)), (3, .int (nI u)), (4, .int (nI v)), (5, .int (nI k)), (6, .int (nI i))]) S.1 S.2.1 dX1_merge_69 hl (by decide) rfl (fun ls hl => ?_)
      refine lv_aload_n S.1 S.2.1 dX1_merge_71 rfl (lv_at hl 1 rfl) ?_
      refine lv_iload S.1 S.2.1 dX1_merge_72 (lv_at hl 7 rfl) ?_
      refine lv_iload S.1 S.2.1 dX1_merge_74 (lv_at hl 5 rfl) ?_
      refine rd_callV (C := RX1) (As := [.int (nI i), .int (nI v)]) (rest := []) S (kX1_isIn l dC dI cI cZ cJ a 0 n mw nf sg fo L le sc (mgF hw t u v li i) ba ca wa i v hI2 (by omega) hv) rB_blind (fun U hU hW => ⟨by rw [hU]; exact hP, va_K.moved hW.alike hK⟩) (va_recv hK hP (ci := 1) (q0 := 0) rfl rfl) gX1_78 hdX1_isIn (by decide) hl.1 rfl (Nat.le_of_ble_eq_true rfl) dX1_merge_76 ⟨Nat.zero_le _, Nat.zero_le _⟩ ?_
      rw [mgF_in]
      refine lv_istore (lv' := [(8, .int (nI (inl li i v).toNat)), (7, .int (nI (inl li i u).toNat)), (0, .ref (a 0)), (1, .int (nI hw)), (2, .int (nI t)), (3, .int (nI u)), (4, .int (nI v)), (5, .int (nI k)), (6, .int (nI i))]) S.1 S.2.1 dX1_merge_79 hl (by decide) rfl (fun ls hl => ?_)
      refine lv_iload_n S.1 S.2.1 dX1_merge_81 rfl (lv_at hl 3 rfl) ?_
      refine n_if_ne (x := hw) (tgt := 103) S dX1_merge_82 (by decide) (by omega) (fun h82 => ?_) (fun h82 => ?_)
      · refine lv_iload_n S.1 S.2.1 dX1_merge_103 rfl (lv_at hl 3 rfl) ?_
        refine lv_iconst (v := (nI 1)) S.1 S.2.1 dX1_merge_104 (by decide) ?_
        refine n_icmp_ne (x := hw) (y := 1) (tgt := 126) S dX1_merge_105 (by decide) (by omega) (by omega) (fun h105 => ?_) (fun h105 => ?_)
        · refine lv_iload S.1 S.2.1 dX1_merge_126 (lv_at hl 1 rfl) ?_
          refine n_bif_eq (b := inl li i u) (tgt := 140) S dX1_merge_128 (by decide) (fun h128 => ?_) (fun h128 => ?_)
          · refine lv_iconst (v := (nI 0)) S.1 S.2.1 dX1_merge_140 (by decide) ?_
            refine lv_istore (lv' := [(9, .int (nI 0)), (8, .int (nI (inl li i v).toNat)), (7, .int (nI (inl li i u).toNat)), (0, .ref (a 0)), (1, .int (nI hw)), (2, .int (nI t)), (3, .int (nI u)), (4, .int (nI v)), (5, .int (nI k)), (6, .int (nI i))]) S.1 S.2.1 dX1_merge_141 hl (by decide) rfl (fun ls hl => ?_)
            refine lv_aload_n S.1 S.2.1 dX1_merge_143 rfl (lv_at hl 3 rfl) ?_
            refine fX1_lists (v := .ref (a 6)) S hK hP rfl rfl dX1_merge_144 ?_
            refine lv_iload S.1 S.2.1 dX1_merge_147 (lv_at hl 9 rfl) ?_
            refine lv_iload S.1 S.2.1 dX1_merge_149 (lv_at hl 0 rfl) ?_
            refine n_if_eq (x := 0) (tgt := 168) S dX1_merge_151 (by decide) (by decide) (fun _ => ?_) (fun q => absurd rfl q)
            refine lv_aload_n S.1 S.2.1 dX1_merge_168 rfl (lv_at hl 3 rfl) ?_
            refine fX1_lists (v := .ref (a 6)) S hK hP rfl rfl dX1_merge_169 ?_
            refine lv_iload S.1 S.2.1 dX1_merge_172 (lv_at hl 9 rfl) ?_
            refine n_iald S hK hP 6 0 rfl rfl dX1_merge_174 (j := i) (by decide) (by omega) ?_
            rw [mgF_at]
            have b174 := hli i
            refine lv_iconst (v := (nI 1)) S.1 S.2.1 dX1_merge_175 (by decide) ?_
            refine lv_iload_n S.1 S.2.1 dX1_merge_176 rfl (lv_at hl 5 rfl) ?_
            refine lv_ishl S.1 S.2.1 dX1_merge_177 ?_
            refine lv_iconst (v := -1) S.1 S.2.1 dX1_merge_178 (by decide) ?_
            refine lv_ixor S.1 S.2.1 dX1_merge_179 ?_
            refine lv_iand S.1 S.2.1 dX1_merge_180 ?_
            have b181 := hli i
            first | rw [show nI (li i) ||| (nI 1 <<< (nI t &&& 31)) = nI (li i ||| 2 ^ t) from by obtain ⟨y, q1, q2, q3⟩ := (tb_lt (li i) (by omega) t ht).2.2.1; rw [← q2]; exact q3] | rw [show nI (li i) &&& ((nI 1 <<< (nI t &&& 31)) ^^^ -1) = nI (li i &&& (15 - 2 ^ t)) from by obtain ⟨y, q1, q2, q3⟩ := (tb_lt (li i) (by omega) t ht).2.2.2; rw [← q2]; exact q3]
            refine n_iast S hK hP hD hS 6 0 rfl rfl dX1_merge_181 (j := i) (x := li i &&& (15 - 2 ^ t)) (by decide) (by omega) (fun H locs hP hD hS => ?_)
            have hP : va_P (dC, dI) vcl (vY cI cZ a 0 n mw nf sg fo L le sc (va_up (mgF hw t u v li i) i (li i &&& (15 - 2 ^ t))) ba ca wa) H := hP
            have hD : va_D (wF (vY cI cZ a th n mw nf sg fo L le sc li ba ca wa)) (vY cI cZ a 0 n mw nf sg fo L le sc (va_up (mgF hw t u v li i) i (li i &&& (15 - 2 ^ t))) ba ca wa) := hD
            refine lv_iload S.1 S.2.1 dX1_merge_182 (lv_at hl 8 rfl) ?_
            refine lv_iload S.1 S.2.1 dX1_merge_184 (lv_at hl 0 rfl) ?_
            refine n_if_eq (x := 0) (tgt := 193) S dX1_merge_186 (by decide) (by decide) (fun _ => ?_) (fun q => absurd rfl q)
            refine lv_iconst (v := (nI 0)) S.1 S.2.1 dX1_merge_193 (by decide) ?_
            refine n_iadd (x := k) (y := 0) S dX1_merge_194 ?_
            refine lv_istore (lv' := [(5, .int (nI (k + 0))), (9, .int (nI 0)), (8, .int (nI (inl li i v).toNat)), (7, .int (nI (inl li i u).toNat)), (0, .ref (a 0)), (1, .int (nI hw)), (2, .int (nI t)), (3, .int (nI u)), (4, .int (nI v)), (6, .int (nI i))]) S.1 S.2.1 dX1_merge_195 hl (by decide) rfl (fun ls hl => ?_)
            refine n_iinc (lv' := [(6, .int (nI (i + 1))), (5, .int (nI (k + 0))), (9, .int (nI 0)), (8, .int (nI (inl li i v).toNat)), (7, .int (nI (inl li i u).toNat)), (0, .ref (a 0)), (1, .int (nI hw)), (2, .int (nI t)), (3, .int (nI u)), (4, .int (nI v))]) (x := i) (k := 9) S dX1_merge_197 hl rfl (by decide) rfl (fun ls hl => ?_)
            refine lv_goto (tgt := 53) S.1 S.2.1 dX1_merge_200 (by decide) ?_
            have e0 : vY cI cZ a 0 n mw nf sg fo L le sc (va_up (mgF hw t u v li i) i (li i &&& (15 - 2 ^ t))) ba ca wa = vY cI cZ a 0 n mw nf sg fo L le sc (mgF hw t u v li (i + 1)) ba ca wa := (by rw [mgF_f (by first | (simp [cho, h82, h87, h92]; done) | (simp [cho, h82, h87]; done) | (simp [cho, h82, h105, h110, h115]; done) | (simp [cho, h82, h105, h110]; done) | (simp [cho, h82, h105, h128, h133]; done) | (simp [cho, h82, h105, h128]; done))])
            exact ih (i + 1) (k + 0) (by omega) (by omega) (by rw [cnt, ← hk, mgP, show cho hw (inl li i u) (inl li i v) = false from (by first | (simp [cho, h82, h87, h92]; done) | (simp [cho, h82, h87]; done) | (simp [cho, h82, h105, h110, h115]; done) | (simp [cho, h82, h105, h110]; done) | (simp [cho, h82, h105, h128, h133]; done) | (simp [cho, h82, h105, h128]; done))] <;> rfl) _ _ (by rw [← e0]; exact hP) (by rw [← e0]; exact hD) hS ls (lv_sub hl [5, 6, 7, 8, 9, 1, 0] rfl)
          · refine lv_iload S.1 S.2.1 dX1_merge_131 (lv_at hl 0 rfl) ?_
            refine n_bif_ne (b := inl li i v) (tgt := 140) S dX1_merge_133 (by decide) (fun h133 => ?_) (fun h133 => ?_)
            · refine lv_iconst (v := (nI 0)) S.1 S.2.1 dX1_merge_140 (by decide) ?_
              refine lv_istore (lv' := [(9, .int (nI 0)), (8, .int (nI (inl li i v).toNat)), (7, .int (nI (inl li i u).toNat)), (0, .ref (a 0)), (1, .int (nI hw)), (2, .int (nI t)), (3, .int (nI u)), (4, .int (nI v)), (5, .int (nI k)), (6, .int (nI i))]) S.1 S.2.1 dX1_merge_141 hl (by decide) rfl (fun ls hl => ?_)
              refine lv_aload_n S.1 S.2.1 dX1_merge_143 rfl (lv_at hl 3 rfl) ?_
              refine fX1_lists (v := .ref (a 6)) S hK hP rfl rfl dX1_merge_144 ?_
              refine lv_iload S.1 S.2.1 dX1_merge_147 (lv_at hl 9 rfl) ?_
              refine lv_iload S.1 S.2.1 dX1_merge_149 (lv_at hl 0 rfl) ?_
              refine n_if_eq (x := 0) (tgt := 168) S dX1_merge_151 (by decide) (by decide) (fun _ => ?_) (fun q => absurd rfl q)
              refine lv_aload_n S.1 S.2.1 dX1_merge_168 rfl (lv_at hl 3 rfl) ?_
              refine fX1_lists (v := .ref (a 6)) S hK hP rfl rfl dX1_merge_169 ?_
              refine lv_iload S.1 S.2.1 dX1_merge_172 (lv_at hl 9 rfl) ?_
              refine n_iald S hK hP 6 0 rfl rfl dX1_merge_174 (j := i) (by decide) (by omega) ?_
              rw [mgF_at]
              have b174 := hli i
              refine lv_iconst (v := (nI 1)) S.1 S.2.1 dX1_merge_175 (by decide) ?_
              refine lv_iload_n S.1 S.2.1 dX1_merge_176 rfl (lv_at hl 5 rfl) ?_
              refine lv_ishl S.1 S.2.1 dX1_merge_177 ?_
              refine lv_iconst (v := -1) S.1 S.2.1 dX1_merge_178 (by decide) ?_
              refine lv_ixor S.1 S.2.1 dX1_merge_179 ?_
              refine lv_iand S.1 S.2.1 dX1_merge_180 ?_
              have b181 := hli i
              first | rw [show nI (li i) ||| (nI 1 <<< (nI t &&& 31)) = nI (li i ||| 2 ^ t) from by obtain ⟨y, q1, q2, q3⟩ := (tb_lt (li i) (by omega) t ht).2.2.1; rw [← q2]; exact q3] | rw [show nI (li i) &&& ((nI 1 <<< (nI t &&& 31)) ^^^ -1) = nI (li i &&& (15 - 2 ^ t)) from by obtain ⟨y, q1, q2, q3⟩ := (tb_lt (li i) (by omega) t ht).2.2.2; rw [← q2]; exact q3]
              refine n_iast S hK hP hD hS 6 0 rfl rfl dX1_merge_181 (j := i) (x := li i &&& (15 - 2 ^ t)) (by decide) (by omega) (fun H locs hP hD hS => ?_)
              have hP : va_P (dC, dI) vcl (vY cI cZ a 0 n mw nf sg fo L le sc (va_up (mgF hw t u v li i) i (li i &&& (15 - 2 ^ t))) ba ca wa) H := hP
              have hD : va_D (wF (vY cI cZ a th n mw nf sg fo L le sc li ba ca wa)) (vY cI cZ a 0 n mw nf sg fo L le sc (va_up (mgF hw t u v li i) i (li i &&& (15 - 2 ^ t))) ba ca wa) := hD
              refine lv_iload S.1 S.2.1 dX1_merge_182 (lv_at hl 8 rfl) ?_
              refine lv_iload S.1 S.2.1 dX1_merge_184 (lv_at hl 0 rfl) ?_
              refine n_if_eq (x := 0) (tgt := 193) S dX1_merge_186 (by decide) (by decide) (fun _ => ?_) (fun q => absurd rfl q)
              refine lv_iconst (v := (nI 0)) S.1 S.2.1 dX1_merge_193 (by decide) ?_
              refine n_iadd (x := k) (y := 0) S dX1_merge_194 ?_
              refine lv_istore (lv' := [(5, .int (nI (k + 0))), (9, .int (nI 0)), (8, .int (nI (inl li i v).toNat)), (7, .int (nI (inl li i u).toNat)), (0, .ref (a 0)), (1, .int (nI hw)), (2, .int (nI t)), (3, .int (nI u)), (4, .int (nI v)), (6, .int (nI i))]) S.1 S.2.1 dX1_merge_195 hl (by decide) rfl (fun ls hl => ?_)
              refine n_iinc (lv' := [(6, .int (nI (i + 1))), (5, .int (nI (k + 0))), (9, .int (nI 0)), (8, .int (nI (inl li i v).toNat)), (7, .int (nI (inl li i u).toNat)), (0, .ref (a 0)), (1, .int (nI hw)), (2, .int (nI t)), (3, .int (nI u)), (4, .int (nI v))]) (x := i) (k := 9) S dX1_merge_197 hl rfl (by decide) rfl (fun ls hl => ?_)
              refine lv_goto (tgt := 53) S.1 S.2.1 dX1_merge_200 (by decide) ?_
              have e0 : vY cI cZ a 0 n mw nf sg fo L le sc (va_up (mgF hw t u v li i) i (li i &&& (15 - 2 ^ t))) ba ca wa = vY cI cZ a 0 n mw nf sg fo L le sc (mgF hw t u v li (i + 1)) ba ca wa := (by rw [mgF_f (by first | (simp [cho, h82, h87, h92]; done) | (simp [cho, h82, h87]; done) | (simp [cho, h82, h105, h110, h115]; done) | (simp [cho, h82, h105, h110]; done) | (simp [cho, h82, h105, h128, h133]; done) | (simp [cho, h82, h105, h128]; done))])
              exact ih (i + 1) (k + 0) (by omega) (by omega) (by rw [cnt, ← hk, mgP, show cho hw (inl li i u) (inl li i v) = false from (by first | (simp [cho, h82, h87, h92]; done) | (simp [cho, h82, h87]; done) | (simp [cho, h82, h105, h110, h115]; done) | (simp [cho, h82, h105, h110]; done) | (simp [cho, h82, h105, h128, h133]; done) | (simp [cho, h82, h105, h128]; done))] <;> rfl) _ _ (by rw [← e0]; exact hP) (by rw [← e0]; exact hD) hS ls (lv_sub hl [5, 6, 7, 8, 9, 1, 0] rfl)
            · refine lv_iconst (v := (nI 1)) S.1 S.2.1 dX1_merge_136 (by decide) ?_
              refine lv_goto (tgt := 141) S.1 S.2.1 dX1_merge_137 (by decide) ?_
              refine lv_istore (lv' := [(9, .int (nI 1)), (8, .int (nI (inl li i v).toNat)), (7, .int (nI (inl li i u).toNat)), (0, .ref (a 0)), (1, .int (nI hw)), (2, .int (nI t)), (3, .int (nI u)), (4, .int (nI v)), (5, .int (nI k)), (6, .int (nI i))]) S.1 S.2.1 dX1_merge_141 hl (by decide) rfl (fun ls hl => ?_)
              refine lv_aload_n S.1 S.2.1 dX1_merge_143 rfl (lv_at hl 3 rfl) ?_
              refine fX1_lists (v := .ref (a 6)) S hK hP rfl rfl dX1_merge_144 ?_
              refine lv_iload S.1 S.2.1 dX1_merge_147 (lv_at hl 9 rfl) ?_
              refine lv_iload S.1 S.2.1 dX1_merge_149 (lv_at hl 0 rfl) ?_
              refine n_if_eq (x := 1) (tgt := 168) S dX1_merge_151 (by decide) (by decide) (fun q => absurd q (by decide)) (fun _ => ?_)
              refine lv_aload_n S.1 S.2.1 dX1_merge_154 rfl (lv_at hl 3 rfl) ?_
              refine fX1_lists (v := .ref (a 6)) S hK hP rfl rfl dX1_merge_155 ?_
              refine lv_iload S.1 S.2.1 dX1_merge_158 (lv_at hl 9 rfl) ?_
              refine n_iald S hK hP 6 0 rfl rfl dX1_merge_160 (j := i) (by decide) (by omega) ?_
              rw [mgF_at]
              have b160 := hli i
              refine lv_iconst (v := (nI 1)) S.1 S.2.1 dX1_merge_161 (by decide) ?_
              refine lv_iload_n S.1 S.2.1 dX1_merge_162 rfl (lv_at hl 5 rfl) ?_
              refine lv_ishl S.1 S.2.1 dX1_merge_163 ?_
              refine lv_ior S.1 S.2.1 dX1_merge_164 ?_
              refine lv_goto (tgt := 181) S.1 S.2.1 dX1_merge_165 (by decide) ?_
              have b181 := hli i
              first | rw [show nI (li i) ||| (nI 1 <<< (nI t &&& 31)) = nI (li i ||| 2 ^ t) from by obtain ⟨y, q1, q2, q3⟩ := (tb_lt (li i) (by omega) t ht).2.2.1; rw [← q2]; exact q3] | rw [show nI (li i) &&& ((nI 1 <<< (nI t &&& 31)) ^^^ -1) = nI (li i &&& (15 - 2 ^ t)) from by obtain ⟨y, q1, q2, q3⟩ := (tb_lt (li i) (by omega) t ht).2.2.2; rw [← q2]; exact q3]
              refine n_iast S hK hP hD hS 6 0 rfl rfl dX1_merge_181 (j := i) (x := li i ||| 2 ^ t) (by decide) (by omega) (fun H locs hP hD hS => ?_)
              have hP : va_P (dC, dI) vcl (vY cI cZ a 0 n mw nf sg fo L le sc (va_up (mgF hw t u v li i) i (li i ||| 2 ^ t)) ba ca wa) H := hP
              have hD : va_D (wF (vY cI cZ a th n mw nf sg fo L le sc li ba ca wa)) (vY cI cZ a 0 n mw nf sg fo L le sc (va_up (mgF hw t u v li i) i (li i ||| 2 ^ t)) ba ca wa) := hD
              refine lv_iload S.1 S.2.1 dX1_merge_182 (lv_at hl 8 rfl) ?_
              refine lv_iload S.1 S.2.1 dX1_merge_184 (lv_at hl 0 rfl) ?_
              refine n_if_eq (x := 1) (tgt := 193) S dX1_merge_186 (by decide) (by decide) (fun q => absurd q (by decide)) (fun _ => ?_)
              refine lv_iconst (v := (nI 1)) S.1 S.2.1 dX1_merge_189 (by decide) ?_
              refine lv_goto (tgt := 194) S.1 S.2.1 dX1_merge_190 (by decide) ?_
              refine n_iadd (x := k) (y := 1) S dX1_merge_194 ?_
              refine lv_istore (lv' := [(5, .int (nI (k + 1))), (9, .int (nI 1)), (8, .int (nI (inl li i v).toNat)), (7, .int (nI (inl li i u).toNat)), (0, .ref (a 0)), (1, .int (nI hw)), (2, .int (nI t)), (3, .int (nI u)), (4, .int (nI v)), (6, .int (nI i))]) S.1 S.2.1 dX1_merge_195 hl (by decide) rfl (fun ls hl => ?_)
              refine n_iinc (lv' := [(6, .int (nI (i + 1))), (5, .int (nI (k + 1))), (9, .int (nI 1)), (8, .int (nI (inl li i v).toNat)), (7, .int (nI (inl li i u).toNat)), (0, .ref (a 0)), (1, .int (nI hw)), (2, .int (nI t)), (3, .int (nI u)), (4, .int (nI v))]) (x := i) (k := 9) S dX1_merge_197 hl rfl (by decide) rfl (fun ls hl => ?_)
              refine lv_goto (tgt := 53) S.1 S.2.1 dX1_merge_200 (by decide) ?_
              have e0 : vY cI cZ a 0 n mw nf sg fo L le sc (va_up (mgF hw t u v li i) i (li i ||| 2 ^ t)) ba ca wa = vY cI cZ a 0 n mw nf sg fo L le sc (mgF hw t u v li (i + 1)) ba ca wa := (by rw [mgF_t (by first | (simp [cho, h82, h87, h92]; done) | (simp [cho, h82, h87]; done) | (simp [cho, h82, h105, h110, h115]; done) | (simp [cho, h82, h105, h110]; done) | (simp [cho, h82, h105, h128, h133]; done) | (simp [cho, h82, h105, h128]; done))])
              exact ih (i + 1) (k + 1) (by omega) (by omega) (by rw [cnt, ← hk, mgP, show cho hw (inl li i u) (inl li i v) = true from (by first | (simp [cho, h82, h87, h92]; done) | (simp [cho, h82, h87]; done) | (simp [cho, h82, h105, h110, h115]; done) | (simp [cho, h82, h105, h110]; done) | (simp [cho, h82, h105, h128, h133]; done) | (simp [cho, h82, h105, h128]; done))] <;> rfl) _ _ (by rw [← e0]; exact hP) (by rw [← e0]; exact hD) hS ls (lv_sub hl [5, 6, 7, 8, 9, 1, 0] rfl)
        · refine lv_iload S.1 S.2.1 dX1_merge_108 (lv_at hl 1 rfl) ?_
          refine n_bif_eq (b := inl li i u) (tgt := 122) S dX1_merge_110 (by decide) (fun h110 => ?_) (fun h110 => ?_)
          · refine lv_iconst (v := (nI 0)) S.1 S.2.1 dX1_merge_122 (by decide) ?_
            refine lv_goto (tgt := 141) S.1 S.2.1 dX1_merge_123 (by decide) ?_
            refine lv_istore (lv' := [(9, .int (nI 0)), (8, .int (nI (inl li i v).toNat)), (7, .int (nI (inl li i u).toNat)), (0, .ref (a 0)), (1, .int (nI hw)), (2, .int (nI t)), (3, .int (nI u)), (4, .int (nI v)), (5, .int (nI k)), (6, .int (nI i))]) S.1 S.2.1 dX1_merge_141 hl (by decide) rfl (fun ls hl => ?_)
            refine lv_aload_n S.1 S.2.1 dX1_merge_143 rfl (lv_at hl 3 rfl) ?_
            refine fX1_lists (v := .ref (a 6)) S hK hP rfl rfl dX1_merge_144 ?_
            refine lv_iload S.1 S.2.1 dX1_merge_147 (lv_at hl 9 rfl) ?_
            refine lv_iload S.1 S.2.1 dX1_merge_149 (lv_at hl 0 rfl) ?_
            refine n_if_eq (x := 0) (tgt := 168) S dX1_merge_151 (by decide) (by decide) (fun _ => ?_) (fun q => absurd rfl q)
            refine lv_aload_n S.1 S.2.1 dX1_merge_168 rfl (lv_at hl 3 rfl) ?_
            refine fX1_lists (v := .ref (a 6)) S hK hP rfl rfl dX1_merge_169 ?_
            refine lv_iload S.1 S.2.1 dX1_merge_172 (lv_at hl 9 rfl) ?_
            refine n_iald S hK hP 6 0 rfl rfl dX1_merge_174 (j := i) (by decide) (by omega) ?_
            rw [mgF_at]
            have b174 := hli i
            refine lv_iconst (v := (nI 1)) S.1 S.2.1 dX1_merge_175 (by decide) ?_
            refine lv_iload_n S.1 S.2.1 dX1_merge_176 rfl (lv_at hl 5 rfl) ?_
            refine lv_ishl S.1 S.2.1 dX1_merge_177 ?_
            refine lv_iconst (v := -1) S.1 S.2.1 dX1_merge_178 (by decide) ?_
            refine lv_ixor S.1 S.2.1 dX1_merge_179 ?_
            refine lv_iand S.1 S.2.1 dX1_merge_180 ?_
            have b181 := hli i
            first | rw [show nI (li i) ||| (nI 1 <<< (nI t &&& 31)) = nI (li i ||| 2 ^ t) from by obtain ⟨y, q1, q2, q3⟩ := (tb_lt (li i) (by omega) t ht).2.2.1; rw [← q2]; exact q3] | rw [show nI (li i) &&& ((nI 1 <<< (nI t &&& 31)) ^^^ -1) = nI (li i &&& (15 - 2 ^ t)) from by obtain ⟨y, q1, q2, q3⟩ := (tb_lt (li i) (by omega) t ht).2.2.2; rw [← q2]; exact q3]
            refine n_iast S hK hP hD hS 6 0 rfl rfl dX1_merge_181 (j := i) (x := li i &&& (15 - 2 ^ t)) (by decide) (by omega) (fun H locs hP hD hS => ?_)
            have hP : va_P (dC, dI) vcl (vY cI cZ a 0 n mw nf sg fo L le sc (va_up (mgF hw t u v li i) i (li i &&& (15 - 2 ^ t))) ba ca wa) H := hP
            have hD : va_D (wF (vY cI cZ a th n mw nf sg fo L le sc li ba ca wa)) (vY cI cZ a 0 n mw nf sg fo L le sc (va_up (mgF hw t u v li i) i (li i &&& (15 - 2 ^ t))) ba ca wa) := hD
            refine lv_iload S.1 S.2.1 dX1_merge_182 (lv_at hl 8 rfl) ?_
            refine lv_iload S.1 S.2.1 dX1_merge_184 (lv_at hl 0 rfl) ?_
            refine n_if_eq (x := 0) (tgt := 193) S dX1_merge_186 (by decide) (by decide) (fun _ => ?_) (fun q => absurd rfl q)
            refine lv_iconst (v := (nI 0)) S.1 S.2.1 dX1_merge_193 (by decide) ?_
            refine n_iadd (x := k) (y := 0) S dX1_merge_194 ?_
            refine lv_istore (lv' := [(5, .int (nI (k + 0))), (9, .int (nI 0)), (8, .int (nI (inl li i v).toNat)), (7, .int (nI (inl li i u).toNat)), (0, .ref (a 0)), (1, .int (nI hw)), (2, .int (nI t)), (3, .int (nI u)), (4, .int (nI v)), (6, .int (nI i))]) S.1 S.2.1 dX1_merge_195 hl (by decide) rfl (fun ls hl => ?_)
            refine n_iinc (lv' := [(6, .int (nI (i + 1))), (5, .int (nI (k + 0))), (9, .int (nI 0)), (8, .int (nI (inl li i v).toNat)), (7, .int (nI (inl li i u).toNat)), (0, .ref (a 0)), (1, .int (nI hw)), (2, .int (nI t)), (3, .int (nI u)), (4, .int (nI v))]) (x := i) (k := 9) S dX1_merge_197 hl rfl (by decide) rfl (fun ls hl => ?_)
            refine lv_goto (tgt := 53) S.1 S.2.1 dX1_merge_200 (by decide) ?_
            have e0 : vY cI cZ a 0 n mw nf sg fo L le sc (va_up (mgF hw t u v li i) i (li i &&& (15 - 2 ^ t))) ba ca wa = vY cI cZ a 0 n mw nf sg fo L le sc (mgF hw t u v li (i + 1)) ba ca wa := (by rw [mgF_f (by first | (simp [cho, h82, h87, h92]; done) | (simp [cho, h82, h87]; done) | (simp [cho, h82, h105, h110, h115]; done) | (simp [cho, h82, h105, h110]; done) | (simp [cho, h82, h105, h128, h133]; done) | (simp [cho, h82, h105, h128]; done))])
            exact ih (i + 1) (k + 0) (by omega) (by omega) (by rw [cnt, ← hk, mgP, show cho hw (inl li i u) (inl li i v) = false from (by first | (simp [cho, h82, h87, h92]; done) | (simp [cho, h82, h87]; done) | (simp [cho, h82, h105, h110, h115]; done) | (simp [cho, h82, h105, h110]; done) | (simp [cho, h82, h105, h128, h133]; done) | (simp [cho, h82, h105, h128]; done))] <;> rfl) _ _ (by rw [← e0]; exact hP) (by rw [← e0]; exact hD) hS ls (lv_sub hl [5, 6, 7, 8, 9, 1, 0] rfl)
          · refine lv_iload S.1 S.2.1 dX1_merge_113 (lv_at hl 0 rfl) ?_
            refine n_bif_eq (b := inl li i v) (tgt := 122) S dX1_merge_115 (by decide) (fun h115 => ?_) (fun h115 => ?_)
            · refine lv_iconst (v := (nI 0)) S.1 S.2.1 dX1_merge_122 (by decide) ?_
              refine lv_goto (tgt := 141) S.1 S.2.1 dX1_merge_123 (by decide) ?_
              refine lv_istore (lv' := [(9, .int (nI 0)), (8, .int (nI (inl li i v).toNat)), (7, .int (nI (inl li i u).toNat)), (0, .ref (a 0)), (1, .int (nI hw)), (2, .int (nI t)), (3, .int (nI u)), (4, .int (nI v)), (5, .int (nI k)), (6, .int (nI i))]) S.1 S.2.1 dX1_merge_141 hl (by decide) rfl (fun ls hl => ?_)
              refine lv_aload_n S.1 S.2.1 dX1_merge_143 rfl (lv_at hl 3 rfl) ?_
              refine fX1_lists (v := .ref (a 6)) S hK hP rfl rfl dX1_merge_144 ?_
              refine lv_iload S.1 S.2.1 dX1_merge_147 (lv_at hl 9 rfl) ?_
              refine lv_iload S.1 S.2.1 dX1_merge_149 (lv_at hl 0 rfl) ?_
              refine n_if_eq (x := 0) (tgt := 168) S dX1_merge_151 (by decide) (by decide) (fun _ => ?_) (fun q => absurd rfl q)
              refine lv_aload_n S.1 S.2.1 dX1_merge_168 rfl (lv_at hl 3 rfl) ?_
              refine fX1_lists (v := .ref (a 6)) S hK hP rfl rfl dX1_merge_169 ?_
              refine lv_iload S.1 S.2.1 dX1_merge_172 (lv_at hl 9 rfl) ?_
              refine n_iald S hK hP 6 0 rfl rfl dX1_merge_174 (j := i) (by decide) (by omega) ?_
              rw [mgF_at]
              have b174 := hli i
              refine lv_iconst (v := (nI 1)) S.1 S.2.1 dX1_merge_175 (by decide) ?_
              refine lv_iload_n S.1 S.2.1 dX1_merge_176 rfl (lv_at hl 5 rfl) ?_
              refine lv_ishl S.1 S.2.1 dX1_merge_177 ?_
              refine lv_iconst (v := -1) S.1 S.2.1 dX1_merge_178 (by decide) ?_
              refine lv_ixor S.1 S.2.1 dX1_merge_179 ?_
              refine lv_iand S.1 S.2.1 dX1_merge_180 ?_
              have b181 := hli i
              first | rw [show nI (li i) ||| (nI 1 <<< (nI t &&& 31)) = nI (li i ||| 2 ^ t) from by obtain ⟨y, q1, q2, q3⟩ := (tb_lt (li i) (by omega) t ht).2.2.1; rw [← q2]; exact q3] | rw [show nI (li i) &&& ((nI 1 <<< (nI t &&& 31)) ^^^ -1) = nI (li i &&& (15 - 2 ^ t)) from by obtain ⟨y, q1, q2, q3⟩ := (tb_lt (li i) (by omega) t ht).2.2.2; rw [← q2]; exact q3]
              refine n_iast S hK hP hD hS 6 0 rfl rfl dX1_merge_181 (j := i) (x := li i &&& (15 - 2 ^ t)) (by decide) (by omega) (fun H locs hP hD hS => ?_)
              have hP : va_P (dC, dI) vcl (vY cI cZ a 0 n mw nf sg fo L le sc (va_up (mgF hw t u v li i) i (li i &&& (15 - 2 ^ t))) ba ca wa) H := hP
              have hD : va_D (wF (vY cI cZ a th n mw nf sg fo L le sc li ba ca wa)) (vY cI cZ a 0 n mw nf sg fo L le sc (va_up (mgF hw t u v li i) i (li i &&& (15 - 2 ^ t))) ba ca wa) := hD
              refine lv_iload S.1 S.2.1 dX1_merge_182 (lv_at hl 8 rfl) ?_
              refine lv_iload S.1 S.2.1 dX1_merge_184 (lv_at hl 0 rfl) ?_
              refine n_if_eq (x := 0) (tgt := 193) S dX1_merge_186 (by decide) (by decide) (fun _ => ?_) (fun q => absurd rfl q)
              refine lv_iconst (v := (nI 0)) S.1 S.2.1 dX1_merge_193 (by decide) ?_
              refine n_iadd (x := k) (y := 0) S dX1_merge_194 ?_
              refine lv_istore (lv' := [(5, .int (nI (k + 0))), (9, .int (nI 0)), (8, .int (nI (inl li i v).toNat)), (7, .int (nI (inl li i u).toNat)), (0, .ref (a 0)), (1, .int (nI hw)), (2, .int (nI t)), (3, .int (nI u)), (4, .int (nI v)), (6, .int (nI i))]) S.1 S.2.1 dX1_merge_195 hl (by decide) rfl (fun ls hl => ?_)
              refine n_iinc (lv' := [(6, .int (nI (i + 1))), (5, .int (nI (k + 0))), (9, .int (nI 0)), (8, .int (nI (inl li i v).toNat)), (7, .int (nI (inl li i u).toNat)), (0, .ref (a 0)), (1, .int (nI hw)), (2, .int (nI t)), (3, .int (nI u)), (4, .int (nI v))]) (x := i) (k := 9) S dX1_merge_197 hl rfl (by decide) rfl (fun ls hl => ?_)
              refine lv_goto (tgt := 53) S.1 S.2.1 dX1_merge_200 (by decide) ?_
              have e0 : vY cI cZ a 0 n mw nf sg fo L le sc (va_up (mgF hw t u v li i) i (li i &&& (15 - 2 ^ t))) ba ca wa = vY cI cZ a 0 n mw nf sg fo L le sc (mgF hw t u v li (i + 1)) ba ca wa := (by rw [mgF_f (by first | (simp [cho, h82, h87, h92]; done) | (simp [cho, h82, h87]; done) | (simp [cho, h82, h105, h110, h115]; done) | (simp [cho, h82, h105, h110]; done) | (simp [cho, h82, h105, h128, h133]; done) | (simp [cho, h82, h105, h128]; done))])
              exact ih (i + 1) (k + 0) (by omega) (by omega) (by rw [cnt, ← hk, mgP, show cho hw (inl li i u) (inl li i v) = false from (by first | (simp [cho, h82, h87, h92]; done) | (simp [cho, h82, h87]; done) | (simp [cho, h82, h105, h110, h115]; done) | (simp [cho, h82, h105, h110]; done) | (simp [cho, h82, h105, h128, h133]; done) | (simp [cho, h82, h105, h128]; done))] <;> rfl) _ _ (by rw [← e0]; exact hP) (by rw [← e0]; exact hD) hS ls (lv_sub hl [5, 6, 7, 8, 9, 1, 0] rfl)
            · refine lv_iconst (v := (nI 1)) S.1 S.2.1 dX1_merge_118 (by decide) ?_
              refine lv_goto (tgt := 141) S.1 S.2.1 dX1_merge_119 (by decide) ?_
              refine lv_istore (lv' := [(9, .int (nI 1)), (8, .int (nI (inl li i v).toNat)), (7, .int (nI (inl li i u).toNat)), (0, .ref (a 0)), (1, .int (nI hw)), (2, .int (nI t)), (3, .int (nI u)), (4, .int (nI v)), (5, .int (nI k)), (6, .int (nI i))]) S.1 S.2.1 dX1_merge_141 hl (by decide) rfl (fun ls hl => ?_)
              refine lv_aload_n S.1 S.2.1 dX1_merge_143 rfl (lv_at hl 3 rfl) ?_
              refine fX1_lists (v := .ref (a 6)) S hK hP rfl rfl dX1_merge_144 ?_
              refine lv_iload S.1 S.2.1 dX1_merge_147 (lv_at hl 9 rfl) ?_
              refine lv_iload S.1 S.2.1 dX1_merge_149 (lv_at hl 0 rfl) ?_
              refine n_if_eq (x := 1) (tgt := 168) S dX1_merge_151 (by decide) (by decide) (fun q => absurd q (by decide)) (fun _ => ?_)
              refine lv_aload_n S.1 S.2.1 dX1_merge_154 rfl (lv_at hl 3 rfl) ?_
              refine fX1_lists (v := .ref (a 6)) S hK hP rfl rfl dX1_merge_155 ?_
              refine lv_iload S.1 S.2.1 dX1_merge_158 (lv_at hl 9 rfl) ?_
              refine n_iald S hK hP 6 0 rfl rfl dX1_merge_160 (j := i) (by decide) (by omega) ?_
              rw [mgF_at]
              have b160 := hli i
              refine lv_iconst (v := (nI 1)) S.1 S.2.1 dX1_merge_161 (by decide) ?_
              refine lv_iload_n S.1 S.2.1 dX1_merge_162 rfl (lv_at hl 5 rfl) ?_
              refine lv_ishl S.1 S.2.1 dX1_merge_163 ?_
              refine lv_ior S.1 S.2.1 dX1_merge_164 ?_
              refine lv_goto (tgt := 181) S.1 S.2.1 dX1_merge_165 (by decide) ?_
              have b181 := hli i
              first | rw [show nI (li i) ||| (nI 1 <<< (nI t &&& 31)) = nI (li i ||| 2 ^ t) from by obtain ⟨y, q1, q2, q3⟩ := (tb_lt (li i) (by omega) t ht).2.2.1; rw [← q2]; exact q3] | rw [show nI (li i) &&& ((nI 1 <<< (nI t &&& 31)) ^^^ -1) = nI (li i &&& (15 - 2 ^ t)) from by obtain ⟨y, q1, q2, q3⟩ := (tb_lt (li i) (by omega) t ht).2.2.2; rw [← q2]; exact q3]
              refine n_iast S hK hP hD hS 6 0 rfl rfl dX1_merge_181 (j := i) (x := li i ||| 2 ^ t) (by decide) (by omega) (fun H locs hP hD hS => ?_)
              have hP : va_P (dC, dI) vcl (vY cI cZ a 0 n mw nf sg fo L le sc (va_up (mgF hw t u v li i) i (li i ||| 2 ^ t)) ba ca wa) H := hP
              have hD : va_D (wF (vY cI cZ a th n mw nf sg fo L le sc li ba ca wa)) (vY cI cZ a 0 n mw nf sg fo L le sc (va_up (mgF hw t u v li i) i (li i ||| 2 ^ t)) ba ca wa) := hD
              refine lv_iload S.1 S.2.1 dX1_merge_182 (lv_at hl 8 rfl) ?_
              refine lv_iload S.1 S.2.1 dX1_merge_184 (lv_at hl 0 rfl) ?_
              refine n_if_eq (x := 1) (tgt := 193) S dX1_merge_186 (by decide) (by decide) (fun q => absurd q (by decide)) (fun _ => ?_)
              refine lv_iconst (v := (nI 1)) S.1 S.2.1 dX1_merge_189 (by decide) ?_
              refine lv_goto (tgt := 194) S.1 S.2.1 dX1_merge_190 (by decide) ?_
              refine n_iadd (x := k) (y := 1) S dX1_merge_194 ?_
              refine lv_istore (lv' := [(5, .int (nI (k + 1))), (9, .int (nI 1)), (8, .int (nI (inl li i v).toNat)), (7, .int (nI (inl li i u).toNat)), (0, .ref (a 0)), (1, .int (nI hw)), (2, .int (nI t)), (3, .int (nI u)), (4, .int (nI v)), (6, .int (nI i))]) S.1 S.2.1 dX1_merge_195 hl (by decide) rfl (fun ls hl => ?_)
              refine n_iinc (lv' := [(6, .int (nI (i + 1))), (5, .int (nI (k + 1))), (9, .int (nI 1)), (8, .int (nI (inl li i v).toNat)), (7, .int (nI (inl li i u).toNat)), (0, .ref (a 0)), (1, .int (nI hw)), (2, .int (nI t)), (3, .int (nI u)), (4, .int (nI v))]) (x := i) (k := 9) S dX1_merge_197 hl rfl (by decide) rfl (fun ls hl => ?_)
              refine lv_goto (tgt := 53) S.1 S.2.1 dX1_merge_200 (by decide) ?_
              have e0 : vY cI cZ a 0 n mw nf sg fo L le sc (va_up (mgF hw t u v li i) i (li i ||| 2 ^ t)) ba ca wa = vY cI cZ a 0 n mw nf sg fo L le sc (mgF hw t u v li (i + 1)) ba ca wa := (by rw [mgF_t (by first | (simp [cho, h82, h87, h92]; done) | (simp [cho, h82, h87]; done) | (simp [cho, h82, h105, h110, h115]; done) | (simp [cho, h82, h105, h110]; done) | (simp [cho, h82, h105, h128, h133]; done) | (simp [cho, h82, h105, h128]; done))])
              exact ih (i + 1) (k + 1) (by omega) (by omega) (by rw [cnt, ← hk, mgP, show cho hw (inl li i u) (inl li i v) = true from (by first | (simp [cho, h82, h87, h92]; done) | (simp [cho, h82, h87]; done) | (simp [cho, h82, h105, h110, h115]; done) | (simp [cho, h82, h105, h110]; done) | (simp [cho, h82, h105, h128, h133]; done) | (simp [cho, h82, h105, h128]; done))] <;> rfl) _ _ (by rw [← e0]; exact hP) (by rw [← e0]; exact hD) hS ls (lv_sub hl [5, 6, 7, 8, 9, 1, 0] rfl)
      · refine lv_iload S.1 S.2.1 dX1_merge_85 (lv_at hl 1 rfl) ?_
        refine n_bif_ne (b := inl li i u) (tgt := 95) S dX1_merge_87 (by decide) (fun h87 => ?_) (fun h87 => ?_)
        · refine lv_iconst (v := (nI 1)) S.1 S.2.1 dX1_merge_95 (by decide) ?_
          refine lv_goto (tgt := 141) S.1 S.2.1 dX1_merge_96 (by decide) ?_
          refine lv_istore (lv' := [(9, .int (nI 1)), (8, .int (nI (inl li i v).toNat)), (7, .int (nI (inl li i u).toNat)), (0, .ref (a 0)), (1, .int (nI hw)), (2, .int (nI t)), (3, .int (nI u)), (4, .int (nI v)), (5, .int (nI k)), (6, .int (nI i))]) S.1 S.2.1 dX1_merge_141 hl (by decide) rfl (fun ls hl => ?_)
          refine lv_aload_n S.1 S.2.1 dX1_merge_143 rfl (lv_at hl 3 rfl) ?_
          refine fX1_lists (v := .ref (a 6)) S hK hP rfl rfl dX1_merge_144 ?_
          refine lv_iload S.1 S.2.1 dX1_merge_147 (lv_at hl 9 rfl) ?_
          refine lv_iload S.1 S.2.1 dX1_merge_149 (lv_at hl 0 rfl) ?_
          refine n_if_eq (x := 1) (tgt := 168) S dX1_merge_151 (by decide) (by decide) (fun q => absurd q (by decide)) (fun _ => ?_)
          refine lv_aload_n S.1 S.2.1 dX1_merge_154 rfl (lv_at hl 3 rfl) ?_
          refine fX1_lists (v := .ref (a 6)) S hK hP rfl rfl dX1_merge_155 ?_
          refine lv_iload S.1 S.2.1 dX1_merge_158 (lv_at hl 9 rfl) ?_
          refine n_iald S hK hP 6 0 rfl rfl dX1_merge_160 (j := i) (by decide) (by omega) ?_
          rw [mgF_at]
          have b160 := hli i
          refine lv_iconst (v := (nI 1)) S.1 S.2.1 dX1_merge_161 (by decide) ?_
          refine lv_iload_n S.1 S.2.1 dX1_merge_162 rfl (lv_at hl 5 rfl) ?_
          refine lv_ishl S.1 S.2.1 dX1_merge_163 ?_
          refine lv_ior S.1 S.2.1 dX1_merge_164 ?_
          refine lv_goto (tgt := 181) S.1 S.2.1 dX1_merge_165 (by decide) ?_
          have b181 := hli i
          first | rw [show nI (li i) ||| (nI 1 <<< (nI t &&& 31)) = nI (li i ||| 2 ^ t) from by obtain ⟨y, q1, q2, q3⟩ := (tb_lt (li i) (by omega) t ht).2.2.1; rw [← q2]; exact q3] | rw [show nI (li i) &&& ((nI 1 <<< (nI t &&& 31)) ^^^ -1) = nI (li i &&& (15 - 2 ^ t)) from by obtain ⟨y, q1, q2, q3⟩ := (tb_lt (li i) (by omega) t ht).2.2.2; rw [← q2]; exact q3]
          refine n_iast S hK hP hD hS 6 0 rfl rfl dX1_merge_181 (j := i) (x := li i ||| 2 ^ t) (by decide) (by omega) (fun H locs hP hD hS => ?_)
          have hP : va_P (dC, dI) vcl (vY cI cZ a 0 n mw nf sg fo L le sc (va_up (mgF hw t u v li i) i (li i ||| 2 ^ t)) ba ca wa) H := hP
          have hD : va_D (wF (vY cI cZ a th n mw nf sg fo L le sc li ba ca wa)) (vY cI cZ a 0 n mw nf sg fo L le sc (va_up (mgF hw t u v li i) i (li i ||| 2 ^ t)) ba ca wa) := hD
          refine lv_iload S.1 S.2.1 dX1_merge_182 (lv_at hl 8 rfl) ?_
          refine lv_iload S.1 S.2.1 dX1_merge_184 (lv_at hl 0 rfl) ?_
          refine n_if_eq (x := 1) (tgt := 193) S dX1_merge_186 (by decide) (by decide) (fun q => absurd q (by decide)) (fun _ => ?_)
          refine lv_iconst (v := (nI 1)) S.1 S.2.1 dX1_merge_189 (by decide) ?_
          refine lv_goto (tgt := 194) S.1 S.2.1 dX1_merge_190 (by decide) ?_
          refine n_iadd (x := k) (y := 1) S dX1_merge_194 ?_
          refine lv_istore (lv' := [(5, .int (nI (k + 1))), (9, .int (nI 1)), (8, .int (nI (inl li i v).toNat)), (7, .int (nI (inl li i u).toNat)), (0, .ref (a 0)), (1, .int (nI hw)), (2, .int (nI t)), (3, .int (nI u)), (4, .int (nI v)), (6, .int (nI i))]) S.1 S.2.1 dX1_merge_195 hl (by decide) rfl (fun ls hl => ?_)
          refine n_iinc (lv' := [(6, .int (nI (i + 1))), (5, .int (nI (k + 1))), (9, .int (nI 1)), (8, .int (nI (inl li i v).toNat)), (7, .int (nI (inl li i u).toNat)), (0, .ref (a 0)), (1, .int (nI hw)), (2, .int (nI t)), (3, .int (nI u)), (4, .int (nI v))]) (x := i) (k := 9) S dX1_merge_197 hl rfl (by decide) rfl (fun ls hl => ?_)
          refine lv_goto (tgt := 53) S.1 S.2.1 dX1_merge_200 (by decide) ?_
          have e0 : vY cI cZ a 0 n mw nf sg fo L le sc (va_up (mgF hw t u v li i) i (li i ||| 2 ^ t)) ba ca wa = vY cI cZ a 0 n mw nf sg fo L le sc (mgF hw t u v li (i + 1)) ba ca wa := (by rw [mgF_t (by first | (simp [cho, h82, h87, h92]; done) | (simp [cho, h82, h87]; done) | (simp [cho, h82, h105, h110, h115]; done) | (simp [cho, h82, h105, h110]; done) | (simp [cho, h82, h105, h128, h133]; done) | (simp [cho, h82, h105, h128]; done))])
          exact ih (i + 1) (k + 1) (by omega) (by omega) (by rw [cnt, ← hk, mgP, show cho hw (inl li i u) (inl li i v) = true from (by first | (simp [cho, h82, h87, h92]; done) | (simp [cho, h82, h87]; done) | (simp [cho, h82, h105, h110, h115]; done) | (simp [cho, h82, h105, h110]; done) | (simp [cho, h82, h105, h128, h133]; done) | (simp [cho, h82, h105, h128]; done))] <;> rfl) _ _ (by rw [← e0]; exact hP) (by rw [← e0]; exact hD) hS ls (lv_sub hl [5, 6, 7, 8, 9, 1, 0] rfl)
        · refine lv_iload S.1 S.2.1 dX1_merge_90 (lv_at hl 0 rfl) ?_
          refine n_bif_eq (b := inl li i v) (tgt := 99) S dX1_merge_92 (by decide) (fun h92 => ?_) (fun h92 => ?_)
          · refine lv_iconst (v := (nI 0)) S.1 S.2.1 dX1_merge_99 (by decide) ?_
            refine lv_goto (tgt := 141) S.1 S.2.1 dX1_merge_100 (by decide) ?_
            refine lv_istore (lv' := [(9, .int (nI 0)), (8, .int (nI (inl li i v).toNat)), (7, .int (nI (inl li i u).toNat)), (0, .ref (a 0)), (1, .int (nI hw)), (2, .int (nI t)), (3, .int (nI u)), (4, .int (nI v)), (5, .int (nI k)), (6, .int (nI i))]) S.1 S.2.1 dX1_merge_141 hl (by decide) rfl (fun ls hl => ?_)
            refine lv_aload_n S.1 S.2.1 dX1_merge_143 rfl (lv_at hl 3 rfl) ?_
            refine fX1_lists (v := .ref (a 6)) S hK hP rfl rfl dX1_merge_144 ?_
            refine lv_iload S.1 S.2.1 dX1_merge_147 (lv_at hl 9 rfl) ?_
            refine lv_iload S.1 S.2.1 dX1_merge_149 (lv_at hl 0 rfl) ?_
            refine n_if_eq (x := 0) (tgt := 168) S dX1_merge_151 (by decide) (by decide) (fun _ => ?_) (fun q => absurd rfl q)
            refine lv_aload_n S.1 S.2.1 dX1_merge_168 rfl (lv_at hl 3 rfl) ?_
            refine fX1_lists (v := .ref (a 6)) S hK hP rfl rfl dX1_merge_169 ?_
            refine lv_iload S.1 S.2.1 dX1_merge_172 (lv_at hl 9 rfl) ?_
            refine n_iald S hK hP 6 0 rfl rfl dX1_merge_174 (j := i) (by decide) (by omega) ?_
            rw [mgF_at]
            have b174 := hli i
            refine lv_iconst (v := (nI 1)) S.1 S.2.1 dX1_merge_175 (by decide) ?_
            refine lv_iload_n S.1 S.2.1 dX1_merge_176 rfl (lv_at hl 5 rfl) ?_
            refine lv_ishl S.1 S.2.1 dX1_merge_177 ?_
            refine lv_iconst (v := -1) S.1 S.2.1 dX1_merge_178 (by decide) ?_
            refine lv_ixor S.1 S.2.1 dX1_merge_179 ?_
            refine lv_iand S.1 S.2.1 dX1_merge_180 ?_
            have b181 := hli i
            first | rw [show nI (li i) ||| (nI 1 <<< (nI t &&& 31)) = nI (li i ||| 2 ^ t) from by obtain ⟨y, q1, q2, q3⟩ := (tb_lt (li i) (by omega) t ht).2.2.1; rw [← q2]; exact q3] | rw [show nI (li i) &&& ((nI 1 <<< (nI t &&& 31)) ^^^ -1) = nI (li i &&& (15 - 2 ^ t)) from by obtain ⟨y, q1, q2, q3⟩ := (tb_lt (li i) (by omega) t ht).2.2.2; rw [← q2]; exact q3]
            refine n_iast S hK hP hD hS 6 0 rfl rfl dX1_merge_181 (j := i) (x := li i &&& (15 - 2 ^ t)) (by decide) (by omega) (fun H locs hP hD hS => ?_)
            have hP : va_P (dC, dI) vcl (vY cI cZ a 0 n mw nf sg fo L le sc (va_up (mgF hw t u v li i) i (li i &&& (15 - 2 ^ t))) ba ca wa) H := hP
            have hD : va_D (wF (vY cI cZ a th n mw nf sg fo L le sc li ba ca wa)) (vY cI cZ a 0 n mw nf sg fo L le sc (va_up (mgF hw t u v li i) i (li i &&& (15 - 2 ^ t))) ba ca wa) := hD
            refine lv_iload S.1 S.2.1 dX1_merge_182 (lv_at hl 8 rfl) ?_
            refine lv_iload S.1 S.2.1 dX1_merge_184 (lv_at hl 0 rfl) ?_
            refine n_if_eq (x := 0) (tgt := 193) S dX1_merge_186 (by decide) (by decide) (fun _ => ?_) (fun q => absurd rfl q)
            refine lv_iconst (v := (nI 0)) S.1 S.2.1 dX1_merge_193 (by decide) ?_
            refine n_iadd (x := k) (y := 0) S dX1_merge_194 ?_
            refine lv_istore (lv' := [(5, .int (nI (k + 0))), (9, .int (nI 0)), (8, .int (nI (inl li i v).toNat)), (7, .int (nI (inl li i u).toNat)), (0, .ref (a 0)), (1, .int (nI hw)), (2, .int (nI t)), (3, .int (nI u)), (4, .int (nI v)), (6, .int (nI i))]) S.1 S.2.1 dX1_merge_195 hl (by decide) rfl (fun ls hl => ?_)
            refine n_iinc (lv' := [(6, .int (nI (i + 1))), (5, .int (nI (k + 0))), (9, .int (nI 0)), (8, .int (nI (inl li i v).toNat)), (7, .int (nI (inl li i u).toNat)), (0, .ref (a 0)), (1, .int (nI hw)), (2, .int (nI t)), (3, .int (nI u)), (4, .int (nI v))]) (x := i) (k := 9) S dX1_merge_197 hl rfl (by decide) rfl (fun ls hl => ?_)
            refine lv_goto (tgt := 53) S.1 S.2.1 dX1_merge_200 (by decide) ?_
            have e0 : vY cI cZ a 0 n mw nf sg fo L le sc (va_up (mgF hw t u v li i) i (li i &&& (15 - 2 ^ t))) ba ca wa = vY cI cZ a 0 n mw nf sg fo L le sc (mgF hw t u v li (i + 1)) ba ca wa := (by rw [mgF_f (by first | (simp [cho, h82, h87, h92]; done) | (simp [cho, h82, h87]; done) | (simp [cho, h82, h105, h110, h115]; done) | (simp [cho, h82, h105, h110]; done) | (simp [cho, h82, h105, h128, h133]; done) | (simp [cho, h82, h105, h128]; done))])
            exact ih (i + 1) (k + 0) (by omega) (by omega) (by rw [cnt, ← hk, mgP, show cho hw (inl li i u) (inl li i v) = false from (by first | (simp [cho, h82, h87, h92]; done) | (simp [cho, h82, h87]; done) | (simp [cho, h82, h105, h110, h115]; done) | (simp [cho, h82, h105, h110]; done) | (simp [cho, h82, h105, h128, h133]; done) | (simp [cho, h82, h105, h128]; done))] <;> rfl) _ _ (by rw [← e0]; exact hP) (by rw [← e0]; exact hD) hS ls (lv_sub hl [5, 6, 7, 8, 9, 1, 0] rfl)
          · refine lv_iconst (v := (nI 1)) S.1 S.2.1 dX1_merge_95 (by decide) ?_
            refine lv_goto (tgt := 141) S.1 S.2.1 dX1_merge_96 (by decide) ?_
            refine lv_istore (lv' := [(9, .int (nI 1)), (8, .int (nI (inl li i v).toNat)), (7, .int (nI (inl li i u).toNat)), (0, .ref (a 0)), (1, .int (nI hw)), (2, .int (nI t)), (3, .int (nI u)), (4, .int (nI v)), (5, .int (nI k)), (6, .int (nI i))]) S.1 S.2.1 dX1_merge_141 hl (by decide) rfl (fun ls hl => ?_)
            refine lv_aload_n S.1 S.2.1 dX1_merge_143 rfl (lv_at hl 3 rfl) ?_
            refine fX1_lists (v := .ref (a 6)) S hK hP rfl rfl dX1_merge_144 ?_
            refine lv_iload S.1 S.2.1 dX1_merge_147 (lv_at hl 9 rfl) ?_
            refine lv_iload S.1 S.2.1 dX1_merge_149 (lv_at hl 0 rfl) ?_
            refine n_if_eq (x := 1) (tgt := 168) S dX1_merge_151 (by decide) (by decide) (fun q => absurd q (by decide)) (fun _ => ?_)
            refine lv_aload_n S.1 S.2.1 dX1_merge_154 rfl (lv_at hl 3 rfl) ?_
            refine fX1_lists (v := .ref (a 6)) S hK hP rfl rfl dX1_merge_155 ?_
            refine lv_iload S.1 S.2.1 dX1_merge_158 (lv_at hl 9 rfl) ?_
            refine n_iald S hK hP 6 0 rfl rfl dX1_merge_160 (j := i) (by decide) (by omega) ?_
            rw [mgF_at]
            have b160 := hli i
            refine lv_iconst (v := (nI 1)) S.1 S.2.1 dX1_merge_161 (by decide) ?_
            refine lv_iload_n S.1 S.2.1 dX1_merge_162 rfl (lv_at hl 5 rfl) ?_
            refine lv_ishl S.1 S.2.1 dX1_merge_163 ?_
            refine lv_ior S.1 S.2.1 dX1_merge_164 ?_
            refine lv_goto (tgt := 181) S.1 S.2.1 dX1_merge_165 (by decide) ?_
            have b181 := hli i
            first | rw [show nI (li i) ||| (nI 1 <<< (nI t &&& 31)) = nI (li i ||| 2 ^ t) from by obtain ⟨y, q1, q2, q3⟩ := (tb_lt (li i) (by omega) t ht).2.2.1; rw [← q2]; exact q3] | rw [show nI (li i) &&& ((nI 1 <<< (nI t &&& 31)) ^^^ -1) = nI (li i &&& (15 - 2 ^ t)) from by obtain ⟨y, q1, q2, q3⟩ := (tb_lt (li i) (by omega) t ht).2.2.2; rw [← q2]; exact q3]
            refine n_iast S hK hP hD hS 6 0 rfl rfl dX1_merge_181 (j := i) (x := li i ||| 2 ^ t) (by decide) (by omega) (fun H locs hP hD hS => ?_)
            have hP : va_P (dC, dI) vcl (vY cI cZ a 0 n mw nf sg fo L le sc (va_up (mgF hw t u v li i) i (li i ||| 2 ^ t)) ba ca wa) H := hP
            have hD : va_D (wF (vY cI cZ a th n mw nf sg fo L le sc li ba ca wa)) (vY cI cZ a 0 n mw nf sg fo L le sc (va_up (mgF hw t u v li i) i (li i ||| 2 ^ t)) ba ca wa) := hD
            refine lv_iload S.1 S.2.1 dX1_merge_182 (lv_at hl 8 rfl) ?_
            refine lv_iload S.1 S.2.1 dX1_merge_184 (lv_at hl 0 rfl) ?_
            refine n_if_eq (x := 1) (tgt := 193) S dX1_merge_186 (by decide) (by decide) (fun q => absurd q (by decide)) (fun _ => ?_)
            refine lv_iconst (v := (nI 1)) S.1 S.2.1 dX1_merge_189 (by decide) ?_
            refine lv_goto (tgt := 194) S.1 S.2.1 dX1_merge_190 (by decide) ?_
            refine n_iadd (x := k) (y := 1) S dX1_merge_194 ?_
            refine lv_istore (lv' := [(5, .int (nI (k + 1))), (9, .int (nI 1)), (8, .int (nI (inl li i v).toNat)), (7, .int (nI (inl li i u).toNat)), (0, .ref (a 0)), (1, .int (nI hw)), (2, .int (nI t)), (3, .int (nI u)), (4, .int (nI v)), (6, .int (nI i))]) S.1 S.2.1 dX1_merge_195 hl (by decide) rfl (fun ls hl => ?_)
            refine n_iinc (lv' := [(6, .int (nI (i + 1))), (5, .int (nI (k + 1))), (9, .int (nI 1)), (8, .int (nI (inl li i v).toNat)), (7, .int (nI (inl li i u).toNat)), (0, .ref (a 0)), (1, .int (nI hw)), (2, .int (nI t)), (3, .int (nI u)), (4, .int (nI v))]) (x := i) (k := 9) S dX1_merge_197 hl rfl (by decide) rfl (fun ls hl => ?_)
            refine lv_goto (tgt := 53) S.1 S.2.1 dX1_merge_200 (by decide) ?_
            have e0 : vY cI cZ a 0 n mw nf sg fo L le sc (va_up (mgF hw t u v li i) i (li i ||| 2 ^ t)) ba ca wa = vY cI cZ a 0 n mw nf sg fo L le sc (mgF hw t u v li (i + 1)) ba ca wa := (by rw [mgF_t (by first | (simp [cho, h82, h87, h92]; done) | (simp [cho, h82, h87]; done) | (simp [cho, h82, h105, h110, h115]; done) | (simp [cho, h82, h105, h110]; done) | (simp [cho, h82, h105, h128, h133]; done) | (simp [cho, h82, h105, h128]; done))])
            exact ih (i + 1) (k + 1) (by omega) (by omega) (by rw [cnt, ← hk, mgP, show cho hw (inl li i u) (inl li i v) = true from (by first | (simp [cho, h82, h87, h92]; done) | (simp [cho, h82, h87]; done) | (simp [cho, h82, h105, h110, h115]; done) | (simp [cho, h82, h105, h110]; done) | (simp [cho, h82, h105, h128, h133]; done) | (simp [cho, h82, h105, h128]; done))] <;> rfl) _ _ (by rw [← e0]; exact hP) (by rw [← e0]; exact hD) hS ls (lv_sub hl [5, 6, 7, 8, 9, 1, 0] rfl)
set_option maxRecDepth 100000 in
set_option maxHeartbeats 1000000 in
theorem kX1_merge (l : Launch) (dC : Nat → ClassId) (dI : Nat → Nat → Nat) (cI cZ cJ : ClassId) (a : Nat → Nat) (th n mw nf : Nat) (sg fo L le sc li ba ca : Nat → Nat) (wa : Nat → Int32) (hw : Nat) (t : Nat) (u : Nat) (v : Nat) (hI : iv n mw nf sg fo L le sc li ba ca) (hh : hw < 3) (ht : t < 4) (hu : u < 4) (hv : v < 4) : wr l yX1_merge cX1_merge 10 (some .int) 1 22 [.ref (a 0), .int (nI hw), .int (nI t), .int (nI u), .int (nI v)] dC dI cI cZ cJ (vY cI cZ a th n mw nf sg fo L le sc li ba ca wa) (vY cI cZ a 0 n mw nf sg fo L le sc (mgF hw t u v li mw) ba ca wa) (some (.int (nI (cnt (mgP hw u v li) mw)))) := by
  refine wr_ofW RX1 (by decide) rfl (Nat.le_of_ble_eq_true rfl) ?_
  intro p e s m below meth c S hr hlk hK hP hD hS ls hl
  have hl : lv_has ls 10 [(0, .ref (a 0)), (1, .int (nI hw)), (2, .int (nI t)), (3, .int (nI u)), (4, .int (nI v))] := hl
  obtain ⟨⟨hn, hm, hf⟩, ⟨hsg, hfo, hL, hle, hsc, hli, hba, hca⟩, hv1, hv2, hv3, hv4, hv5, hv6, hv7⟩ := id hI
  refine lv_aload_n S.1 S.2.1 dX1_merge_0 rfl (lv_at hl 0 rfl) ?_
  refine lv_iload_n S.1 S.2.1 dX1_merge_1 rfl (lv_at hl 2 rfl) ?_
  refine rd_callS (As := [.int (nI t)]) (rest := [.ref (a 0)]) S (kX1_isList l ((nI t))) tr_blind (fun _ _ _ => trivial) gX1_68 hdX1_isList (by decide) hl.1 rfl (Nat.le_of_ble_eq_true rfl) dX1_merge_2 ⟨Nat.zero_le _, Nat.zero_le _⟩ ?_
  rw [isLi_n ht]
  refine n_bif_eq (b := true) (tgt := 23) S dX1_merge_5 (by decide) (fun h5 => ?_) (fun h5 => ?_)
  · exact absurd h5 (by decide)
  · refine lv_iload_n S.1 S.2.1 dX1_merge_8 rfl (lv_at hl 3 rfl) ?_
    refine rd_callS (As := [.int (nI u)]) (rest := [.ref (a 0)]) S (kX1_isList l (nI u)) tr_blind (fun _ _ _ => trivial) gX1_68 hdX1_isList (by decide) hl.1 rfl (Nat.le_of_ble_eq_true rfl) dX1_merge_9 ⟨Nat.zero_le _, Nat.zero_le _⟩ ?_
    rw [isLi_n hu]
    refine n_bif_eq (b := true) (tgt := 23) S dX1_merge_12 (by decide) (fun h12 => ?_) (fun h12 => ?_)
    · exact absurd h12 (by decide)
    · refine lv_iload S.1 S.2.1 dX1_merge_15 (lv_at hl 4 rfl) ?_
      refine rd_callS (As := [.int (nI v)]) (rest := [.ref (a 0)]) S (kX1_isList l (nI v)) tr_blind (fun _ _ _ => trivial) gX1_68 hdX1_isList (by decide) hl.1 rfl (Nat.le_of_ble_eq_true rfl) dX1_merge_17 ⟨Nat.zero_le _, Nat.zero_le _⟩ ?_
      rw [isLi_n hv]
      refine n_bif_ne (b := true) (tgt := 27) S dX1_merge_20 (by decide) (fun h20 => ?_) (fun h20 => ?_)
      · refine lv_iconst (v := (nI 0)) S.1 S.2.1 dX1_merge_27 (by decide) ?_
        refine wr_callV (C := RX1) (As := [.int (nI 0)]) (rest := []) S (kX1_fails l dC dI cI cZ cJ a th n mw nf sg fo L le sc li ba ca wa false) hK [] [] hP hD hS rfl (va_recv hK hP (ci := 1) (q0 := 0) rfl rfl) gX1_52 hdX1_fails (by decide) hl.1 rfl (Nat.le_of_ble_eq_true rfl) dX1_merge_28 ⟨Nat.zero_le _, Nat.zero_le _⟩ (fun H locs hP hD hS => ?_)
        have hP : va_P (dC, dI) vcl (vY cI cZ a 0 n mw nf sg fo L le sc li ba ca wa) H := hP
        have hD : va_D (wF (vY cI cZ a th n mw nf sg fo L le sc li ba ca wa)) (vY cI cZ a 0 n mw nf sg fo L le sc li ba ca wa) := hD
        refine n_bif_eq (b := false) (tgt := 36) S dX1_merge_31 (by decide) (fun h31 => ?_) (fun h31 => ?_)
        · refine lv_iload_n S.1 S.2.1 dX1_merge_36 rfl (lv_at hl 1 rfl) ?_
          refine n_if_lt (x := hw) (tgt := 45) S dX1_merge_37 (by decide) (by omega) ?_
          refine lv_iload_n S.1 S.2.1 dX1_merge_40 rfl (lv_at hl 1 rfl) ?_
          refine lv_iconst (v := (nI 2)) S.1 S.2.1 dX1_merge_41 (by decide) ?_
          refine n_icmp_le (x := hw) (y := 2) (tgt := 47) S dX1_merge_42 (by decide) (by omega) (by omega) (fun h42 => ?_) (fun h42 => ?_)
          · refine lv_iconst (v := (nI 0)) S.1 S.2.1 dX1_merge_47 (by decide) ?_
            refine lv_istore (lv' := [(5, .int (nI 0)), (0, .ref (a 0)), (1, .int (nI hw)), (2, .int (nI t)), (3, .int (nI u)), (4, .int (nI v))]) S.1 S.2.1 dX1_merge_48 hl (by decide) rfl (fun ls hl => ?_)
            refine lv_iconst (v := (nI 0)) S.1 S.2.1 dX1_merge_50 (by decide) ?_
            refine lv_istore (lv' := [(6, .int (nI 0)), (5, .int (nI 0)), (0, .ref (a 0)), (1, .int (nI hw)), (2, .int (nI t)), (3, .int (nI u)), (4, .int (nI v))]) S.1 S.2.1 dX1_merge_51 hl (by decide) rfl (fun ls hl => ?_)
            have e0 : vY cI cZ a 0 n mw nf sg fo L le sc li ba ca wa = vY cI cZ a 0 n mw nf sg fo L le sc (mgF hw t u v li 0) ba ca wa := (by rw [mgF_0])
            exact lX1_merge_53 l dC dI cI cZ cJ a th n mw nf sg fo L le sc li ba ca wa hw t u v hI hh ht hu hv S hr hlk hK _ 0 0 (Nat.lt_succ_self _) (by omega) rfl _ _ (by rw [← e0]; exact hP) (by rw [← e0]; exact hD) hS ls (lv_sub hl [2, 3, 4, 5, 6, 1, 0] rfl)
          · exact absurd hh (by omega)
        · exact absurd h31 (by decide)
      · exact absurd h20 (by decide)

set_option maxRecDepth 100000 in
set_option maxHeartbeats 1000000 in
theorem kX1_seekF (l : Launch) (dC : Nat → ClassId) (dI : Nat → Nat → Nat) (cI cZ cJ : ClassId) (a : Nat → Nat) (th n mw nf : Nat) (sg fo L le sc li ba ca : Nat → Nat) (wa : Nat → Int32) (u : Int32) (hu : isLi u = false) : wr l yX1_seek cX1_seek 4 (some .int) 1 21 [.ref (a 0), .int u] dC dI cI cZ cJ (vY cI cZ a th n mw nf sg fo L le sc li ba ca wa) (vY cI cZ a 1 n mw nf sg fo L le sc li ba ca wa) (some (.int (nI (0)))) := by
  refine wr_ofW RX1 (by decide) rfl (Nat.le_of_ble_eq_true rfl) ?_
  intro p e s m below meth c S hr hlk hK hP hD hS ls hl
  have hl : lv_has ls 4 [(0, .ref (a 0)), (1, .int u)] := hl
  refine lv_aload_n S.1 S.2.1 dX1_seek_0 rfl (lv_at hl 0 rfl) ?_
  refine lv_iload_n S.1 S.2.1 dX1_seek_1 rfl (lv_at hl 1 rfl) ?_
  refine rd_callS (As := [.int u]) (rest := [.ref (a 0)]) S (kX1_isList l u) tr_blind (fun _ _ _ => trivial) gX1_68 hdX1_isList (by decide) hl.1 rfl (Nat.le_of_ble_eq_true rfl) dX1_seek_2 ⟨Nat.zero_le _, Nat.zero_le _⟩ ?_
  rw [hu]
  refine n_bif_ne (b := false) (tgt := 12) S dX1_seek_5 (by decide) (fun h5 => ?_) (fun h5 => ?_)
  · exact absurd h5 (by decide)
  · refine lv_iconst (v := (nI 1)) S.1 S.2.1 dX1_seek_8 (by decide) ?_
    refine lv_goto (tgt := 13) S.1 S.2.1 dX1_seek_9 (by decide) ?_
    refine wr_callV (C := RX1) (As := [.int (nI 1)]) (rest := []) S (kX1_fails l dC dI cI cZ cJ a th n mw nf sg fo L le sc li ba ca wa true) hK [] [] hP hD hS rfl (va_recv hK hP (ci := 1) (q0 := 0) rfl rfl) gX1_52 hdX1_fails (by decide) hl.1 rfl (Nat.le_of_ble_eq_true rfl) dX1_seek_13 ⟨Nat.zero_le _, Nat.zero_le _⟩ (fun H locs hP hD hS => ?_)
    have hP : va_P (dC, dI) vcl (vY cI cZ a 1 n mw nf sg fo L le sc li ba ca wa) H := hP
    have hD : va_D (wF (vY cI cZ a th n mw nf sg fo L le sc li ba ca wa)) (vY cI cZ a 1 n mw nf sg fo L le sc li ba ca wa) := hD
    refine n_bif_eq (b := true) (tgt := 21) S dX1_seek_16 (by decide) (fun h16 => ?_) (fun h16 => ?_)
    · exact absurd h16 (by decide)
    · refine lv_iconst (v := (nI 0)) S.1 S.2.1 dX1_seek_19 (by decide) ?_
      exact wr_ret S hr hlk (rfl) (rfl) hP (rfl) hS dX1_seek_20

set_option maxRecDepth 100000 in
set_option maxHeartbeats 1000000 in
theorem lX1_seek_70 (l : Launch) (dC : Nat → ClassId) (dI : Nat → Nat → Nat) (cI cZ cJ : ClassId) (a : Nat → Nat) (th n mw nf : Nat) (sg fo L le sc li ba ca : Nat → Nat) (wa : Nat → Int32) (t : Nat) (hI : iv n mw nf sg fo L le sc li ba ca) (ht : t < 4) (fuel0 : Nat) (i f : Nat) (cx : Nat → Nat) (hq0 : mw - i < fuel0 + 1) (h33 : i < mw) (hfr : fre li ba t i = true) (hft : fit n sg fo L le i = true) (hsk : (f, cx) = skS n sg fo L le sc li ba t ca i) (hfi : f ≤ i) (hcc : ∀ k, k < f → cx k < i ∧ le (cx k) = n) (hc5 : ∀ k, cx k < 250)  {p : Program} {e : Env} {s : State} {m : MethodId} {below : List Frame} {meth : Method} {c : Code} (S : CallFix p m c cX1_seek 4 s ([.ref (a 0), .int (nI t)] : List Value).toArray tbG RX1) (hr : meth.sig.returnType = (some .int)) (hlk : meth.locks = false) (hK : va_K (dC, dI) vcl (vty cI cZ cJ) s) (ih28 : ∀ (i : Nat) (f : Nat) (cx : Nat → Nat), mw - i < fuel0 → i ≤ mw → (f, cx) = skS n sg fo L le sc li ba t ca i → f ≤ i → (∀ k, k < f → cx k < i ∧ le (cx k) = n) → (∀ k, cx k < 250) → ∀ (H : Heap) (locs : List Loc), va_P (dC, dI) vcl (vY cI cZ a 0 n mw f sg fo L le sc li ba cx wa) H → va_D (wF (vY cI cZ a th n mw nf sg fo L le sc li ba ca wa)) (vY cI cZ a 0 n mw f sg fo L le sc li ba cx wa) → va_S (wF (vY cI cZ a th n mw nf sg fo L le sc li ba ca wa)) s.heap H locs → ∀ ls : Array Slot, lv_has ls 4 [(0, .ref (a 0)), (1, .int (nI t)), (2, .int (nI i))] → W p l e ({ frames := 3, cells := 0, slots := 0, locals := 66 } : Room) s m ([.ref (a 0), .int (nI t)] : List Value).toArray below meth c H locs 0 0 (MQ below (Qw dC dI (vY cI cZ a th n mw nf sg fo L le sc li ba ca wa) (vY cI cZ a 0 n mw ((skS n sg fo L le sc li ba t ca mw).1) sg fo L le sc li ba ((skS n sg fo L le sc li ba t ca mw).2) wa) (some (.int (nI ((skS n sg fo L le sc li ba t ca mw).1))))) ([.ref (a 0), .int (nI t)] : List Value).toArray s 0 0 (wF (vY cI cZ a th n mw nf sg fo L le sc li ba ca wa))) (F0 m 28 ls [])) :
    ∀ (fuel : Nat) (q : Nat) (cy : Nat → Nat), q < fuel → q ≤ f → inC (ahd L sc i) i q cy = inC (ahd L sc i) i f cx → (∀ k, k < q → cy k = cx k) → (∀ k, cy k < 250) → (∀ k, k < f → cy k < mw) → ∀ (H : Heap) (locs : List Loc), va_P (dC, dI) vcl (vY cI cZ a 0 n mw f sg fo L le sc li ba cy wa) H → va_D (wF (vY cI cZ a th n mw nf sg fo L le sc li ba ca wa)) (vY cI cZ a 0 n mw f sg fo L le sc li ba cy wa) → va_S (wF (vY cI cZ a th n mw nf sg fo L le sc li ba ca wa)) s.heap H locs → ∀ ls : Array Slot, lv_has ls 4 [(0, .ref (a 0)), (1, .int (nI t)), (2, .int (nI i)), (3, .int (nI q))] → W p l e ({ frames := 3, cells := 0, slots := 0, locals := 66 } : Room) s m ([.ref (a 0), .int (nI t)] : List Value).toArray below meth c H locs 0 0 (MQ below (Qw dC dI (vY cI cZ a th n mw nf sg fo L le sc li ba ca wa) (vY cI cZ a 0 n mw ((skS n sg fo L le sc li ba t ca mw).1) sg fo L le sc li ba ((skS n sg fo L le sc li ba t ca mw).2) wa) (some (.int (nI ((skS n sg fo L le sc li ba t ca mw).1))))) ([.ref (a 0), .int (nI t)] : List Value).toArray s 0 0 (wF (vY cI cZ a th n mw nf sg fo L le sc li ba ca wa))) (F0 m 70 ls []) := by
  obtain ⟨⟨hn, hm, hf⟩, ⟨hsg, hfo, hL, hle, hsc, hli, hba, hca⟩, hv1, hv2, hv3, hv4, hv5, hv6, hv7⟩ := id hI
  intro fuel
  induction fuel with
  | zero =>
    intro q cy hq
    exact absurd hq (Nat.not_lt_zero _)
  | succ fuel ih =>
    intro q cy hq hq1 hin h18 hcy hcm H locs hP hD hS ls hl
    have hJ := iv_sk hI (show f ≤ mw by omega) hcy hcm
    refine lv_iload_n S.1 S.2.1 dX1_seek_70 rfl (lv_at hl 3 rfl) ?_
    refine n_if_le (x := q) (tgt := 110) S dX1_seek_71 (by decide) (by omega) (fun h71 => ?_) (fun h71 => ?_)
    · refine lv_aload_n S.1 S.2.1 dX1_seek_110 rfl (lv_at hl 0 rfl) ?_
      refine fX1_candidates (v := .ref (a 8)) S hK hP rfl rfl dX1_seek_111 ?_
      refine lv_iload_n S.1 S.2.1 dX1_seek_114 rfl (lv_at hl 3 rfl) ?_
      refine lv_iload_n S.1 S.2.1 dX1_seek_115 rfl (lv_at hl 2 rfl) ?_
      refine n_iast S hK hP hD hS 8 0 rfl rfl dX1_seek_116 (j := q) (x := i) (by decide) (by omega) (fun H locs hP hD hS => ?_)
      have hP : va_P (dC, dI) vcl (vY cI cZ a 0 n mw f sg fo L le sc li ba (va_up cy q i) wa) H := hP
      have hD : va_D (wF (vY cI cZ a th n mw nf sg fo L le sc li ba ca wa)) (vY cI cZ a 0 n mw f sg fo L le sc li ba (va_up cy q i) wa) := hD
      refine lv_aload_n S.1 S.2.1 dX1_seek_117 rfl (lv_at hl 0 rfl) ?_
      refine lv_dup S.1 S.2.1 dX1_seek_118 rfl ?_
      refine fX1_found (v := .int (nI f)) S hK hP rfl rfl dX1_seek_119 ?_
      refine lv_iconst (v := (nI 1)) S.1 S.2.1 dX1_seek_122 (by decide) ?_
      refine n_iadd (x := f) (y := 1) S dX1_seek_123 ?_
      refine pX1_found S hK hP hD hS rfl (Nat.le_of_ble_eq_true rfl) dX1_seek_124 (fun H locs hP hD hS => ?_)
      have hP : va_P (dC, dI) vcl (vY cI cZ a 0 n mw (f + 1) sg fo L le sc li ba (va_up cy q i) wa) H := hP
      have hD : va_D (wF (vY cI cZ a th n mw nf sg fo L le sc li ba ca wa)) (vY cI cZ a 0 n mw (f + 1) sg fo L le sc li ba (va_up cy q i) wa) := hD
      refine n_iinc (lv' := [(2, .int (nI (i + 1))), (0, .ref (a 0)), (1, .int (nI t)), (3, .int (nI q))]) (x := i) (k := 2) S dX1_seek_127 hl rfl (by decide) rfl (fun ls hl => ?_)
      refine lv_goto (tgt := 28) S.1 S.2.1 dX1_seek_130 (by decide) ?_
      have e0 : vY cI cZ a 0 n mw (f + 1) sg fo L le sc li ba (va_up cy q i) wa = vY cI cZ a 0 n mw ((f + 1)) sg fo L le sc li ba ((inC (ahd L sc i) i f cx)) wa := (by rw [← hin]; first | (rw [inC_f (by omega) h87]; done) | (rw [h71]; rfl))
      exact ih28 (i + 1) (f + 1) (inC (ahd L sc i) i f cx) (by omega) (by omega) (by rw [skS, ← hsk]; rw [hfr, hft] <;> rfl) (by omega) (fun k hk => inC_all (P := fun x => x < i + 1 ∧ le x = n) (fun j hj => ⟨by have := (hcc j hj).1; omega, (hcc j hj).2⟩) ⟨by omega, fit_le hft⟩ k hk) (inC_any (P := fun x => x < 250) hc5 (by omega)) _ _ (by rw [← e0]; exact hP) (by rw [← e0]; exact hD) hS ls (lv_sub hl [1, 2, 0] rfl)
    · refine lv_aload_n S.1 S.2.1 dX1_seek_74 rfl (lv_at hl 0 rfl) ?_
      refine lv_iload_n S.1 S.2.1 dX1_seek_75 rfl (lv_at hl 2 rfl) ?_
      refine lv_aload_n S.1 S.2.1 dX1_seek_76 rfl (lv_at hl 0 rfl) ?_
      refine fX1_candidates (v := .ref (a 8)) S hK hP rfl rfl dX1_seek_77 ?_
      refine lv_iload_n S.1 S.2.1 dX1_seek_80 rfl (lv_at hl 3 rfl) ?_
      refine lv_iconst (v := (nI 1)) S.1 S.2.1 dX1_seek_81 (by decide) ?_
      refine n_isub (x := q) (y := 1) S dX1_seek_82 (by omega) ?_
      refine n_iald S hK hP 8 0 rfl rfl dX1_seek_83 (j := q - 1) (by decide) (by omega) ?_
      refine rd_callV (C := RX1) (As := [.int (nI i), .int (nI (cy (q - 1)))]) (rest := []) S (kX1_isAhead l dC dI cI cZ cJ a 0 n mw f sg fo L le sc li ba cy wa i (cy (q - 1)) hJ (by omega) (hcy _)) rB_blind (fun U hU hW => ⟨by rw [hU]; exact hP, va_K.moved hW.alike hK⟩) (va_recv hK hP (ci := 1) (q0 := 0) rfl rfl) gX1_84 hdX1_isAhead (by decide) hl.1 rfl (Nat.le_of_ble_eq_true rfl) dX1_seek_84 ⟨Nat.zero_le _, Nat.zero_le _⟩ ?_
      refine n_bif_eq (b := ahd L sc i (cy (q - 1))) (tgt := 110) S dX1_seek_87 (by decide) (fun h87 => ?_) (fun h87 => ?_)
      · refine lv_aload_n S.1 S.2.1 dX1_seek_110 rfl (lv_at hl 0 rfl) ?_
        refine fX1_candidates (v := .ref (a 8)) S hK hP rfl rfl dX1_seek_111 ?_
        refine lv_iload_n S.1 S.2.1 dX1_seek_114 rfl (lv_at hl 3 rfl) ?_
        refine lv_iload_n S.1 S.2.1 dX1_seek_115 rfl (lv_at hl 2 rfl) ?_
        refine n_iast S hK hP hD hS 8 0 rfl rfl dX1_seek_116 (j := q) (x := i) (by decide) (by omega) (fun H locs hP hD hS => ?_)
        have hP : va_P (dC, dI) vcl (vY cI cZ a 0 n mw f sg fo L le sc li ba (va_up cy q i) wa) H := hP
        have hD : va_D (wF (vY cI cZ a th n mw nf sg fo L le sc li ba ca wa)) (vY cI cZ a 0 n mw f sg fo L le sc li ba (va_up cy q i) wa) := hD
        refine lv_aload_n S.1 S.2.1 dX1_seek_117 rfl (lv_at hl 0 rfl) ?_
        refine lv_dup S.1 S.2.1 dX1_seek_118 rfl ?_
        refine fX1_found (v := .int (nI f)) S hK hP rfl rfl dX1_seek_119 ?_
        refine lv_iconst (v := (nI 1)) S.1 S.2.1 dX1_seek_122 (by decide) ?_
        refine n_iadd (x := f) (y := 1) S dX1_seek_123 ?_
        refine pX1_found S hK hP hD hS rfl (Nat.le_of_ble_eq_true rfl) dX1_seek_124 (fun H locs hP hD hS => ?_)
        have hP : va_P (dC, dI) vcl (vY cI cZ a 0 n mw (f + 1) sg fo L le sc li ba (va_up cy q i) wa) H := hP
        have hD : va_D (wF (vY cI cZ a th n mw nf sg fo L le sc li ba ca wa)) (vY cI cZ a 0 n mw (f + 1) sg fo L le sc li ba (va_up cy q i) wa) := hD
        refine n_iinc (lv' := [(2, .int (nI (i + 1))), (0, .ref (a 0)), (1, .int (nI t)), (3, .int (nI q))]) (x := i) (k := 2) S dX1_seek_127 hl rfl (by decide) rfl (fun ls hl => ?_)
        refine lv_goto (tgt := 28) S.1 S.2.1 dX1_seek_130 (by decide) ?_
        have e0 : vY cI cZ a 0 n mw (f + 1) sg fo L le sc li ba (va_up cy q i) wa = vY cI cZ a 0 n mw ((f + 1)) sg fo L le sc li ba ((inC (ahd L sc i) i f cx)) wa := (by rw [← hin]; first | (rw [inC_f (by omega) h87]; done) | (rw [h71]; rfl))
        exact ih28 (i + 1) (f + 1) (inC (ahd L sc i) i f cx) (by omega) (by omega) (by rw [skS, ← hsk]; rw [hfr, hft] <;> rfl) (by omega) (fun k hk => inC_all (P := fun x => x < i + 1 ∧ le x = n) (fun j hj => ⟨by have := (hcc j hj).1; omega, (hcc j hj).2⟩) ⟨by omega, fit_le hft⟩ k hk) (inC_any (P := fun x => x < 250) hc5 (by omega)) _ _ (by rw [← e0]; exact hP) (by rw [← e0]; exact hD) hS ls (lv_sub hl [1, 2, 0] rfl)
      · refine lv_aload_n S.1 S.2.1 dX1_seek_90 rfl (lv_at hl 0 rfl) ?_
        refine fX1_candidates (v := .ref (a 8)) S hK hP rfl rfl dX1_seek_91 ?_
        refine lv_iload_n S.1 S.2.1 dX1_seek_94 rfl (lv_at hl 3 rfl) ?_
        refine lv_aload_n S.1 S.2.1 dX1_seek_95 rfl (lv_at hl 0 rfl) ?_
        refine fX1_candidates (v := .ref (a 8)) S hK hP rfl rfl dX1_seek_96 ?_
        refine lv_iload_n S.1 S.2.1 dX1_seek_99 rfl (lv_at hl 3 rfl) ?_
        refine lv_iconst (v := (nI 1)) S.1 S.2.1 dX1_seek_100 (by decide) ?_
        refine n_isub (x := q) (y := 1) S dX1_seek_101 (by omega) ?_
        refine n_iald S hK hP 8 0 rfl rfl dX1_seek_102 (j := q - 1) (by decide) (by omega) ?_
        refine n_iast S hK hP hD hS 8 0 rfl rfl dX1_seek_103 (j := q) (x := cy (q - 1)) (by decide) (by omega) (fun H locs hP hD hS => ?_)
        have hP : va_P (dC, dI) vcl (vY cI cZ a 0 n mw f sg fo L le sc li ba (va_up cy q (cy (q - 1))) wa) H := hP
        have hD : va_D (wF (vY cI cZ a th n mw nf sg fo L le sc li ba ca wa)) (vY cI cZ a 0 n mw f sg fo L le sc li ba (va_up cy q (cy (q - 1))) wa) := hD
        refine n_idec (lv' := [(3, .int (nI (q - 1))), (0, .ref (a 0)), (1, .int (nI t)), (2, .int (nI i))]) (x := q) (k := 3) S dX1_seek_104 hl rfl (by omega) (by decide) rfl (fun ls hl => ?_)
        refine lv_goto (tgt := 70) S.1 S.2.1 dX1_seek_107 (by decide) ?_
        have e0 : vY cI cZ a 0 n mw f sg fo L le sc li ba (va_up cy q (cy (q - 1))) wa = vY cI cZ a 0 n mw f sg fo L le sc li ba ((va_up cy q (cy (q - 1)))) wa := rfl
        exact ih (q - 1) (va_up cy q (cy (q - 1))) (by omega) (by omega) (by rw [← hin, inC_t (by omega) h87]) (fun k hk => by rw [va_up_ne _ _ (by omega)]; exact h18 k (by omega)) (fun k => up_all (P := fun _ x => x < 250) (fun k => hcy k) (hcy _) k) (up_all (P := fun k x => k < f → x < mw) hcm (fun _ => hcm _ (by omega))) _ _ (by rw [← e0]; exact hP) (by rw [← e0]; exact hD) hS ls (lv_sub hl [1, 2, 3, 0] rfl)
set_option maxRecDepth 100000 in
set_option maxHeartbeats 1000000 in
theorem lX1_seek_28 (l : Launch) (dC : Nat → ClassId) (dI : Nat → Nat → Nat) (cI cZ cJ : ClassId) (a : Nat → Nat) (th n mw nf : Nat) (sg fo L le sc li ba ca : Nat → Nat) (wa : Nat → Int32) (t : Nat) (hI : iv n mw nf sg fo L le sc li ba ca) (ht : t < 4)  {p : Program} {e : Env} {s : State} {m : MethodId} {below : List Frame} {meth : Method} {c : Code} (S : CallFix p m c cX1_seek 4 s ([.ref (a 0), .int (nI t)] : List Value).toArray tbG RX1) (hr : meth.sig.returnType = (some .int)) (hlk : meth.locks = false) (hK : va_K (dC, dI) vcl (vty cI cZ cJ) s) :
    ∀ (fuel : Nat) (i : Nat) (f : Nat) (cx : Nat → Nat), mw - i < fuel → i ≤ mw → (f, cx) = skS n sg fo L le sc li ba t ca i → f ≤ i → (∀ k, k < f → cx k < i ∧ le (cx k) = n) → (∀ k, cx k < 250) → ∀ (H : Heap) (locs : List Loc), va_P (dC, dI) vcl (vY cI cZ a 0 n mw f sg fo L le sc li ba cx wa) H → va_D (wF (vY cI cZ a th n mw nf sg fo L le sc li ba ca wa)) (vY cI cZ a 0 n mw f sg fo L le sc li ba cx wa) → va_S (wF (vY cI cZ a th n mw nf sg fo L le sc li ba ca wa)) s.heap H locs → ∀ ls : Array Slot, lv_has ls 4 [(0, .ref (a 0)), (1, .int (nI t)), (2, .int (nI i))] → W p l e ({ frames := 3, cells := 0, slots := 0, locals := 66 } : Room) s m ([.ref (a 0), .int (nI t)] : List Value).toArray below meth c H locs 0 0 (MQ below (Qw dC dI (vY cI cZ a th n mw nf sg fo L le sc li ba ca wa) (vY cI cZ a 0 n mw ((skS n sg fo L le sc li ba t ca mw).1) sg fo L le sc li ba ((skS n sg fo L le sc li ba t ca mw).2) wa) (some (.int (nI ((skS n sg fo L le sc li ba t ca mw).1))))) ([.ref (a 0), .int (nI t)] : List Value).toArray s 0 0 (wF (vY cI cZ a th n mw nf sg fo L le sc li ba ca wa))) (F0 m 28 ls []) := by
  obtain ⟨⟨hn, hm, hf⟩, ⟨hsg, hfo, hL, hle, hsc, hli, hba, hca⟩, hv1, hv2, hv3, hv4, hv5, hv6, hv7⟩ := id hI
  intro fuel
  induction fuel with
  | zero =>
    intro i f cx hq
    exact absurd hq (Nat.not_lt_zero _)
  | succ fuel ih =>
    intro i f cx hq hi hsk hfi hcc hc5 H locs hP hD hS ls hl
    have hI2 := iv_sk hI (show f ≤ mw by omega) hc5 (fun k hk => by have := (hcc k hk).1; omega)
    refine lv_iload_n S.1 S.2.1 dX1_seek_28 rfl (lv_at hl 2 rfl) ?_
    refine lv_aload_n S.1 S.2.1 dX1_seek_29 rfl (lv_at hl 0 rfl) ?_
    refine fX1_many (v := .int (nI mw)) S hK hP rfl rfl dX1_seek_30 ?_
    refine n_icmp_ge (x := i) (y := mw) (tgt := 133) S dX1_seek_33 (by decide) (by omega) (by omega) (fun h33 => ?_) (fun h33 => ?_)
    · refine lv_aload_n S.1 S.2.1 dX1_seek_133 rfl (lv_at hl 0 rfl) ?_
      refine fX1_found (v := .int (nI f)) S hK hP rfl rfl dX1_seek_134 ?_
      exact wr_ret S hr hlk (rfl) (by rw [show mw = i by omega, ← hsk]) hP (by rw [show (skS n sg fo L le sc li ba t ca mw) = (f, cx) by rw [show mw = i by omega]; exact hsk.symm]) hS dX1_seek_137
    · refine lv_aload_n S.1 S.2.1 dX1_seek_36 rfl (lv_at hl 0 rfl) ?_
      refine lv_iload_n S.1 S.2.1 dX1_seek_37 rfl (lv_at hl 2 rfl) ?_
      refine lv_iload_n S.1 S.2.1 dX1_seek_38 rfl (lv_at hl 1 rfl) ?_
      refine rd_callV (C := RX1) (As := [.int (nI i), .int (nI t)]) (rest := []) S (kX1_isIn l dC dI cI cZ cJ a 0 n mw f sg fo L le sc li ba cx wa i t hI2 (by omega) ht) rB_blind (fun U hU hW => ⟨by rw [hU]; exact hP, va_K.moved hW.alike hK⟩) (va_recv hK hP (ci := 1) (q0 := 0) rfl rfl) gX1_78 hdX1_isIn (by decide) hl.1 rfl (Nat.le_of_ble_eq_true rfl) dX1_seek_39 ⟨Nat.zero_le _, Nat.zero_le _⟩ ?_
      refine n_bif_eq (b := inl li i t) (tgt := 127) S dX1_seek_42 (by decide) (fun h42 => ?_) (fun h42 => ?_)
      · refine n_iinc (lv' := [(2, .int (nI (i + 1))), (0, .ref (a 0)), (1, .int (nI t))]) (x := i) (k := 2) S dX1_seek_127 hl rfl (by decide) rfl (fun ls hl => ?_)
        refine lv_goto (tgt := 28) S.1 S.2.1 dX1_seek_130 (by decide) ?_
        exact ih (i + 1) f cx (by omega) (by omega) (by rw [skS, ← hsk]; first | (rw [show fre li ba t i = true from (by rw [fre, h42, decide_eq_true h51]; rfl), h59] <;> rfl) | (rw [show fre li ba t i = false from by rw [fre, h42, decide_eq_false h51]; rfl] <;> rfl) | (rw [show fre li ba t i = false from by rw [fre, h42]; rfl] <;> rfl)) (by omega) (fun k hk => ⟨by have := (hcc k hk).1; omega, (hcc k hk).2⟩) hc5 _ _ hP hD hS ls (lv_sub hl [1, 2, 0] rfl)
      · refine lv_aload_n S.1 S.2.1 dX1_seek_45 rfl (lv_at hl 0 rfl) ?_
        refine fX1_barred (v := .ref (a 7)) S hK hP rfl rfl dX1_seek_46 ?_
        refine lv_iload_n S.1 S.2.1 dX1_seek_49 rfl (lv_at hl 2 rfl) ?_
        refine n_zald S hK hP 7 1 rfl rfl dX1_seek_50 (j := i) (by decide) (by omega) ?_
        have b50 := hba i
        refine n_if_ne (x := ba i) (tgt := 127) S dX1_seek_51 (by decide) (by omega) (fun h51 => ?_) (fun h51 => ?_)
        · refine n_iinc (lv' := [(2, .int (nI (i + 1))), (0, .ref (a 0)), (1, .int (nI t))]) (x := i) (k := 2) S dX1_seek_127 hl rfl (by decide) rfl (fun ls hl => ?_)
          refine lv_goto (tgt := 28) S.1 S.2.1 dX1_seek_130 (by decide) ?_
          exact ih (i + 1) f cx (by omega) (by omega) (by rw [skS, ← hsk]; first | (rw [show fre li ba t i = true from (by rw [fre, h42, decide_eq_true h51]; rfl), h59] <;> rfl) | (rw [show fre li ba t i = false from by rw [fre, h42, decide_eq_false h51]; rfl] <;> rfl) | (rw [show fre li ba t i = false from by rw [fre, h42]; rfl] <;> rfl)) (by omega) (fun k hk => ⟨by have := (hcc k hk).1; omega, (hcc k hk).2⟩) hc5 _ _ hP hD hS ls (lv_sub hl [1, 2, 0] rfl)
        · refine lv_aload_n S.1 S.2.1 dX1_seek_54 rfl (lv_at hl 0 rfl) ?_
          refine lv_iload_n S.1 S.2.1 dX1_seek_55 rfl (lv_at hl 2 rfl) ?_
          refine rd_callV (C := RX1) (As := [.int (nI i)]) (rest := []) S (kX1_fits l dC dI cI cZ cJ a 0 n mw f sg fo L le sc li ba cx wa i hI2 (by omega)) rB_blind (fun U hU hW => ⟨by rw [hU]; exact hP, va_K.moved hW.alike hK⟩) (va_recv hK hP (ci := 1) (q0 := 0) rfl rfl) gX1_75 hdX1_fits (by decide) hl.1 rfl (Nat.le_of_ble_eq_true rfl) dX1_seek_56 ⟨Nat.zero_le _, Nat.zero_le _⟩ ?_
          refine n_bif_ne (b := fit n sg fo L le i) (tgt := 65) S dX1_seek_59 (by decide) (fun h59 => ?_) (fun h59 => ?_)
          · refine lv_aload_n S.1 S.2.1 dX1_seek_65 rfl (lv_at hl 0 rfl) ?_
            refine fX1_found (v := .int (nI f)) S hK hP rfl rfl dX1_seek_66 ?_
            refine lv_istore_n (lv' := [(3, .int (nI f)), (0, .ref (a 0)), (1, .int (nI t)), (2, .int (nI i))]) S.1 S.2.1 dX1_seek_69 rfl hl (by decide) rfl (fun ls hl => ?_)
            exact lX1_seek_70 l dC dI cI cZ cJ a th n mw nf sg fo L le sc li ba ca wa t hI ht fuel i f cx hq h33 (by rw [fre, h42, decide_eq_true h51]; rfl) h59 hsk hfi hcc hc5 S hr hlk hK ih _ f cx (Nat.lt_succ_self _) (Nat.le_refl _) rfl (fun _ _ => rfl) hc5 (fun k hk => by have := (hcc k hk).1; omega) _ _ hP hD hS ls (lv_sub hl [1, 2, 3, 0] rfl)
          · refine lv_goto (tgt := 127) S.1 S.2.1 dX1_seek_62 (by decide) ?_
            refine n_iinc (lv' := [(2, .int (nI (i + 1))), (0, .ref (a 0)), (1, .int (nI t))]) (x := i) (k := 2) S dX1_seek_127 hl rfl (by decide) rfl (fun ls hl => ?_)
            refine lv_goto (tgt := 28) S.1 S.2.1 dX1_seek_130 (by decide) ?_
            exact ih (i + 1) f cx (by omega) (by omega) (by rw [skS, ← hsk]; first | (rw [show fre li ba t i = true from (by rw [fre, h42, decide_eq_true h51]; rfl), h59] <;> rfl) | (rw [show fre li ba t i = false from by rw [fre, h42, decide_eq_false h51]; rfl] <;> rfl) | (rw [show fre li ba t i = false from by rw [fre, h42]; rfl] <;> rfl)) (by omega) (fun k hk => ⟨by have := (hcc k hk).1; omega, (hcc k hk).2⟩) hc5 _ _ hP hD hS ls (lv_sub hl [1, 2, 0] rfl)
set_option maxRecDepth 100000 in
set_option maxHeartbeats 1000000 in
theorem kX1_seek (l : Launch) (dC : Nat → ClassId) (dI : Nat → Nat → Nat) (cI cZ cJ : ClassId) (a : Nat → Nat) (th n mw nf : Nat) (sg fo L le sc li ba ca : Nat → Nat) (wa : Nat → Int32) (t : Nat) (hI : iv n mw nf sg fo L le sc li ba ca) (ht : t < 4) : wr l yX1_seek cX1_seek 4 (some .int) 3 66 [.ref (a 0), .int (nI t)] dC dI cI cZ cJ (vY cI cZ a th n mw nf sg fo L le sc li ba ca wa) (vY cI cZ a 0 n mw ((skS n sg fo L le sc li ba t ca mw).1) sg fo L le sc li ba ((skS n sg fo L le sc li ba t ca mw).2) wa) (some (.int (nI ((skS n sg fo L le sc li ba t ca mw).1)))) := by
  refine wr_ofW RX1 (by decide) rfl (Nat.le_of_ble_eq_true rfl) ?_
  intro p e s m below meth c S hr hlk hK hP hD hS ls hl
  have hl : lv_has ls 4 [(0, .ref (a 0)), (1, .int (nI t))] := hl
  obtain ⟨⟨hn, hm, hf⟩, ⟨hsg, hfo, hL, hle, hsc, hli, hba, hca⟩, hv1, hv2, hv3, hv4, hv5, hv6, hv7⟩ := id hI
  refine lv_aload_n S.1 S.2.1 dX1_seek_0 rfl (lv_at hl 0 rfl) ?_
  refine lv_iload_n S.1 S.2.1 dX1_seek_1 rfl (lv_at hl 1 rfl) ?_
  refine rd_callS (As := [.int (nI t)]) (rest := [.ref (a 0)]) S (kX1_isList l ((nI t))) tr_blind (fun _ _ _ => trivial) gX1_68 hdX1_isList (by decide) hl.1 rfl (Nat.le_of_ble_eq_true rfl) dX1_seek_2 ⟨Nat.zero_le _, Nat.zero_le _⟩ ?_
  rw [isLi_n ht]
  refine n_bif_ne (b := true) (tgt := 12) S dX1_seek_5 (by decide) (fun h5 => ?_) (fun h5 => ?_)
  · refine lv_iconst (v := (nI 0)) S.1 S.2.1 dX1_seek_12 (by decide) ?_
    refine wr_callV (C := RX1) (As := [.int (nI 0)]) (rest := []) S (kX1_fails l dC dI cI cZ cJ a th n mw nf sg fo L le sc li ba ca wa false) hK [] [] hP hD hS rfl (va_recv hK hP (ci := 1) (q0 := 0) rfl rfl) gX1_52 hdX1_fails (by decide) hl.1 rfl (Nat.le_of_ble_eq_true rfl) dX1_seek_13 ⟨Nat.zero_le _, Nat.zero_le _⟩ (fun H locs hP hD hS => ?_)
    have hP : va_P (dC, dI) vcl (vY cI cZ a 0 n mw nf sg fo L le sc li ba ca wa) H := hP
    have hD : va_D (wF (vY cI cZ a th n mw nf sg fo L le sc li ba ca wa)) (vY cI cZ a 0 n mw nf sg fo L le sc li ba ca wa) := hD
    refine n_bif_eq (b := false) (tgt := 21) S dX1_seek_16 (by decide) (fun h16 => ?_) (fun h16 => ?_)
    · refine lv_aload_n S.1 S.2.1 dX1_seek_21 rfl (lv_at hl 0 rfl) ?_
      refine lv_iconst (v := (nI 0)) S.1 S.2.1 dX1_seek_22 (by decide) ?_
      refine pX1_found S hK hP hD hS rfl (Nat.le_of_ble_eq_true rfl) dX1_seek_23 (fun H locs hP hD hS => ?_)
      have hP : va_P (dC, dI) vcl (vY cI cZ a 0 n mw 0 sg fo L le sc li ba ca wa) H := hP
      have hD : va_D (wF (vY cI cZ a th n mw nf sg fo L le sc li ba ca wa)) (vY cI cZ a 0 n mw 0 sg fo L le sc li ba ca wa) := hD
      refine lv_iconst (v := (nI 0)) S.1 S.2.1 dX1_seek_26 (by decide) ?_
      refine lv_istore_n (lv' := [(2, .int (nI 0)), (0, .ref (a 0)), (1, .int (nI t))]) S.1 S.2.1 dX1_seek_27 rfl hl (by decide) rfl (fun ls hl => ?_)
      exact lX1_seek_28 l dC dI cI cZ cJ a th n mw nf sg fo L le sc li ba ca wa t hI ht S hr hlk hK _ 0 0 ca (Nat.lt_succ_self _) (by omega) rfl (by omega) (fun k hk => absurd hk (Nat.not_lt_zero k)) hca _ _ hP hD hS ls (lv_sub hl [1, 2, 0] rfl)
    · exact absurd h16 (by decide)
  · exact absurd h5 (by decide)

set_option maxRecDepth 100000 in
set_option maxHeartbeats 1000000 in
theorem kX1_candidateF (l : Launch) (dC : Nat → ClassId) (dI : Nat → Nat → Nat) (cI cZ cJ : ClassId) (a : Nat → Nat) (th n mw nf : Nat) (sg fo L le sc li ba ca : Nat → Nat) (wa : Nat → Int32) (x : Int32) (hx : x < 0 ∨ nI nf ≤ x) : wr l yX1_candidate cX1_candidate 2 (some .int) 1 21 [.ref (a 0), .int x] dC dI cI cZ cJ (vY cI cZ a th n mw nf sg fo L le sc li ba ca wa) (vY cI cZ a 1 n mw nf sg fo L le sc li ba ca wa) (some (.int (nI (0)))) := by
  refine wr_ofW RX1 (by decide) rfl (Nat.le_of_ble_eq_true rfl) ?_
  intro p e s m below meth c S hr hlk hK hP hD hS ls hl
  have hl : lv_has ls 2 [(0, .ref (a 0)), (1, .int x)] := hl
  refine lv_aload_n S.1 S.2.1 dX1_candidate_0 rfl (lv_at hl 0 rfl) ?_
  refine lv_iload_n S.1 S.2.1 dX1_candidate_1 rfl (lv_at hl 1 rfl) ?_
  refine lv_if_lt (tgt := 13) S.1 S.2.1 dX1_candidate_2 (by decide) (fun h2 => ?_) (fun h2 => ?_)
  · refine lv_iconst (v := (nI 1)) S.1 S.2.1 dX1_candidate_13 (by decide) ?_
    refine lv_goto (tgt := 18) S.1 S.2.1 dX1_candidate_14 (by decide) ?_
    refine wr_callV (C := RX1) (As := [.int (nI 1)]) (rest := []) S (kX1_fails l dC dI cI cZ cJ a th n mw nf sg fo L le sc li ba ca wa true) hK [] [] hP hD hS rfl (va_recv hK hP (ci := 1) (q0 := 0) rfl rfl) gX1_52 hdX1_fails (by decide) hl.1 rfl (Nat.le_of_ble_eq_true rfl) dX1_candidate_18 ⟨Nat.zero_le _, Nat.zero_le _⟩ (fun H locs hP hD hS => ?_)
    have hP : va_P (dC, dI) vcl (vY cI cZ a 1 n mw nf sg fo L le sc li ba ca wa) H := hP
    have hD : va_D (wF (vY cI cZ a th n mw nf sg fo L le sc li ba ca wa)) (vY cI cZ a 1 n mw nf sg fo L le sc li ba ca wa) := hD
    refine n_bif_eq (b := true) (tgt := 28) S dX1_candidate_21 (by decide) (fun h21 => ?_) (fun h21 => ?_)
    · exact absurd h21 (by decide)
    · refine lv_iconst (v := (nI 0)) S.1 S.2.1 dX1_candidate_24 (by decide) ?_
      refine lv_goto (tgt := 34) S.1 S.2.1 dX1_candidate_25 (by decide) ?_
      exact wr_ret S hr hlk (rfl) (rfl) hP (rfl) hS dX1_candidate_34
  · refine lv_iload_n S.1 S.2.1 dX1_candidate_5 rfl (lv_at hl 1 rfl) ?_
    refine lv_aload_n S.1 S.2.1 dX1_candidate_6 rfl (lv_at hl 0 rfl) ?_
    refine fX1_found (v := .int (nI nf)) S hK hP rfl rfl dX1_candidate_7 ?_
    refine lv_icmp_lt (tgt := 17) S.1 S.2.1 dX1_candidate_10 (by decide) (fun h10 => ?_) (fun h10 => ?_)
    · exact absurd hx (fun q => q.elim h2 (fun q => absurd h10 (Int32.not_lt.mpr q)))
    · refine lv_iconst (v := (nI 1)) S.1 S.2.1 dX1_candidate_13 (by decide) ?_
      refine lv_goto (tgt := 18) S.1 S.2.1 dX1_candidate_14 (by decide) ?_
      refine wr_callV (C := RX1) (As := [.int (nI 1)]) (rest := []) S (kX1_fails l dC dI cI cZ cJ a th n mw nf sg fo L le sc li ba ca wa true) hK [] [] hP hD hS rfl (va_recv hK hP (ci := 1) (q0 := 0) rfl rfl) gX1_52 hdX1_fails (by decide) hl.1 rfl (Nat.le_of_ble_eq_true rfl) dX1_candidate_18 ⟨Nat.zero_le _, Nat.zero_le _⟩ (fun H locs hP hD hS => ?_)
      have hP : va_P (dC, dI) vcl (vY cI cZ a 1 n mw nf sg fo L le sc li ba ca wa) H := hP
      have hD : va_D (wF (vY cI cZ a th n mw nf sg fo L le sc li ba ca wa)) (vY cI cZ a 1 n mw nf sg fo L le sc li ba ca wa) := hD
      refine n_bif_eq (b := true) (tgt := 28) S dX1_candidate_21 (by decide) (fun h21 => ?_) (fun h21 => ?_)
      · exact absurd h21 (by decide)
      · refine lv_iconst (v := (nI 0)) S.1 S.2.1 dX1_candidate_24 (by decide) ?_
        refine lv_goto (tgt := 34) S.1 S.2.1 dX1_candidate_25 (by decide) ?_
        exact wr_ret S hr hlk (rfl) (rfl) hP (rfl) hS dX1_candidate_34

set_option maxRecDepth 100000 in
set_option maxHeartbeats 1000000 in
theorem kX1_candidate (l : Launch) (dC : Nat → ClassId) (dI : Nat → Nat → Nat) (cI cZ cJ : ClassId) (a : Nat → Nat) (th n mw nf : Nat) (sg fo L le sc li ba ca : Nat → Nat) (wa : Nat → Int32) (k : Nat) (hI : iv n mw nf sg fo L le sc li ba ca) (hk : k < nf) : wr l yX1_candidate cX1_candidate 2 (some .int) 1 21 [.ref (a 0), .int (nI k)] dC dI cI cZ cJ (vY cI cZ a th n mw nf sg fo L le sc li ba ca wa) (vY cI cZ a 0 n mw nf sg fo L le sc li ba ca wa) (some (.int (nI (ca k)))) := by
  refine wr_ofW RX1 (by decide) rfl (Nat.le_of_ble_eq_true rfl) ?_
  intro p e s m below meth c S hr hlk hK hP hD hS ls hl
  have hl : lv_has ls 2 [(0, .ref (a 0)), (1, .int (nI k))] := hl
  obtain ⟨⟨hn, hm, hf⟩, ⟨hsg, hfo, hL, hle, hsc, hli, hba, hca⟩, hv1, hv2, hv3, hv4, hv5, hv6, hv7⟩ := id hI
  refine lv_aload_n S.1 S.2.1 dX1_candidate_0 rfl (lv_at hl 0 rfl) ?_
  refine lv_iload_n S.1 S.2.1 dX1_candidate_1 rfl (lv_at hl 1 rfl) ?_
  refine n_if_lt (x := k) (tgt := 13) S dX1_candidate_2 (by decide) (by omega) ?_
  refine lv_iload_n S.1 S.2.1 dX1_candidate_5 rfl (lv_at hl 1 rfl) ?_
  refine lv_aload_n S.1 S.2.1 dX1_candidate_6 rfl (lv_at hl 0 rfl) ?_
  refine fX1_found (v := .int (nI nf)) S hK hP rfl rfl dX1_candidate_7 ?_
  refine n_icmp_lt (x := k) (y := nf) (tgt := 17) S dX1_candidate_10 (by decide) (by omega) (by omega) (fun h10 => ?_) (fun h10 => ?_)
  · refine lv_iconst (v := (nI 0)) S.1 S.2.1 dX1_candidate_17 (by decide) ?_
    refine wr_callV (C := RX1) (As := [.int (nI 0)]) (rest := []) S (kX1_fails l dC dI cI cZ cJ a th n mw nf sg fo L le sc li ba ca wa false) hK [] [] hP hD hS rfl (va_recv hK hP (ci := 1) (q0 := 0) rfl rfl) gX1_52 hdX1_fails (by decide) hl.1 rfl (Nat.le_of_ble_eq_true rfl) dX1_candidate_18 ⟨Nat.zero_le _, Nat.zero_le _⟩ (fun H locs hP hD hS => ?_)
    have hP : va_P (dC, dI) vcl (vY cI cZ a 0 n mw nf sg fo L le sc li ba ca wa) H := hP
    have hD : va_D (wF (vY cI cZ a th n mw nf sg fo L le sc li ba ca wa)) (vY cI cZ a 0 n mw nf sg fo L le sc li ba ca wa) := hD
    refine n_bif_eq (b := false) (tgt := 28) S dX1_candidate_21 (by decide) (fun h21 => ?_) (fun h21 => ?_)
    · refine lv_aload_n S.1 S.2.1 dX1_candidate_28 rfl (lv_at hl 0 rfl) ?_
      refine fX1_candidates (v := .ref (a 8)) S hK hP rfl rfl dX1_candidate_29 ?_
      refine lv_iload_n S.1 S.2.1 dX1_candidate_32 rfl (lv_at hl 1 rfl) ?_
      refine n_iald S hK hP 8 0 rfl rfl dX1_candidate_33 (j := k) (by decide) (by omega) ?_
      have b33 := hca k
      exact wr_ret S hr hlk (rfl) (rfl) hP (rfl) hS dX1_candidate_34
    · exact absurd h21 (by decide)
  · exact absurd hk (by omega)

set_option maxRecDepth 100000 in
set_option maxHeartbeats 1000000 in
theorem kX1_atF (l : Launch) (dC : Nat → ClassId) (dI : Nat → Nat → Nat) (cI cZ cJ : ClassId) (a : Nat → Nat) (th n mw nf : Nat) (sg fo L le sc li ba ca : Nat → Nat) (wa : Nat → Int32) (x : Int32) (u : Int32) (hu : isL u = false) : wr l yX1_at cX1_at 5 (some .int) 1 21 [.ref (a 0), .int x, .int u] dC dI cI cZ cJ (vY cI cZ a th n mw nf sg fo L le sc li ba ca wa) (vY cI cZ a 1 n mw nf sg fo L le sc li ba ca wa) (some (.int (nI (0)))) := by
  refine wr_ofW RX1 (by decide) rfl (Nat.le_of_ble_eq_true rfl) ?_
  intro p e s m below meth c S hr hlk hK hP hD hS ls hl
  have hl : lv_has ls 5 [(0, .ref (a 0)), (1, .int x), (2, .int u)] := hl
  refine lv_aload_n S.1 S.2.1 dX1_at_0 rfl (lv_at hl 0 rfl) ?_
  refine lv_iload_n S.1 S.2.1 dX1_at_1 rfl (lv_at hl 2 rfl) ?_
  refine rd_callS (As := [.int u]) (rest := [.ref (a 0)]) S (kX1_isLetter l u) tr_blind (fun _ _ _ => trivial) gX1_45 hdX1_isLetter (by decide) hl.1 rfl (Nat.le_of_ble_eq_true rfl) dX1_at_2 ⟨Nat.zero_le _, Nat.zero_le _⟩ ?_
  rw [hu]
  refine n_bif_ne (b := false) (tgt := 12) S dX1_at_5 (by decide) (fun h5 => ?_) (fun h5 => ?_)
  · exact absurd h5 (by decide)
  · refine lv_iconst (v := (nI 1)) S.1 S.2.1 dX1_at_8 (by decide) ?_
    refine lv_goto (tgt := 13) S.1 S.2.1 dX1_at_9 (by decide) ?_
    refine wr_callV (C := RX1) (As := [.int (nI 1)]) (rest := []) S (kX1_fails l dC dI cI cZ cJ a th n mw nf sg fo L le sc li ba ca wa true) hK [] [] hP hD hS rfl (va_recv hK hP (ci := 1) (q0 := 0) rfl rfl) gX1_52 hdX1_fails (by decide) hl.1 rfl (Nat.le_of_ble_eq_true rfl) dX1_at_13 ⟨Nat.zero_le _, Nat.zero_le _⟩ (fun H locs hP hD hS => ?_)
    have hP : va_P (dC, dI) vcl (vY cI cZ a 1 n mw nf sg fo L le sc li ba ca wa) H := hP
    have hD : va_D (wF (vY cI cZ a th n mw nf sg fo L le sc li ba ca wa)) (vY cI cZ a 1 n mw nf sg fo L le sc li ba ca wa) := hD
    refine n_bif_eq (b := true) (tgt := 21) S dX1_at_16 (by decide) (fun h16 => ?_) (fun h16 => ?_)
    · exact absurd h16 (by decide)
    · refine lv_iconst (v := (nI 0)) S.1 S.2.1 dX1_at_19 (by decide) ?_
      exact wr_ret S hr hlk (rfl) (rfl) hP (rfl) hS dX1_at_20

set_option maxRecDepth 100000 in
set_option maxHeartbeats 1000000 in
theorem lX1_at_26 (l : Launch) (dC : Nat → ClassId) (dI : Nat → Nat → Nat) (cI cZ cJ : ClassId) (a : Nat → Nat) (th n mw nf : Nat) (sg fo L le sc li ba ca : Nat → Nat) (wa : Nat → Int32) (x : Int32) (y : Nat) (hI : iv n mw nf sg fo L le sc li ba ca) (hy : 97 ≤ y ∧ y ≤ 122)  {p : Program} {e : Env} {s : State} {m : MethodId} {below : List Frame} {meth : Method} {c : Code} (S : CallFix p m c cX1_at 5 s ([.ref (a 0), .int x, .int (nI y)] : List Value).toArray tbG RX1) (hr : meth.sig.returnType = (some .int)) (hlk : meth.locks = false) (hK : va_K (dC, dI) vcl (vty cI cZ cJ) s) :
    ∀ (fuel : Nat) (i : Nat) (k : Nat), nf - i < fuel → i ≤ nf → k = cnt (atP L le ca x y) i → ∀ (H : Heap) (locs : List Loc), va_P (dC, dI) vcl (vY cI cZ a 0 n mw nf sg fo L le sc li ba ca wa) H → va_D (wF (vY cI cZ a th n mw nf sg fo L le sc li ba ca wa)) (vY cI cZ a 0 n mw nf sg fo L le sc li ba ca wa) → va_S (wF (vY cI cZ a th n mw nf sg fo L le sc li ba ca wa)) s.heap H locs → ∀ ls : Array Slot, lv_has ls 5 [(0, .ref (a 0)), (1, .int x), (2, .int (nI y)), (3, .int (nI k)), (4, .int (nI i))] → W p l e ({ frames := 1, cells := 0, slots := 0, locals := 22 } : Room) s m ([.ref (a 0), .int x, .int (nI y)] : List Value).toArray below meth c H locs 0 0 (MQ below (Qw dC dI (vY cI cZ a th n mw nf sg fo L le sc li ba ca wa) (vY cI cZ a 0 n mw nf sg fo L le sc li ba ca wa) (some (.int (nI (cnt (atP L le ca x y) nf))))) ([.ref (a 0), .int x, .int (nI y)] : List Value).toArray s 0 0 (wF (vY cI cZ a th n mw nf sg fo L le sc li ba ca wa))) (F0 m 26 ls []) := by
  obtain ⟨⟨hn, hm, hf⟩, ⟨hsg, hfo, hL, hle, hsc, hli, hba, hca⟩, hv1, hv2, hv3, hv4, hv5, hv6, hv7⟩ := id hI
  intro fuel
  induction fuel with
  | zero =>
    intro i k hq
    exact absurd hq (Nat.not_lt_zero _)
  | succ fuel ih =>
    intro i k hq hi hk H locs hP hD hS ls hl
    have hki := cnt_le (atP L le ca x y) i
    have hlc := hle (ca i)
    refine lv_iload S.1 S.2.1 dX1_at_26 (lv_at hl 4 rfl) ?_
    refine lv_aload_n S.1 S.2.1 dX1_at_28 rfl (lv_at hl 0 rfl) ?_
    refine fX1_found (v := .int (nI nf)) S hK hP rfl rfl dX1_at_29 ?_
    refine n_icmp_ge (x := i) (y := nf) (tgt := 85) S dX1_at_32 (by decide) (by omega) (by omega) (fun h32 => ?_) (fun h32 => ?_)
    · refine lv_iload_n S.1 S.2.1 dX1_at_85 rfl (lv_at hl 3 rfl) ?_
      exact wr_ret S hr hlk (rfl) (by rw [hk, show i = nf by omega]) hP (rfl) hS dX1_at_86
    · refine lv_iload_n S.1 S.2.1 dX1_at_35 rfl (lv_at hl 3 rfl) ?_
      refine lv_iload_n S.1 S.2.1 dX1_at_36 rfl (lv_at hl 1 rfl) ?_
      refine lv_if_lt (tgt := 76) S.1 S.2.1 dX1_at_37 (by decide) (fun h37 => ?_) (fun h37 => ?_)
      · refine lv_iconst (v := (nI 0)) S.1 S.2.1 dX1_at_76 (by decide) ?_
        refine n_iadd (x := k) (y := 0) S dX1_at_77 ?_
        refine lv_istore_n (lv' := [(3, .int (nI (k + 0))), (0, .ref (a 0)), (1, .int x), (2, .int (nI y)), (4, .int (nI i))]) S.1 S.2.1 dX1_at_78 rfl hl (by decide) rfl (fun ls hl => ?_)
        refine n_iinc (lv' := [(4, .int (nI (i + 1))), (3, .int (nI (k + 0))), (0, .ref (a 0)), (1, .int x), (2, .int (nI y))]) (x := i) (k := 4) S dX1_at_79 hl rfl (by decide) rfl (fun ls hl => ?_)
        refine lv_goto (tgt := 26) S.1 S.2.1 dX1_at_82 (by decide) ?_
        exact ih (i + 1) (k + 0) (by omega) (by omega) (by rw [cnt, ← hk, atP]; first | (rw [lon_in h53 (hle _), decide_eq_true (by rw [h69])] <;> rfl) | (rw [lon_in h53 (hle _), decide_eq_false (n_ne h69 (by omega) (by omega))] <;> rfl) | (rw [lon, if_pos (Or.inr h53), decide_eq_false (fun q => nI_m1 (by omega) q.symm)] <;> rfl) | (rw [lon, if_pos (Or.inl h37), decide_eq_false (fun q => nI_m1 (by omega) q.symm)] <;> rfl)) _ _ hP hD hS ls (lv_sub hl [2, 3, 4, 1, 0] rfl)
      · refine lv_iload_n S.1 S.2.1 dX1_at_40 rfl (lv_at hl 1 rfl) ?_
        refine lv_aload_n S.1 S.2.1 dX1_at_41 rfl (lv_at hl 0 rfl) ?_
        refine fX1_lengths (v := .ref (a 4)) S hK hP rfl rfl dX1_at_42 ?_
        refine lv_aload_n S.1 S.2.1 dX1_at_45 rfl (lv_at hl 0 rfl) ?_
        refine fX1_candidates (v := .ref (a 8)) S hK hP rfl rfl dX1_at_46 ?_
        refine lv_iload S.1 S.2.1 dX1_at_49 (lv_at hl 4 rfl) ?_
        refine n_iald S hK hP 8 0 rfl rfl dX1_at_51 (j := i) (by decide) (by omega) ?_
        have b51 := hca i
        refine n_iald S hK hP 4 0 rfl rfl dX1_at_52 (j := ca i) (by decide) (hca i) ?_
        have b52 := hle (ca i)
        refine lv_icmp_ge (tgt := 76) S.1 S.2.1 dX1_at_53 (by decide) (fun h53 => ?_) (fun h53 => ?_)
        · refine lv_iconst (v := (nI 0)) S.1 S.2.1 dX1_at_76 (by decide) ?_
          refine n_iadd (x := k) (y := 0) S dX1_at_77 ?_
          refine lv_istore_n (lv' := [(3, .int (nI (k + 0))), (0, .ref (a 0)), (1, .int x), (2, .int (nI y)), (4, .int (nI i))]) S.1 S.2.1 dX1_at_78 rfl hl (by decide) rfl (fun ls hl => ?_)
          refine n_iinc (lv' := [(4, .int (nI (i + 1))), (3, .int (nI (k + 0))), (0, .ref (a 0)), (1, .int x), (2, .int (nI y))]) (x := i) (k := 4) S dX1_at_79 hl rfl (by decide) rfl (fun ls hl => ?_)
          refine lv_goto (tgt := 26) S.1 S.2.1 dX1_at_82 (by decide) ?_
          exact ih (i + 1) (k + 0) (by omega) (by omega) (by rw [cnt, ← hk, atP]; first | (rw [lon_in h53 (hle _), decide_eq_true (by rw [h69])] <;> rfl) | (rw [lon_in h53 (hle _), decide_eq_false (n_ne h69 (by omega) (by omega))] <;> rfl) | (rw [lon, if_pos (Or.inr h53), decide_eq_false (fun q => nI_m1 (by omega) q.symm)] <;> rfl) | (rw [lon, if_pos (Or.inl h37), decide_eq_false (fun q => nI_m1 (by omega) q.symm)] <;> rfl)) _ _ hP hD hS ls (lv_sub hl [2, 3, 4, 1, 0] rfl)
        · obtain ⟨j, hj, rfl⟩ := nI_of h37
          have h53 : j < le (ca i) := (nI_ltI hj (by omega)).mp (Int32.not_le.mp h53)
          refine lv_aload_n S.1 S.2.1 dX1_at_56 rfl (lv_at hl 0 rfl) ?_
          refine lv_aload_n S.1 S.2.1 dX1_at_57 rfl (lv_at hl 0 rfl) ?_
          refine fX1_candidates (v := .ref (a 8)) S hK hP rfl rfl dX1_at_58 ?_
          refine lv_iload S.1 S.2.1 dX1_at_61 (lv_at hl 4 rfl) ?_
          refine n_iald S hK hP 8 0 rfl rfl dX1_at_63 (j := i) (by decide) (by omega) ?_
          have b63 := hca i
          refine lv_iload_n S.1 S.2.1 dX1_at_64 rfl (lv_at hl 1 rfl) ?_
          refine rd_callV (C := RX1) (As := [.int (nI (ca i)), .int (nI j)]) (rest := [.int (nI k)]) S (kX1_letterAt l dC dI cI cZ cJ a 0 n mw nf sg fo L le sc li ba ca wa (ca i) j hI (hca i) (by omega)) rB_blind (fun U hU hW => ⟨by rw [hU]; exact hP, va_K.moved hW.alike hK⟩) (va_recv hK hP (ci := 1) (q0 := 0) rfl rfl) gX1_60 hdX1_letterAt (by decide) hl.1 rfl (Nat.le_of_ble_eq_true rfl) dX1_at_65 ⟨Nat.zero_le _, Nat.zero_le _⟩ ?_
          have b65 := hL (15 * ca i + j)
          refine lv_iload_n S.1 S.2.1 dX1_at_68 rfl (lv_at hl 2 rfl) ?_
          refine n_icmp_ne (x := L (15 * (ca i) + j)) (y := y) (tgt := 76) S dX1_at_69 (by decide) (by omega) (by omega) (fun h69 => ?_) (fun h69 => ?_)
          · refine lv_iconst (v := (nI 0)) S.1 S.2.1 dX1_at_76 (by decide) ?_
            refine n_iadd (x := k) (y := 0) S dX1_at_77 ?_
            refine lv_istore_n (lv' := [(3, .int (nI (k + 0))), (0, .ref (a 0)), (1, .int (nI j)), (2, .int (nI y)), (4, .int (nI i))]) S.1 S.2.1 dX1_at_78 rfl hl (by decide) rfl (fun ls hl => ?_)
            refine n_iinc (lv' := [(4, .int (nI (i + 1))), (3, .int (nI (k + 0))), (0, .ref (a 0)), (1, .int (nI j)), (2, .int (nI y))]) (x := i) (k := 4) S dX1_at_79 hl rfl (by decide) rfl (fun ls hl => ?_)
            refine lv_goto (tgt := 26) S.1 S.2.1 dX1_at_82 (by decide) ?_
            exact ih (i + 1) (k + 0) (by omega) (by omega) (by rw [cnt, ← hk, atP]; first | (rw [lon_in h53 (hle _), decide_eq_true (by rw [h69])] <;> rfl) | (rw [lon_in h53 (hle _), decide_eq_false (n_ne h69 (by omega) (by omega))] <;> rfl) | (rw [lon, if_pos (Or.inr h53), decide_eq_false (fun q => nI_m1 (by omega) q.symm)] <;> rfl) | (rw [lon, if_pos (Or.inl h37), decide_eq_false (fun q => nI_m1 (by omega) q.symm)] <;> rfl)) _ _ hP hD hS ls (lv_sub hl [2, 3, 4, 1, 0] rfl)
          · refine lv_iconst (v := (nI 1)) S.1 S.2.1 dX1_at_72 (by decide) ?_
            refine lv_goto (tgt := 77) S.1 S.2.1 dX1_at_73 (by decide) ?_
            refine n_iadd (x := k) (y := 1) S dX1_at_77 ?_
            refine lv_istore_n (lv' := [(3, .int (nI (k + 1))), (0, .ref (a 0)), (1, .int (nI j)), (2, .int (nI y)), (4, .int (nI i))]) S.1 S.2.1 dX1_at_78 rfl hl (by decide) rfl (fun ls hl => ?_)
            refine n_iinc (lv' := [(4, .int (nI (i + 1))), (3, .int (nI (k + 1))), (0, .ref (a 0)), (1, .int (nI j)), (2, .int (nI y))]) (x := i) (k := 4) S dX1_at_79 hl rfl (by decide) rfl (fun ls hl => ?_)
            refine lv_goto (tgt := 26) S.1 S.2.1 dX1_at_82 (by decide) ?_
            exact ih (i + 1) (k + 1) (by omega) (by omega) (by rw [cnt, ← hk, atP]; first | (rw [lon_in h53 (hle _), decide_eq_true (by rw [h69])] <;> rfl) | (rw [lon_in h53 (hle _), decide_eq_false (n_ne h69 (by omega) (by omega))] <;> rfl) | (rw [lon, if_pos (Or.inr h53), decide_eq_false (fun q => nI_m1 (by omega) q.symm)] <;> rfl) | (rw [lon, if_pos (Or.inl h37), decide_eq_false (fun q => nI_m1 (by omega) q.symm)] <;> rfl)) _ _ hP hD hS ls (lv_sub hl [2, 3, 4, 1, 0] rfl)
set_option maxRecDepth 100000 in
set_option maxHeartbeats 1000000 in
theorem kX1_at (l : Launch) (dC : Nat → ClassId) (dI : Nat → Nat → Nat) (cI cZ cJ : ClassId) (a : Nat → Nat) (th n mw nf : Nat) (sg fo L le sc li ba ca : Nat → Nat) (wa : Nat → Int32) (x : Int32) (y : Nat) (hI : iv n mw nf sg fo L le sc li ba ca) (hy : 97 ≤ y ∧ y ≤ 122) : wr l yX1_at cX1_at 5 (some .int) 1 22 [.ref (a 0), .int x, .int (nI y)] dC dI cI cZ cJ (vY cI cZ a th n mw nf sg fo L le sc li ba ca wa) (vY cI cZ a 0 n mw nf sg fo L le sc li ba ca wa) (some (.int (nI (cnt (atP L le ca x y) nf)))) := by
  refine wr_ofW RX1 (by decide) rfl (Nat.le_of_ble_eq_true rfl) ?_
  intro p e s m below meth c S hr hlk hK hP hD hS ls hl
  have hl : lv_has ls 5 [(0, .ref (a 0)), (1, .int x), (2, .int (nI y))] := hl
  obtain ⟨⟨hn, hm, hf⟩, ⟨hsg, hfo, hL, hle, hsc, hli, hba, hca⟩, hv1, hv2, hv3, hv4, hv5, hv6, hv7⟩ := id hI
  refine lv_aload_n S.1 S.2.1 dX1_at_0 rfl (lv_at hl 0 rfl) ?_
  refine lv_iload_n S.1 S.2.1 dX1_at_1 rfl (lv_at hl 2 rfl) ?_
  refine rd_callS (As := [.int (nI y)]) (rest := [.ref (a 0)]) S (kX1_isLetter l ((nI y))) tr_blind (fun _ _ _ => trivial) gX1_45 hdX1_isLetter (by decide) hl.1 rfl (Nat.le_of_ble_eq_true rfl) dX1_at_2 ⟨Nat.zero_le _, Nat.zero_le _⟩ ?_
  rw [isL_i hy]
  refine n_bif_ne (b := true) (tgt := 12) S dX1_at_5 (by decide) (fun h5 => ?_) (fun h5 => ?_)
  · refine lv_iconst (v := (nI 0)) S.1 S.2.1 dX1_at_12 (by decide) ?_
    refine wr_callV (C := RX1) (As := [.int (nI 0)]) (rest := []) S (kX1_fails l dC dI cI cZ cJ a th n mw nf sg fo L le sc li ba ca wa false) hK [] [] hP hD hS rfl (va_recv hK hP (ci := 1) (q0 := 0) rfl rfl) gX1_52 hdX1_fails (by decide) hl.1 rfl (Nat.le_of_ble_eq_true rfl) dX1_at_13 ⟨Nat.zero_le _, Nat.zero_le _⟩ (fun H locs hP hD hS => ?_)
    have hP : va_P (dC, dI) vcl (vY cI cZ a 0 n mw nf sg fo L le sc li ba ca wa) H := hP
    have hD : va_D (wF (vY cI cZ a th n mw nf sg fo L le sc li ba ca wa)) (vY cI cZ a 0 n mw nf sg fo L le sc li ba ca wa) := hD
    refine n_bif_eq (b := false) (tgt := 21) S dX1_at_16 (by decide) (fun h16 => ?_) (fun h16 => ?_)
    · refine lv_iconst (v := (nI 0)) S.1 S.2.1 dX1_at_21 (by decide) ?_
      refine lv_istore_n (lv' := [(3, .int (nI 0)), (0, .ref (a 0)), (1, .int x), (2, .int (nI y))]) S.1 S.2.1 dX1_at_22 rfl hl (by decide) rfl (fun ls hl => ?_)
      refine lv_iconst (v := (nI 0)) S.1 S.2.1 dX1_at_23 (by decide) ?_
      refine lv_istore (lv' := [(4, .int (nI 0)), (3, .int (nI 0)), (0, .ref (a 0)), (1, .int x), (2, .int (nI y))]) S.1 S.2.1 dX1_at_24 hl (by decide) rfl (fun ls hl => ?_)
      exact lX1_at_26 l dC dI cI cZ cJ a th n mw nf sg fo L le sc li ba ca wa x y hI hy S hr hlk hK _ 0 0 (Nat.lt_succ_self _) (by omega) rfl _ _ hP hD hS ls (lv_sub hl [2, 3, 4, 1, 0] rfl)
    · exact absurd h16 (by decide)
  · exact absurd h5 (by decide)

set_option maxRecDepth 100000 in
set_option maxHeartbeats 1000000 in
theorem kX1_countF (l : Launch) (dC : Nat → ClassId) (dI : Nat → Nat → Nat) (cI cZ cJ : ClassId) (a : Nat → Nat) (th n mw nf : Nat) (sg fo L le sc li ba ca : Nat → Nat) (wa : Nat → Int32) (u : Int32) (o : Bool) (hu : isLi u = false) : wr l yX1_count cX1_count 5 (some .int) 1 21 [.ref (a 0), .int u, .int (nI o.toNat)] dC dI cI cZ cJ (vY cI cZ a th n mw nf sg fo L le sc li ba ca wa) (vY cI cZ a 1 n mw nf sg fo L le sc li ba ca wa) (some (.int (nI (0)))) := by
  refine wr_ofW RX1 (by decide) rfl (Nat.le_of_ble_eq_true rfl) ?_
  intro p e s m below meth c S hr hlk hK hP hD hS ls hl
  have hl : lv_has ls 5 [(0, .ref (a 0)), (1, .int u), (2, .int (nI (o).toNat))] := hl
  refine lv_aload_n S.1 S.2.1 dX1_count_0 rfl (lv_at hl 0 rfl) ?_
  refine lv_iload_n S.1 S.2.1 dX1_count_1 rfl (lv_at hl 1 rfl) ?_
  refine rd_callS (As := [.int u]) (rest := [.ref (a 0)]) S (kX1_isList l u) tr_blind (fun _ _ _ => trivial) gX1_68 hdX1_isList (by decide) hl.1 rfl (Nat.le_of_ble_eq_true rfl) dX1_count_2 ⟨Nat.zero_le _, Nat.zero_le _⟩ ?_
  rw [hu]
  refine n_bif_ne (b := false) (tgt := 12) S dX1_count_5 (by decide) (fun h5 => ?_) (fun h5 => ?_)
  · exact absurd h5 (by decide)
  · refine lv_iconst (v := (nI 1)) S.1 S.2.1 dX1_count_8 (by decide) ?_
    refine lv_goto (tgt := 13) S.1 S.2.1 dX1_count_9 (by decide) ?_
    refine wr_callV (C := RX1) (As := [.int (nI 1)]) (rest := []) S (kX1_fails l dC dI cI cZ cJ a th n mw nf sg fo L le sc li ba ca wa true) hK [] [] hP hD hS rfl (va_recv hK hP (ci := 1) (q0 := 0) rfl rfl) gX1_52 hdX1_fails (by decide) hl.1 rfl (Nat.le_of_ble_eq_true rfl) dX1_count_13 ⟨Nat.zero_le _, Nat.zero_le _⟩ (fun H locs hP hD hS => ?_)
    have hP : va_P (dC, dI) vcl (vY cI cZ a 1 n mw nf sg fo L le sc li ba ca wa) H := hP
    have hD : va_D (wF (vY cI cZ a th n mw nf sg fo L le sc li ba ca wa)) (vY cI cZ a 1 n mw nf sg fo L le sc li ba ca wa) := hD
    refine n_bif_eq (b := true) (tgt := 21) S dX1_count_16 (by decide) (fun h16 => ?_) (fun h16 => ?_)
    · exact absurd h16 (by decide)
    · refine lv_iconst (v := (nI 0)) S.1 S.2.1 dX1_count_19 (by decide) ?_
      exact wr_ret S hr hlk (rfl) (rfl) hP (rfl) hS dX1_count_20

set_option maxRecDepth 100000 in
set_option maxHeartbeats 1000000 in
theorem lX1_count_26 (l : Launch) (dC : Nat → ClassId) (dI : Nat → Nat → Nat) (cI cZ cJ : ClassId) (a : Nat → Nat) (th n mw nf : Nat) (sg fo L le sc li ba ca : Nat → Nat) (wa : Nat → Int32) (t : Nat) (o : Bool) (hI : iv n mw nf sg fo L le sc li ba ca) (ht : t < 4)  {p : Program} {e : Env} {s : State} {m : MethodId} {below : List Frame} {meth : Method} {c : Code} (S : CallFix p m c cX1_count 5 s ([.ref (a 0), .int (nI t), .int (nI o.toNat)] : List Value).toArray tbG RX1) (hr : meth.sig.returnType = (some .int)) (hlk : meth.locks = false) (hK : va_K (dC, dI) vcl (vty cI cZ cJ) s) :
    ∀ (fuel : Nat) (i : Nat) (k : Nat), mw - i < fuel → i ≤ mw → k = cnt (cbe n sg fo L le li ba t o) i → ∀ (H : Heap) (locs : List Loc), va_P (dC, dI) vcl (vY cI cZ a 0 n mw nf sg fo L le sc li ba ca wa) H → va_D (wF (vY cI cZ a th n mw nf sg fo L le sc li ba ca wa)) (vY cI cZ a 0 n mw nf sg fo L le sc li ba ca wa) → va_S (wF (vY cI cZ a th n mw nf sg fo L le sc li ba ca wa)) s.heap H locs → ∀ ls : Array Slot, lv_has ls 5 [(0, .ref (a 0)), (1, .int (nI t)), (2, .int (nI (o).toNat)), (3, .int (nI k)), (4, .int (nI i))] → W p l e ({ frames := 2, cells := 0, slots := 0, locals := 45 } : Room) s m ([.ref (a 0), .int (nI t), .int (nI o.toNat)] : List Value).toArray below meth c H locs 0 0 (MQ below (Qw dC dI (vY cI cZ a th n mw nf sg fo L le sc li ba ca wa) (vY cI cZ a 0 n mw nf sg fo L le sc li ba ca wa) (some (.int (nI (cnt (cbe n sg fo L le li ba t o) mw))))) ([.ref (a 0), .int (nI t), .int (nI o.toNat)] : List Value).toArray s 0 0 (wF (vY cI cZ a th n mw nf sg fo L le sc li ba ca wa))) (F0 m 26 ls []) := by
  obtain ⟨⟨hn, hm, hf⟩, ⟨hsg, hfo, hL, hle, hsc, hli, hba, hca⟩, hv1, hv2, hv3, hv4, hv5, hv6, hv7⟩ := id hI
  intro fuel
  induction fuel with
  | zero =>
    intro i k hq
    exact absurd hq (Nat.not_lt_zero _)
  | succ fuel ih =>
    intro i k hq hi hk H locs hP hD hS ls hl
    have hki := cnt_le (cbe n sg fo L le li ba t o) i
    have hlei := hle i
    refine lv_iload S.1 S.2.1 dX1_count_26 (lv_at hl 4 rfl) ?_
    refine lv_aload_n S.1 S.2.1 dX1_count_28 rfl (lv_at hl 0 rfl) ?_
    refine fX1_many (v := .int (nI mw)) S hK hP rfl rfl dX1_count_29 ?_
    refine n_icmp_ge (x := i) (y := mw) (tgt := 112) S dX1_count_32 (by decide) (by omega) (by omega) (fun h32 => ?_) (fun h32 => ?_)
    · refine lv_iload_n S.1 S.2.1 dX1_count_112 rfl (lv_at hl 3 rfl) ?_
      exact wr_ret S hr hlk (rfl) (by rw [hk, show i = mw by omega]) hP (rfl) hS dX1_count_113
    · refine lv_iload_n S.1 S.2.1 dX1_count_35 rfl (lv_at hl 3 rfl) ?_
      refine lv_aload_n S.1 S.2.1 dX1_count_36 rfl (lv_at hl 0 rfl) ?_
      refine lv_iload S.1 S.2.1 dX1_count_37 (lv_at hl 4 rfl) ?_
      refine lv_iload_n S.1 S.2.1 dX1_count_39 rfl (lv_at hl 1 rfl) ?_
      refine rd_callV (C := RX1) (As := [.int (nI i), .int (nI t)]) (rest := [.int (nI k)]) S (kX1_isIn l dC dI cI cZ cJ a 0 n mw nf sg fo L le sc li ba ca wa i t hI (by omega) ht) rB_blind (fun U hU hW => ⟨by rw [hU]; exact hP, va_K.moved hW.alike hK⟩) (va_recv hK hP (ci := 1) (q0 := 0) rfl rfl) gX1_78 hdX1_isIn (by decide) hl.1 rfl (Nat.le_of_ble_eq_true rfl) dX1_count_40 ⟨Nat.zero_le _, Nat.zero_le _⟩ ?_
      refine n_bif_eq (b := inl li i t) (tgt := 103) S dX1_count_43 (by decide) (fun h43 => ?_) (fun h43 => ?_)
      · refine lv_iconst (v := (nI 0)) S.1 S.2.1 dX1_count_103 (by decide) ?_
        refine n_iadd (x := k) (y := 0) S dX1_count_104 ?_
        refine lv_istore_n (lv' := [(3, .int (nI (k + 0))), (0, .ref (a 0)), (1, .int (nI t)), (2, .int (nI (o).toNat)), (4, .int (nI i))]) S.1 S.2.1 dX1_count_105 rfl hl (by decide) rfl (fun ls hl => ?_)
        refine n_iinc (lv' := [(4, .int (nI (i + 1))), (3, .int (nI (k + 0))), (0, .ref (a 0)), (1, .int (nI t)), (2, .int (nI (o).toNat))]) (x := i) (k := 4) S dX1_count_106 hl rfl (by decide) rfl (fun ls hl => ?_)
        refine lv_goto (tgt := 26) S.1 S.2.1 dX1_count_109 (by decide) ?_
        exact ih (i + 1) (k + 0) (by omega) (by omega) (by rw [cnt, ← hk, cbe]; first | (rw [fre, h43, decide_eq_true h53, decide_eq_true h67, h74, h96] <;> rfl) | (rw [fre, h43, decide_eq_true h53, decide_eq_true h67, h74]; simp only [if_true, if_false, Bool.true_and, Bool.false_eq_true]; rw [h96] <;> rfl) | (rw [fre, h43, decide_eq_true h53, decide_eq_false (by omega)] <;> rfl) | (rw [fre, h43, decide_eq_false h53] <;> rfl) | (rw [fre, h43] <;> rfl)) _ _ hP hD hS ls (lv_sub hl [2, 3, 4, 1, 0] rfl)
      · refine lv_aload_n S.1 S.2.1 dX1_count_46 rfl (lv_at hl 0 rfl) ?_
        refine fX1_barred (v := .ref (a 7)) S hK hP rfl rfl dX1_count_47 ?_
        refine lv_iload S.1 S.2.1 dX1_count_50 (lv_at hl 4 rfl) ?_
        refine n_zald S hK hP 7 1 rfl rfl dX1_count_52 (j := i) (by decide) (by omega) ?_
        have b52 := hba i
        refine n_if_ne (x := ba i) (tgt := 103) S dX1_count_53 (by decide) (by omega) (fun h53 => ?_) (fun h53 => ?_)
        · refine lv_iconst (v := (nI 0)) S.1 S.2.1 dX1_count_103 (by decide) ?_
          refine n_iadd (x := k) (y := 0) S dX1_count_104 ?_
          refine lv_istore_n (lv' := [(3, .int (nI (k + 0))), (0, .ref (a 0)), (1, .int (nI t)), (2, .int (nI (o).toNat)), (4, .int (nI i))]) S.1 S.2.1 dX1_count_105 rfl hl (by decide) rfl (fun ls hl => ?_)
          refine n_iinc (lv' := [(4, .int (nI (i + 1))), (3, .int (nI (k + 0))), (0, .ref (a 0)), (1, .int (nI t)), (2, .int (nI (o).toNat))]) (x := i) (k := 4) S dX1_count_106 hl rfl (by decide) rfl (fun ls hl => ?_)
          refine lv_goto (tgt := 26) S.1 S.2.1 dX1_count_109 (by decide) ?_
          exact ih (i + 1) (k + 0) (by omega) (by omega) (by rw [cnt, ← hk, cbe]; first | (rw [fre, h43, decide_eq_true h53, decide_eq_true h67, h74, h96] <;> rfl) | (rw [fre, h43, decide_eq_true h53, decide_eq_true h67, h74]; simp only [if_true, if_false, Bool.true_and, Bool.false_eq_true]; rw [h96] <;> rfl) | (rw [fre, h43, decide_eq_true h53, decide_eq_false (by omega)] <;> rfl) | (rw [fre, h43, decide_eq_false h53] <;> rfl) | (rw [fre, h43] <;> rfl)) _ _ hP hD hS ls (lv_sub hl [2, 3, 4, 1, 0] rfl)
        · refine lv_aload_n S.1 S.2.1 dX1_count_56 rfl (lv_at hl 0 rfl) ?_
          refine fX1_lengths (v := .ref (a 4)) S hK hP rfl rfl dX1_count_57 ?_
          refine lv_iload S.1 S.2.1 dX1_count_60 (lv_at hl 4 rfl) ?_
          refine n_iald S hK hP 4 0 rfl rfl dX1_count_62 (j := i) (by decide) (by omega) ?_
          have b62 := hle i
          refine lv_aload_n S.1 S.2.1 dX1_count_63 rfl (lv_at hl 0 rfl) ?_
          refine fX1_size (v := .int (nI n)) S hK hP rfl rfl dX1_count_64 ?_
          refine n_icmp_lt (x := le i) (y := n) (tgt := 103) S dX1_count_67 (by decide) (by omega) (by omega) (fun h67 => ?_) (fun h67 => ?_)
          · refine lv_iconst (v := (nI 0)) S.1 S.2.1 dX1_count_103 (by decide) ?_
            refine n_iadd (x := k) (y := 0) S dX1_count_104 ?_
            refine lv_istore_n (lv' := [(3, .int (nI (k + 0))), (0, .ref (a 0)), (1, .int (nI t)), (2, .int (nI (o).toNat)), (4, .int (nI i))]) S.1 S.2.1 dX1_count_105 rfl hl (by decide) rfl (fun ls hl => ?_)
            refine n_iinc (lv' := [(4, .int (nI (i + 1))), (3, .int (nI (k + 0))), (0, .ref (a 0)), (1, .int (nI t)), (2, .int (nI (o).toNat))]) (x := i) (k := 4) S dX1_count_106 hl rfl (by decide) rfl (fun ls hl => ?_)
            refine lv_goto (tgt := 26) S.1 S.2.1 dX1_count_109 (by decide) ?_
            exact ih (i + 1) (k + 0) (by omega) (by omega) (by rw [cnt, ← hk, cbe]; first | (rw [fre, h43, decide_eq_true h53, decide_eq_true h67, h74, h96] <;> rfl) | (rw [fre, h43, decide_eq_true h53, decide_eq_true h67, h74]; simp only [if_true, if_false, Bool.true_and, Bool.false_eq_true]; rw [h96] <;> rfl) | (rw [fre, h43, decide_eq_true h53, decide_eq_false (by omega)] <;> rfl) | (rw [fre, h43, decide_eq_false h53] <;> rfl) | (rw [fre, h43] <;> rfl)) _ _ hP hD hS ls (lv_sub hl [2, 3, 4, 1, 0] rfl)
          · refine lv_aload_n S.1 S.2.1 dX1_count_70 rfl (lv_at hl 0 rfl) ?_
            refine lv_iload S.1 S.2.1 dX1_count_71 (lv_at hl 4 rfl) ?_
            refine lv_iload_n S.1 S.2.1 dX1_count_73 rfl (lv_at hl 2 rfl) ?_
            refine n_bif_eq (b := o) (tgt := 92) S dX1_count_74 (by decide) (fun h74 => ?_) (fun h74 => ?_)
            · refine lv_iconst (v := (nI 0)) S.1 S.2.1 dX1_count_92 (by decide) ?_
              refine rd_callV (C := RX1) (As := [.int (nI i), .int (nI 0)]) (rest := [.int (nI k)]) S (kX1_isAt l dC dI cI cZ cJ a 0 n mw nf sg fo L le sc li ba ca wa i 0 hI (by omega) (by omega)) rB_blind (fun U hU hW => ⟨by rw [hU]; exact hP, va_K.moved hW.alike hK⟩) (va_recv hK hP (ci := 1) (q0 := 0) rfl rfl) gX1_64 hdX1_isAt (by decide) hl.1 rfl (Nat.le_of_ble_eq_true rfl) dX1_count_93 ⟨Nat.zero_le _, Nat.zero_le _⟩ ?_
              refine n_bif_eq (b := mat n sg fo L i 0) (tgt := 103) S dX1_count_96 (by decide) (fun h96 => ?_) (fun h96 => ?_)
              · refine lv_iconst (v := (nI 0)) S.1 S.2.1 dX1_count_103 (by decide) ?_
                refine n_iadd (x := k) (y := 0) S dX1_count_104 ?_
                refine lv_istore_n (lv' := [(3, .int (nI (k + 0))), (0, .ref (a 0)), (1, .int (nI t)), (2, .int (nI (o).toNat)), (4, .int (nI i))]) S.1 S.2.1 dX1_count_105 rfl hl (by decide) rfl (fun ls hl => ?_)
                refine n_iinc (lv' := [(4, .int (nI (i + 1))), (3, .int (nI (k + 0))), (0, .ref (a 0)), (1, .int (nI t)), (2, .int (nI (o).toNat))]) (x := i) (k := 4) S dX1_count_106 hl rfl (by decide) rfl (fun ls hl => ?_)
                refine lv_goto (tgt := 26) S.1 S.2.1 dX1_count_109 (by decide) ?_
                exact ih (i + 1) (k + 0) (by omega) (by omega) (by rw [cnt, ← hk, cbe]; first | (rw [fre, h43, decide_eq_true h53, decide_eq_true h67, h74, h96] <;> rfl) | (rw [fre, h43, decide_eq_true h53, decide_eq_true h67, h74]; simp only [if_true, if_false, Bool.true_and, Bool.false_eq_true]; rw [h96] <;> rfl) | (rw [fre, h43, decide_eq_true h53, decide_eq_false (by omega)] <;> rfl) | (rw [fre, h43, decide_eq_false h53] <;> rfl) | (rw [fre, h43] <;> rfl)) _ _ hP hD hS ls (lv_sub hl [2, 3, 4, 1, 0] rfl)
              · refine lv_iconst (v := (nI 1)) S.1 S.2.1 dX1_count_99 (by decide) ?_
                refine lv_goto (tgt := 104) S.1 S.2.1 dX1_count_100 (by decide) ?_
                refine n_iadd (x := k) (y := 1) S dX1_count_104 ?_
                refine lv_istore_n (lv' := [(3, .int (nI (k + 1))), (0, .ref (a 0)), (1, .int (nI t)), (2, .int (nI (o).toNat)), (4, .int (nI i))]) S.1 S.2.1 dX1_count_105 rfl hl (by decide) rfl (fun ls hl => ?_)
                refine n_iinc (lv' := [(4, .int (nI (i + 1))), (3, .int (nI (k + 1))), (0, .ref (a 0)), (1, .int (nI t)), (2, .int (nI (o).toNat))]) (x := i) (k := 4) S dX1_count_106 hl rfl (by decide) rfl (fun ls hl => ?_)
                refine lv_goto (tgt := 26) S.1 S.2.1 dX1_count_109 (by decide) ?_
                exact ih (i + 1) (k + 1) (by omega) (by omega) (by rw [cnt, ← hk, cbe]; first | (rw [fre, h43, decide_eq_true h53, decide_eq_true h67, h74, h96] <;> rfl) | (rw [fre, h43, decide_eq_true h53, decide_eq_true h67, h74]; simp only [if_true, if_false, Bool.true_and, Bool.false_eq_true]; rw [h96] <;> rfl) | (rw [fre, h43, decide_eq_true h53, decide_eq_false (by omega)] <;> rfl) | (rw [fre, h43, decide_eq_false h53] <;> rfl) | (rw [fre, h43] <;> rfl)) _ _ hP hD hS ls (lv_sub hl [2, 3, 4, 1, 0] rfl)
            · refine lv_aload_n S.1 S.2.1 dX1_count_77 rfl (lv_at hl 0 rfl) ?_
              refine fX1_lengths (v := .ref (a 4)) S hK hP rfl rfl dX1_count_78 ?_
              refine lv_iload S.1 S.2.1 dX1_count_81 (lv_at hl 4 rfl) ?_
              refine n_iald S hK hP 4 0 rfl rfl dX1_count_83 (j := i) (by decide) (by omega) ?_
              have b83 := hle i
              refine lv_aload_n S.1 S.2.1 dX1_count_84 rfl (lv_at hl 0 rfl) ?_
              refine fX1_size (v := .int (nI n)) S hK hP rfl rfl dX1_count_85 ?_
              refine n_isub (x := le i) (y := n) S dX1_count_88 (by omega) ?_
              refine lv_goto (tgt := 93) S.1 S.2.1 dX1_count_89 (by decide) ?_
              refine rd_callV (C := RX1) (As := [.int (nI i), .int (nI ((le i) - n))]) (rest := [.int (nI k)]) S (kX1_isAt l dC dI cI cZ cJ a 0 n mw nf sg fo L le sc li ba ca wa i ((le i) - n) hI (by omega) (by omega)) rB_blind (fun U hU hW => ⟨by rw [hU]; exact hP, va_K.moved hW.alike hK⟩) (va_recv hK hP (ci := 1) (q0 := 0) rfl rfl) gX1_64 hdX1_isAt (by decide) hl.1 rfl (Nat.le_of_ble_eq_true rfl) dX1_count_93 ⟨Nat.zero_le _, Nat.zero_le _⟩ ?_
              refine n_bif_eq (b := mat n sg fo L i ((le i) - n)) (tgt := 103) S dX1_count_96 (by decide) (fun h96 => ?_) (fun h96 => ?_)
              · refine lv_iconst (v := (nI 0)) S.1 S.2.1 dX1_count_103 (by decide) ?_
                refine n_iadd (x := k) (y := 0) S dX1_count_104 ?_
                refine lv_istore_n (lv' := [(3, .int (nI (k + 0))), (0, .ref (a 0)), (1, .int (nI t)), (2, .int (nI (o).toNat)), (4, .int (nI i))]) S.1 S.2.1 dX1_count_105 rfl hl (by decide) rfl (fun ls hl => ?_)
                refine n_iinc (lv' := [(4, .int (nI (i + 1))), (3, .int (nI (k + 0))), (0, .ref (a 0)), (1, .int (nI t)), (2, .int (nI (o).toNat))]) (x := i) (k := 4) S dX1_count_106 hl rfl (by decide) rfl (fun ls hl => ?_)
                refine lv_goto (tgt := 26) S.1 S.2.1 dX1_count_109 (by decide) ?_
                exact ih (i + 1) (k + 0) (by omega) (by omega) (by rw [cnt, ← hk, cbe]; first | (rw [fre, h43, decide_eq_true h53, decide_eq_true h67, h74, h96] <;> rfl) | (rw [fre, h43, decide_eq_true h53, decide_eq_true h67, h74]; simp only [if_true, if_false, Bool.true_and, Bool.false_eq_true]; rw [h96] <;> rfl) | (rw [fre, h43, decide_eq_true h53, decide_eq_false (by omega)] <;> rfl) | (rw [fre, h43, decide_eq_false h53] <;> rfl) | (rw [fre, h43] <;> rfl)) _ _ hP hD hS ls (lv_sub hl [2, 3, 4, 1, 0] rfl)
              · refine lv_iconst (v := (nI 1)) S.1 S.2.1 dX1_count_99 (by decide) ?_
                refine lv_goto (tgt := 104) S.1 S.2.1 dX1_count_100 (by decide) ?_
                refine n_iadd (x := k) (y := 1) S dX1_count_104 ?_
                refine lv_istore_n (lv' := [(3, .int (nI (k + 1))), (0, .ref (a 0)), (1, .int (nI t)), (2, .int (nI (o).toNat)), (4, .int (nI i))]) S.1 S.2.1 dX1_count_105 rfl hl (by decide) rfl (fun ls hl => ?_)
                refine n_iinc (lv' := [(4, .int (nI (i + 1))), (3, .int (nI (k + 1))), (0, .ref (a 0)), (1, .int (nI t)), (2, .int (nI (o).toNat))]) (x := i) (k := 4) S dX1_count_106 hl rfl (by decide) rfl (fun ls hl => ?_)
                refine lv_goto (tgt := 26) S.1 S.2.1 dX1_count_109 (by decide) ?_
                exact ih (i + 1) (k + 1) (by omega) (by omega) (by rw [cnt, ← hk, cbe]; first | (rw [fre, h43, decide_eq_true h53, decide_eq_true h67, h74, h96] <;> rfl) | (rw [fre, h43, decide_eq_true h53, decide_eq_true h67, h74]; simp only [if_true, if_false, Bool.true_and, Bool.false_eq_true]; rw [h96] <;> rfl) | (rw [fre, h43, decide_eq_true h53, decide_eq_false (by omega)] <;> rfl) | (rw [fre, h43, decide_eq_false h53] <;> rfl) | (rw [fre, h43] <;> rfl)) _ _ hP hD hS ls (lv_sub hl [2, 3, 4, 1, 0] rfl)
set_option maxRecDepth 100000 in
set_option maxHeartbeats 1000000 in
theorem kX1_count (l : Launch) (dC : Nat → ClassId) (dI : Nat → Nat → Nat) (cI cZ cJ : ClassId) (a : Nat → Nat) (th n mw nf : Nat) (sg fo L le sc li ba ca : Nat → Nat) (wa : Nat → Int32) (t : Nat) (o : Bool) (hI : iv n mw nf sg fo L le sc li ba ca) (ht : t < 4) : wr l yX1_count cX1_count 5 (some .int) 2 45 [.ref (a 0), .int (nI t), .int (nI o.toNat)] dC dI cI cZ cJ (vY cI cZ a th n mw nf sg fo L le sc li ba ca wa) (vY cI cZ a 0 n mw nf sg fo L le sc li ba ca wa) (some (.int (nI (cnt (cbe n sg fo L le li ba t o) mw)))) := by
  refine wr_ofW RX1 (by decide) rfl (Nat.le_of_ble_eq_true rfl) ?_
  intro p e s m below meth c S hr hlk hK hP hD hS ls hl
  have hl : lv_has ls 5 [(0, .ref (a 0)), (1, .int (nI t)), (2, .int (nI (o).toNat))] := hl
  obtain ⟨⟨hn, hm, hf⟩, ⟨hsg, hfo, hL, hle, hsc, hli, hba, hca⟩, hv1, hv2, hv3, hv4, hv5, hv6, hv7⟩ := id hI
  refine lv_aload_n S.1 S.2.1 dX1_count_0 rfl (lv_at hl 0 rfl) ?_
  refine lv_iload_n S.1 S.2.1 dX1_count_1 rfl (lv_at hl 1 rfl) ?_
  refine rd_callS (As := [.int (nI t)]) (rest := [.ref (a 0)]) S (kX1_isList l ((nI t))) tr_blind (fun _ _ _ => trivial) gX1_68 hdX1_isList (by decide) hl.1 rfl (Nat.le_of_ble_eq_true rfl) dX1_count_2 ⟨Nat.zero_le _, Nat.zero_le _⟩ ?_
  rw [isLi_n ht]
  refine n_bif_ne (b := true) (tgt := 12) S dX1_count_5 (by decide) (fun h5 => ?_) (fun h5 => ?_)
  · refine lv_iconst (v := (nI 0)) S.1 S.2.1 dX1_count_12 (by decide) ?_
    refine wr_callV (C := RX1) (As := [.int (nI 0)]) (rest := []) S (kX1_fails l dC dI cI cZ cJ a th n mw nf sg fo L le sc li ba ca wa false) hK [] [] hP hD hS rfl (va_recv hK hP (ci := 1) (q0 := 0) rfl rfl) gX1_52 hdX1_fails (by decide) hl.1 rfl (Nat.le_of_ble_eq_true rfl) dX1_count_13 ⟨Nat.zero_le _, Nat.zero_le _⟩ (fun H locs hP hD hS => ?_)
    have hP : va_P (dC, dI) vcl (vY cI cZ a 0 n mw nf sg fo L le sc li ba ca wa) H := hP
    have hD : va_D (wF (vY cI cZ a th n mw nf sg fo L le sc li ba ca wa)) (vY cI cZ a 0 n mw nf sg fo L le sc li ba ca wa) := hD
    refine n_bif_eq (b := false) (tgt := 21) S dX1_count_16 (by decide) (fun h16 => ?_) (fun h16 => ?_)
    · refine lv_iconst (v := (nI 0)) S.1 S.2.1 dX1_count_21 (by decide) ?_
      refine lv_istore_n (lv' := [(3, .int (nI 0)), (0, .ref (a 0)), (1, .int (nI t)), (2, .int (nI (o).toNat))]) S.1 S.2.1 dX1_count_22 rfl hl (by decide) rfl (fun ls hl => ?_)
      refine lv_iconst (v := (nI 0)) S.1 S.2.1 dX1_count_23 (by decide) ?_
      refine lv_istore (lv' := [(4, .int (nI 0)), (3, .int (nI 0)), (0, .ref (a 0)), (1, .int (nI t)), (2, .int (nI (o).toNat))]) S.1 S.2.1 dX1_count_24 hl (by decide) rfl (fun ls hl => ?_)
      exact lX1_count_26 l dC dI cI cZ cJ a th n mw nf sg fo L le sc li ba ca wa t o hI ht S hr hlk hK _ 0 0 (Nat.lt_succ_self _) (by omega) rfl _ _ hP hD hS ls (lv_sub hl [2, 3, 4, 1, 0] rfl)
    · exact absurd h16 (by decide)
  · exact absurd h5 (by decide)

set_option maxRecDepth 100000 in
set_option maxHeartbeats 1000000 in
theorem kX1_beginsF (l : Launch) (dC : Nat → ClassId) (dI : Nat → Nat → Nat) (cI cZ cJ : ClassId) (a : Nat → Nat) (th n mw nf : Nat) (sg fo L le sc li ba ca : Nat → Nat) (wa : Nat → Int32) (u : Int32) (hu : isLi u = false) : wr l yX1_begins cX1_begins 2 (some .int) 2 45 [.ref (a 0), .int u] dC dI cI cZ cJ (vY cI cZ a th n mw nf sg fo L le sc li ba ca wa) (vY cI cZ a 1 n mw nf sg fo L le sc li ba ca wa) (some (.int (nI (0)))) := by
  refine wr_ofW RX1 (by decide) rfl (Nat.le_of_ble_eq_true rfl) ?_
  intro p e s m below meth c S hr hlk hK hP hD hS ls hl
  have hl : lv_has ls 2 [(0, .ref (a 0)), (1, .int u)] := hl
  refine lv_aload_n S.1 S.2.1 dX1_begins_0 rfl (lv_at hl 0 rfl) ?_
  refine lv_iload_n S.1 S.2.1 dX1_begins_1 rfl (lv_at hl 1 rfl) ?_
  refine lv_iconst (v := (nI 0)) S.1 S.2.1 dX1_begins_2 (by decide) ?_
  refine wr_callV (C := RX1) (As := [.int u, .int (nI 0)]) (rest := []) S (kX1_countF l dC dI cI cZ cJ a th n mw nf sg fo L le sc li ba ca wa u false hu) hK [] [] hP hD hS rfl (va_recv hK hP (ci := 1) (q0 := 0) rfl rfl) gX1_87 hdX1_count (by decide) hl.1 rfl (Nat.le_of_ble_eq_true rfl) dX1_begins_3 ⟨Nat.zero_le _, Nat.zero_le _⟩ (fun H locs hP hD hS => ?_)
  have hP : va_P (dC, dI) vcl (vY cI cZ a 1 n mw nf sg fo L le sc li ba ca wa) H := hP
  have hD : va_D (wF (vY cI cZ a th n mw nf sg fo L le sc li ba ca wa)) (vY cI cZ a 1 n mw nf sg fo L le sc li ba ca wa) := hD
  exact wr_ret S hr hlk (rfl) (rfl) hP (rfl) hS dX1_begins_6

set_option maxRecDepth 100000 in
set_option maxHeartbeats 1000000 in
theorem kX1_begins (l : Launch) (dC : Nat → ClassId) (dI : Nat → Nat → Nat) (cI cZ cJ : ClassId) (a : Nat → Nat) (th n mw nf : Nat) (sg fo L le sc li ba ca : Nat → Nat) (wa : Nat → Int32) (t : Nat) (hI : iv n mw nf sg fo L le sc li ba ca) (ht : t < 4) : wr l yX1_begins cX1_begins 2 (some .int) 3 69 [.ref (a 0), .int (nI t)] dC dI cI cZ cJ (vY cI cZ a th n mw nf sg fo L le sc li ba ca wa) (vY cI cZ a 0 n mw nf sg fo L le sc li ba ca wa) (some (.int (nI (cnt (bgn n sg fo L le li ba t) mw)))) := by
  refine wr_ofW RX1 (by decide) rfl (Nat.le_of_ble_eq_true rfl) ?_
  intro p e s m below meth c S hr hlk hK hP hD hS ls hl
  have hl : lv_has ls 2 [(0, .ref (a 0)), (1, .int (nI t))] := hl
  obtain ⟨⟨hn, hm, hf⟩, ⟨hsg, hfo, hL, hle, hsc, hli, hba, hca⟩, hv1, hv2, hv3, hv4, hv5, hv6, hv7⟩ := id hI
  refine lv_aload_n S.1 S.2.1 dX1_begins_0 rfl (lv_at hl 0 rfl) ?_
  refine lv_iload_n S.1 S.2.1 dX1_begins_1 rfl (lv_at hl 1 rfl) ?_
  refine lv_iconst (v := (nI 0)) S.1 S.2.1 dX1_begins_2 (by decide) ?_
  refine wr_callV (C := RX1) (As := [.int (nI t), .int (nI 0)]) (rest := []) S (kX1_count l dC dI cI cZ cJ a th n mw nf sg fo L le sc li ba ca wa t false hI ht) hK [] [] hP hD hS rfl (va_recv hK hP (ci := 1) (q0 := 0) rfl rfl) gX1_87 hdX1_count (by decide) hl.1 rfl (Nat.le_of_ble_eq_true rfl) dX1_begins_3 ⟨Nat.zero_le _, Nat.zero_le _⟩ (fun H locs hP hD hS => ?_)
  have hP : va_P (dC, dI) vcl (vY cI cZ a 0 n mw nf sg fo L le sc li ba ca wa) H := hP
  have hD : va_D (wF (vY cI cZ a th n mw nf sg fo L le sc li ba ca wa)) (vY cI cZ a 0 n mw nf sg fo L le sc li ba ca wa) := hD
  exact wr_ret S hr hlk (rfl) (by rw [cbe_bgn]) hP (rfl) hS dX1_begins_6

set_option maxRecDepth 100000 in
set_option maxHeartbeats 1000000 in
theorem kX1_endsF (l : Launch) (dC : Nat → ClassId) (dI : Nat → Nat → Nat) (cI cZ cJ : ClassId) (a : Nat → Nat) (th n mw nf : Nat) (sg fo L le sc li ba ca : Nat → Nat) (wa : Nat → Int32) (u : Int32) (hu : isLi u = false) : wr l yX1_ends cX1_ends 2 (some .int) 2 45 [.ref (a 0), .int u] dC dI cI cZ cJ (vY cI cZ a th n mw nf sg fo L le sc li ba ca wa) (vY cI cZ a 1 n mw nf sg fo L le sc li ba ca wa) (some (.int (nI (0)))) := by
  refine wr_ofW RX1 (by decide) rfl (Nat.le_of_ble_eq_true rfl) ?_
  intro p e s m below meth c S hr hlk hK hP hD hS ls hl
  have hl : lv_has ls 2 [(0, .ref (a 0)), (1, .int u)] := hl
  refine lv_aload_n S.1 S.2.1 dX1_ends_0 rfl (lv_at hl 0 rfl) ?_
  refine lv_iload_n S.1 S.2.1 dX1_ends_1 rfl (lv_at hl 1 rfl) ?_
  refine lv_iconst (v := (nI 1)) S.1 S.2.1 dX1_ends_2 (by decide) ?_
  refine wr_callV (C := RX1) (As := [.int u, .int (nI 1)]) (rest := []) S (kX1_countF l dC dI cI cZ cJ a th n mw nf sg fo L le sc li ba ca wa u true hu) hK [] [] hP hD hS rfl (va_recv hK hP (ci := 1) (q0 := 0) rfl rfl) gX1_87 hdX1_count (by decide) hl.1 rfl (Nat.le_of_ble_eq_true rfl) dX1_ends_3 ⟨Nat.zero_le _, Nat.zero_le _⟩ (fun H locs hP hD hS => ?_)
  have hP : va_P (dC, dI) vcl (vY cI cZ a 1 n mw nf sg fo L le sc li ba ca wa) H := hP
  have hD : va_D (wF (vY cI cZ a th n mw nf sg fo L le sc li ba ca wa)) (vY cI cZ a 1 n mw nf sg fo L le sc li ba ca wa) := hD
  exact wr_ret S hr hlk (rfl) (rfl) hP (rfl) hS dX1_ends_6

set_option maxRecDepth 100000 in
set_option maxHeartbeats 1000000 in
theorem kX1_ends (l : Launch) (dC : Nat → ClassId) (dI : Nat → Nat → Nat) (cI cZ cJ : ClassId) (a : Nat → Nat) (th n mw nf : Nat) (sg fo L le sc li ba ca : Nat → Nat) (wa : Nat → Int32) (t : Nat) (hI : iv n mw nf sg fo L le sc li ba ca) (ht : t < 4) : wr l yX1_ends cX1_ends 2 (some .int) 3 69 [.ref (a 0), .int (nI t)] dC dI cI cZ cJ (vY cI cZ a th n mw nf sg fo L le sc li ba ca wa) (vY cI cZ a 0 n mw nf sg fo L le sc li ba ca wa) (some (.int (nI (cnt (edn n sg fo L le li ba t) mw)))) := by
  refine wr_ofW RX1 (by decide) rfl (Nat.le_of_ble_eq_true rfl) ?_
  intro p e s m below meth c S hr hlk hK hP hD hS ls hl
  have hl : lv_has ls 2 [(0, .ref (a 0)), (1, .int (nI t))] := hl
  obtain ⟨⟨hn, hm, hf⟩, ⟨hsg, hfo, hL, hle, hsc, hli, hba, hca⟩, hv1, hv2, hv3, hv4, hv5, hv6, hv7⟩ := id hI
  refine lv_aload_n S.1 S.2.1 dX1_ends_0 rfl (lv_at hl 0 rfl) ?_
  refine lv_iload_n S.1 S.2.1 dX1_ends_1 rfl (lv_at hl 1 rfl) ?_
  refine lv_iconst (v := (nI 1)) S.1 S.2.1 dX1_ends_2 (by decide) ?_
  refine wr_callV (C := RX1) (As := [.int (nI t), .int (nI 1)]) (rest := []) S (kX1_count l dC dI cI cZ cJ a th n mw nf sg fo L le sc li ba ca wa t true hI ht) hK [] [] hP hD hS rfl (va_recv hK hP (ci := 1) (q0 := 0) rfl rfl) gX1_87 hdX1_count (by decide) hl.1 rfl (Nat.le_of_ble_eq_true rfl) dX1_ends_3 ⟨Nat.zero_le _, Nat.zero_le _⟩ (fun H locs hP hD hS => ?_)
  have hP : va_P (dC, dI) vcl (vY cI cZ a 0 n mw nf sg fo L le sc li ba ca wa) H := hP
  have hD : va_D (wF (vY cI cZ a th n mw nf sg fo L le sc li ba ca wa)) (vY cI cZ a 0 n mw nf sg fo L le sc li ba ca wa) := hD
  exact wr_ret S hr hlk (rfl) (by rw [cbe_edn]) hP (rfl) hS dX1_ends_6
