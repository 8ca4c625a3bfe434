/-! ===== the law: its loop, its start ===== -/
set_option maxRecDepth 100000 in
set_option maxHeartbeats 4000000 in
theorem law_loop {p : Program} {l : Launch} {e : Env} {s : State} {m : MethodId} {below : List Frame} {meth : Method} {c : Code} {dC : Nat → ClassId} {dI : Nat → Nat → Nat} {cI cZ cJ : ClassId} {a d : Nat → Nat} {o b Ln : Nat} {xs : Nat → Int32} (hfl : l.flags = flags0) (S : CallFix p m c cL_law 7 s #[Value.ref b] tbG RL) (hr : meth.sig.returnType = ret) (hlk : meth.locks = false) (ht : twS s) (hK : va_K (dC, dI) vcl (vty cI cZ cJ) s) (hX : va_X b Ln xs s s.heap) (hbl : b < s.heap.size) (hLn : Ln ≤ 2560) :
    ∀ (fuel k : Nat), Ln + 5 ≤ 5 * k + fuel → 5 * k ≤ Ln → ∀ (th n mw nf : Nat) (sg fo L le sc li ba ca st : Nat → Nat) (wa : Nat → Int32) (f : Nat → Int64), iv n mw nf sg fo L le sc li ba ca → ∀ (H : Heap) (locs : List Loc), va_P (dC, dI) vcl (vX cI cZ a n mw nf sg fo L le sc li ba ca st ++ ([oc o cJ f] ++ vY cI cZ d th n mw nf sg fo L le sc li ba ca wa)) H → va_D (fun q => s.heap.size ≤ q) (vX cI cZ a n mw nf sg fo L le sc li ba ca st ++ ([oc o cJ f] ++ vY cI cZ d th n mw nf sg fo L le sc li ba ca wa)) → va_S (fun q => s.heap.size ≤ q) s.heap H locs → ∀ ls : Array Slot, lv_has ls 7 [(0, .ref b), (1, .ref (a 0)), (2, .ref (d 0)), (3, .ref o), (4, .int (nI (5 * k)))] → W p l e room_1 s m #[Value.ref b] below meth c H locs (21 + k) (10160 + 6 * k) (lw_Z below #[Value.ref b] s) (F0 m 23 ls []) := by
  intro fuel
  induction fuel with
  | zero =>
    intro k h1 h2
    exact absurd h1 (by omega)
  | succ fuel ih =>
    intro k hq hk th n mw nf sg fo L le sc li ba ca st wa f hI H locs hP hD hS ls hl
    refine lv_iload S.1 S.2.1 dL_law_23 (lv_at hl 4 rfl) ?_
    refine lv_aload_n S.1 S.2.1 dL_law_25 rfl (lv_at hl 0 rfl) ?_
    refine va_slen S.1 S.2.1 hX hbl (Nat.not_le.mpr hbl) hS dL_law_26 ?_
    refine lv_iconst (v := nI 5) S.1 S.2.1 dL_law_27 (by decide) ?_
    refine lv_isub S.1 S.2.1 dL_law_28 ?_
    refine lv_icmp_gt (tgt := 1087) S.1 S.2.1 dL_law_29 (by decide) (fun h29 => ?_) (fun h29 => ?_)
    · refine lv_iconst (v := 1) S.1 S.2.1 dL_law_1087 (by decide) ?_
      refine va_forget (fun q hq => hS.2.2 q hq) ?_
      refine W.widen (k := 1049) (n := 18376) (by omega) (by omega) ?_
      exact lw_ret S.1 S.2.1 hr hlk dL_law_1088
    · have hi5 : 5 * k + 5 ≤ Ln := lw5 hLn (by omega) h29
      have hc1 : (21 + k) + 1 ≤ room_1.cells ∧ (10160 + 6 * k) + 6 ≤ room_1.slots := ⟨by show (21 + k) + 1 ≤ 1049; omega, by show (10160 + 6 * k) + 6 ≤ 18376; omega⟩
      have kk : lK p l e s m below meth c dC dI cI cZ cJ a d o b (5 * k) (21 + k) (10160 + 6 * k) := by
        intro th n mw nf sg fo L le sc li ba ca st wa f hI H locs hP hD hS ls hl
        refine W.widen (k := 21 + (k + 1)) (n := 10160 + 6 * (k + 1)) (by omega) (by omega) ?_
        refine lv_iinc (v := nI (5 * (k + 1))) (lv' := [(4, .int (nI (5 * (k + 1)))), (0, .ref b), (1, .ref (a 0)), (2, .ref (d 0)), (3, .ref o)]) S.1 S.2.1 dL_law_1081 hl (k := 4) rfl (by rw [show 5 * (k + 1) = 5 * k + 5 by omega, ← nI_add]; rfl) (by decide) rfl (fun ls hl => ?_)
        refine lv_goto (tgt := 23) S.1 S.2.1 dL_law_1084 (by decide) ?_
        exact ih (k + 1) (by omega) (by omega) th n mw nf sg fo L le sc li ba ca st wa f hI H locs hP hD hS ls (lv_sub hl [1, 2, 3, 4, 0] rfl)
      refine lv_aload_n S.1 S.2.1 dL_law_32 rfl (lv_at hl 0 rfl) ?_
      refine lv_iload S.1 S.2.1 dL_law_33 (lv_at hl 4 rfl) ?_
      refine n_sld (j := 5 * k) S hX hbl hS (by omega) (by omega) dL_law_35 ?_
      refine lv_bipush (v := nI 31) S.1 S.2.1 dL_law_36 (by decide) ?_
      refine lv_iand S.1 S.2.1 dL_law_38 ?_
      obtain ⟨j, hj, ej⟩ := pk_andE (xs (5 * k)) (m := nI 31) 5 (by decide)
      rw [ej]
      rcases (show j = 0 ∨ j = 1 ∨ j = 2 ∨ j = 3 ∨ j = 4 ∨ j = 5 ∨ j = 6 ∨ j = 7 ∨ j = 8 ∨ j = 9 ∨ j = 10 ∨ j = 11 ∨ j = 12 ∨ j = 13 ∨ j = 14 ∨ j = 15 ∨ j = 16 ∨ 17 ≤ j by omega) with rfl | rfl | rfl | rfl | rfl | rfl | rfl | rfl | rfl | rfl | rfl | rfl | rfl | rfl | rfl | rfl | rfl | hj17
      · refine lv_tableIn (tgt := 120) S.1 S.2.1 dL_law_39 (by decide) (by decide) rfl (by decide) ?_
        exact lc_sign hfl S ht hK hX hbl hLn hi5 hc1 kk th n mw nf sg fo L le sc li ba ca st wa f hI H locs hP hD hS ls hl
      · refine lv_tableIn (tgt := 145) S.1 S.2.1 dL_law_39 (by decide) (by decide) rfl (by decide) ?_
        exact lc_clear hfl S ht hK hX hbl hLn hi5 hc1 kk th n mw nf sg fo L le sc li ba ca st wa f hI H locs hP hD hS ls hl
      · refine lv_tableIn (tgt := 156) S.1 S.2.1 dL_law_39 (by decide) (by decide) rfl (by decide) ?_
        exact lc_fold hfl S ht hK hX hbl hLn hi5 hc1 kk th n mw nf sg fo L le sc li ba ca st wa f hI H locs hP hD hS ls hl
      · refine lv_tableIn (tgt := 204) S.1 S.2.1 dL_law_39 (by decide) (by decide) rfl (by decide) ?_
        exact lc_enter hfl S ht hK hX hbl hLn hi5 hc1 kk th n mw nf sg fo L le sc li ba ca st wa f hI H locs hP hD hS ls hl
      · refine lv_tableIn (tgt := 272) S.1 S.2.1 dL_law_39 (by decide) (by decide) rfl (by decide) ?_
        exact lc_bar hfl S ht hK hX hbl hLn hi5 hc1 kk th n mw nf sg fo L le sc li ba ca st wa f hI H locs hP hD hS ls hl
      · refine lv_tableIn (tgt := 313) S.1 S.2.1 dL_law_39 (by decide) (by decide) rfl (by decide) ?_
        exact lc_merge hfl S ht hK hX hbl hLn hi5 hc1 kk th n mw nf sg fo L le sc li ba ca st wa f hI H locs hP hD hS ls hl
      · refine lv_tableIn (tgt := 405) S.1 S.2.1 dL_law_39 (by decide) (by decide) rfl (by decide) ?_
        exact lc_seek hfl S ht hK hX hbl hLn hi5 hc1 kk th n mw nf sg fo L le sc li ba ca st wa f hI H locs hP hD hS ls hl
      · refine lv_tableIn (tgt := 461) S.1 S.2.1 dL_law_39 (by decide) (by decide) rfl (by decide) ?_
        exact lc_candidate hfl S ht hK hX hbl hLn hi5 hc1 kk th n mw nf sg fo L le sc li ba ca st wa f hI H locs hP hD hS ls hl
      · refine lv_tableIn (tgt := 517) S.1 S.2.1 dL_law_39 (by decide) (by decide) rfl (by decide) ?_
        exact lc_at hfl S ht hK hX hbl hLn hi5 hc1 kk th n mw nf sg fo L le sc li ba ca st wa f hI H locs hP hD hS ls hl
      · refine lv_tableIn (tgt := 585) S.1 S.2.1 dL_law_39 (by decide) (by decide) rfl (by decide) ?_
        exact lc_begins hfl S ht hK hX hbl hLn hi5 hc1 kk th n mw nf sg fo L le sc li ba ca st wa f hI H locs hP hD hS ls hl
      · refine lv_tableIn (tgt := 641) S.1 S.2.1 dL_law_39 (by decide) (by decide) rfl (by decide) ?_
        exact lc_ends hfl S ht hK hX hbl hLn hi5 hc1 kk th n mw nf sg fo L le sc li ba ca st wa f hI H locs hP hD hS ls hl
      · refine lv_tableIn (tgt := 697) S.1 S.2.1 dL_law_39 (by decide) (by decide) rfl (by decide) ?_
        exact lc_mixed hfl S ht hK hX hbl hLn hi5 hc1 kk th n mw nf sg fo L le sc li ba ca st wa f hI H locs hP hD hS ls hl
      · refine lv_tableIn (tgt := 753) S.1 S.2.1 dL_law_39 (by decide) (by decide) rfl (by decide) ?_
        exact lc_many hfl S ht hK hX hbl hLn hi5 hc1 kk th n mw nf sg fo L le sc li ba ca st wa f hI H locs hP hD hS ls hl
      · refine lv_tableIn (tgt := 821) S.1 S.2.1 dL_law_39 (by decide) (by decide) rfl (by decide) ?_
        exact lc_letters hfl S ht hK hX hbl hLn hi5 hc1 kk th n mw nf sg fo L le sc li ba ca st wa f hI H locs hP hD hS ls hl
      · refine lv_tableIn (tgt := 889) S.1 S.2.1 dL_law_39 (by decide) (by decide) rfl (by decide) ?_
        exact lc_letter hfl S ht hK hX hbl hLn hi5 hc1 kk th n mw nf sg fo L le sc li ba ca st wa f hI H locs hP hD hS ls hl
      · refine lv_tableIn (tgt := 957) S.1 S.2.1 dL_law_39 (by decide) (by decide) rfl (by decide) ?_
        exact lc_tell hfl S ht hK hX hbl hLn hi5 hc1 kk th n mw nf sg fo L le sc li ba ca st wa f hI H locs hP hD hS ls hl
      · refine lv_tableIn (tgt := 1025) S.1 S.2.1 dL_law_39 (by decide) (by decide) rfl (by decide) ?_
        exact lc_common hfl S ht hK hX hbl hLn hi5 hc1 kk th n mw nf sg fo L le sc li ba ca st wa f hI H locs hP hD hS ls hl
      · refine lv_tableOut (tgt := 1081) S.1 S.2.1 dL_law_39 (Or.inr (by rw [nI_toInt (by omega)]; omega)) (by decide) ?_
        refine W.widen (k := (21 + k) + 1) (n := (10160 + 6 * k) + 6) (by omega) (by omega) ?_
        exact kk th n mw nf sg fo L le sc li ba ca st wa f hI H locs hP hD hS ls hl
theorem st_words : Cond.classLink RL 8 RX0 ∈ tbG ∧ Cond.instantiable RX0 12 ∈ tbG ∧ Cond.initialized RX0 ∈ tbG ∧ Cond.classLink RL 58 RX1 ∈ tbG ∧ Cond.instantiable RX1 13 ∈ tbG ∧ Cond.initialized RX1 ∈ tbG ∧ Cond.methodLink RL 57 yX0_init ∈ tbG ∧ Cond.instanceMethod yX0_init ∈ tbG ∧ Cond.code yX0_init cX0_init 2 none ∈ tbG ∧ Cond.methodLink RL 60 yX1_init ∈ tbG ∧ Cond.instanceMethod yX1_init ∈ tbG ∧ Cond.code yX1_init cX1_init 2 none ∈ tbG := by decide +kernel
theorem st_tw {s : State} {b : Nat} (hts : ∀ w ∈ lw_tbl, w.before #[Value.ref b] s = true) (hgv : (Jvm.Cond.and given_1 narrow_1).before #[Value.ref b] s = true) (hX0 : ∃ cur, s.vm.findClass RX0 = some cur) : twS s := by
  have hs := flat_of_before _ hgv
  have h1 : ∀ w ∈ twL, w.before #[Value.ref b] s = true := by
    intro w hw
    simp only [twL, List.mem_cons, List.not_mem_nil, or_false] at hw
    rcases hw with rfl | rfl | rfl | rfl
    · exact hts _ (by decide +kernel)
    · exact hts _ (by decide +kernel)
    · exact hs _ (by decide +kernel)
    · exact hs _ (by decide +kernel)
  have h2 : ∀ w ∈ twV, w.before #[Value.ref b] s = true := by
    have key : ∀ w ∈ twV, w ∈ lw_tbl := by decide +kernel
    exact fun w hw => hts w (key w hw)
  obtain ⟨cur, hcur⟩ := hX0
  have h3 : ∀ (i : Nat) (t : String), Cond.stringRef RX0 i t ∈ lw_tbl → sR s i := by
    intro i t hm
    obtain ⟨k, cf, j, a, q1, q2, q3, -, q4, -⟩ := Cond.stringRef_spec hcur (hts _ hm)
    exact ⟨cur, k, cf, j, a, hcur, q1, q2, q3, q4⟩
  exact ⟨fun A w hw => tw_heap (V := s) (U := s) rfl (fun _ _ h => h) w hw (h1 w hw), ⟨h3 121 "no letter" (by decide +kernel), h3 123 "no such list" (by decide +kernel), h3 95 "no such candidate" (by decide +kernel), h3 125 "no such word" (by decide +kernel)⟩, fun A w hw => twV_keep (State.WarmedH.refl s) w hw (h2 w hw)⟩
set_option maxHeartbeats 4000000 in
set_option maxRecDepth 100000 in
/-- THE LAW, from its entry -/
theorem whole_start {p : Program} {e : Env} {s : State} {m : MethodId} {below : List Frame} {meth : Method} {c : Code} (l : Launch) (hfl : l.flags = flags0) {b Ln : Nat} {xs : Nat → Int32} (hL : Ln ≤ 2560) (C0 : lw_At p s m meth c b Ln xs) : W p l e room_1 s m #[Value.ref b] below meth c s.heap [] 0 0 (lw_Z below #[Value.ref b] s) (entryFrame m ([Value.ref b] : List Value).toArray 7) := by
  obtain ⟨hx, hb, hr, hml, hown, hts, hX, hbl, hlocks, hgv⟩ := id C0
  have S : CallFix p m c cL_law 7 s #[Value.ref b] tbG RL := ⟨hx, hb, hml, hown, fun w h => hts w (tb_sub w h)⟩
  have hA : ∀ q : Nat, s.heap.size ≤ q → (fun q : Nat => s.heap.size ≤ q) q := fun _ h => h
  obtain ⟨c0, iS0, hKn0⟩ := u_known (C := RX0) (T := TX0) (N := 12) (n := 12) S.2.2.2.2 tbX0 (S.2.2.2.2 _ st_words.2.1)
  obtain ⟨c1, iS1, hKn1⟩ := u_known (C := RX1) (T := TX1) (N := 13) (n := 13) S.2.2.2.2 tbX1 (S.2.2.2.2 _ st_words.2.2.2.2.1)
  have ht : twS s := st_tw hts hgv ⟨c0, hKn0.2.1⟩
  obtain ⟨cI, hI1⟩ := arr_of (S.2.2.2.2 _ arw.1) (fun _ h => by cases h)
  obtain ⟨cZ, hZ1⟩ := arr_of (S.2.2.2.2 _ arw.2.1) (fun _ h => by cases h)
  obtain ⟨cJ, hJ1⟩ := arr_of (S.2.2.2.2 _ arw.2.2) (fun _ h => by cases h)
  obtain ⟨dC, dI, hKc⟩ : ∃ (dC : Nat → ClassId) (dI : Nat → Nat → Nat), ∀ (k : Nat) (q : vw_C), vcl[k]? = some q → u_Kn s q.1 q.2.1 q.2.2 (dC k) (dI k) := by
    refine ⟨fun k => if k = 0 then c0 else c1, fun k => if k = 0 then iS0 else iS1, ?_⟩
    intro k q hq
    match k, hq with
    | 0, hq => cases hq; exact hKn0
    | 1, hq => cases hq; exact hKn1
    | k + 2, hq => simp [vcl] at hq
  have hS : va_S (fun q : Nat => s.heap.size ≤ q) s.heap s.heap [] := va_S.rf
  have hK : va_K (dC, dI) vcl (vty cI cZ cJ) s := ⟨hKc, fun k q h => by
    match k, h with
    | 0, h => cases h; exact hI1
    | 1, h => cases h; exact hZ1
    | 2, h => cases h; exact hJ1
    | k + 3, h => simp [vty] at h⟩
  have hP : va_P (dC, dI) vcl [] s.heap := fun k q h => by simp at h
  have hD : va_D (fun q : Nat => s.heap.size ≤ q) [] := ⟨fun i j p q h => by simp at h, fun k q h => by simp at h⟩
  have hl := lv_entry ([.ref b]) (n := 7) (Nat.le_of_ble_eq_true rfl)
  rw [lg_entry_eq]
  generalize (lg_sl ([.ref b]) ++ List.replicate (7 - (lg_sl ([.ref b])).length) Slot.unset).toArray = ls at hl ⊢
  have hl : lv_has ls 7 [(0, .ref b)] := hl
  refine va_new (ci := 0) (fs := [.null, .int (nI 0), .null, .null, .null, .null, .null, .null, .int (nI 0), .null, .int (nI 0), .null]) (C := RX0) (T := TX0) (N := 12) S.1 S.2.1 S.2.2.2.2 tbX0 tyX0 tyX0_ok S.2.2.2.1 (S.2.2.2.2 _ st_words.1) (S.2.2.2.2 _ st_words.2.1) (S.2.2.2.2 _ st_words.2.2.1) hK hP hD hS hA rfl (fun j hj => by rcases (show j = 0 ∨ j = 1 ∨ j = 2 ∨ j = 3 ∨ j = 4 ∨ j = 5 ∨ j = 6 ∨ j = 7 ∨ j = 8 ∨ j = 9 ∨ j = 10 ∨ j = 11 by omega) with rfl | rfl | rfl | rfl | rfl | rfl | rfl | rfl | rfl | rfl | rfl | rfl <;> rfl) (Nat.le_of_ble_eq_true rfl) (Nat.le_of_ble_eq_true rfl) dL_law_0 (fun qx H hP hD hS => ?_)
  have hP : va_P (dC, dI) vcl [(qx, .inr (0, [.null, .int (nI 0), .null, .null, .null, .null, .null, .null, .int (nI 0), .null, .int (nI 0), .null]))] H := hP
  have hD : va_D (fun q : Nat => s.heap.size ≤ q) [(qx, .inr (0, [.null, .int (nI 0), .null, .null, .null, .null, .null, .null, .int (nI 0), .null, .int (nI 0), .null]))] := hD
  refine W.widen (k := 1) (n := 12) (Nat.le_of_ble_eq_true rfl) (Nat.le_of_ble_eq_true rfl) ?_
  refine lv_dup S.1 S.2.1 dL_law_3 rfl ?_
  have hFc := va_free (wc := [(qx, .inr (0, [.null, .int (nI 0), .null, .null, .null, .null, .null, .null, .int (nI 0), .null, .int (nI 0), .null]))]) hD hS hA [0] rfl
  refine va_callv (va_runI (As := []) (rest := [.ref qx]) S (kX0_init l dC dI cI cZ cJ qx H.size) (cwI 0 S.2.2.2.2 (tb_T st_words.2.2.2.2.2.2.2.2.1) rfl rfl rfl (S.2.2.2.2 _ st_words.2.2.1) (S.2.2.2.2 _ st_words.2.2.2.2.2.2.1) (S.2.2.2.2 _ st_words.2.2.2.2.2.2.2.1) rfl hdX0_init.2 ⟨Nat.le_of_ble_eq_true rfl, Nat.le_of_ble_eq_true rfl⟩) ⟨fun a U g mk q => by obtain ⟨q0, q1, qP, qK, qD⟩ := q; exact ⟨q0, q1, qP, va_K.moved (u := U) (U := U.calling g mk a) (Vm.Alike.refl U.vm) qK, qD⟩, fun U hU hW => ⟨rfl, by rw [hU], by rw [hU]; exact hP, va_K.moved hW.alike hK, hD.weaken (fun _ _ _ _ => trivial)⟩⟩ rfl rfl hl.1 rfl (lv_room (Nat.le_of_ble_eq_true rfl)) dL_law_4 ⟨Nat.le_of_ble_eq_true rfl, Nat.le_of_ble_eq_true rfl⟩) hS (fun q _ h => hFc q h) hFc (fun a t H1 locs ht1 hvm hw hB hz1 hk1 hS => ?_)
  obtain ⟨hP1, -, hD1⟩ := hB
  rw [ht1] at hP1
  obtain ⟨hP, hD⟩ := va_join (wr := []) (w1 := vX cI cZ a 0 0 0 z0 (foF 26) z0 z0 z0 z0 z0 z0 z0) hP hD [0] [] rfl rfl (by decide) (by decide) hk1 hFc hP1 hD1
  generalize H1 = H at hP hS ⊢
  have hP : va_P (dC, dI) vcl (vX cI cZ a 0 0 0 z0 (foF 26) z0 z0 z0 z0 z0 z0 z0) H := hP
  have hD : va_D (fun q : Nat => s.heap.size ≤ q) (vX cI cZ a 0 0 0 z0 (foF 26) z0 z0 z0 z0 z0 z0 z0) := hD
  have hw : a 0 = qx := hw
  rw [← hw]
  refine W.widen (k := 10) (n := 5079) (Nat.le_of_ble_eq_true rfl) (Nat.le_of_ble_eq_true rfl) ?_
  refine lv_astore_n (lv' := [(1, .ref (a 0)), (0, .ref b)]) S.1 S.2.1 dL_law_7 rfl hl (by decide) rfl (fun ls hl => ?_)
  refine va_new (ci := 1) (fs := [.int (nI 0), .int (nI 0), .null, .null, .int (nI 0), .null, .null, .null, .null, .null, .int (nI 0), .null, .null]) (C := RX1) (T := TX1) (N := 13) S.1 S.2.1 S.2.2.2.2 tbX1 tyX1 tyX1_ok S.2.2.2.1 (S.2.2.2.2 _ st_words.2.2.2.1) (S.2.2.2.2 _ st_words.2.2.2.2.1) (S.2.2.2.2 _ st_words.2.2.2.2.2.1) hK hP hD hS hA rfl (fun j hj => by rcases (show j = 0 ∨ j = 1 ∨ j = 2 ∨ j = 3 ∨ j = 4 ∨ j = 5 ∨ j = 6 ∨ j = 7 ∨ j = 8 ∨ j = 9 ∨ j = 10 ∨ j = 11 ∨ j = 12 by omega) with rfl | rfl | rfl | rfl | rfl | rfl | rfl | rfl | rfl | rfl | rfl | rfl | rfl <;> rfl) (Nat.le_of_ble_eq_true rfl) (Nat.le_of_ble_eq_true rfl) dL_law_8 (fun qy H hP hD hS => ?_)
  refine W.widen (k := 11) (n := 5092) (Nat.le_of_ble_eq_true rfl) (Nat.le_of_ble_eq_true rfl) ?_
  refine lv_dup S.1 S.2.1 dL_law_11 rfl ?_
  have hPc := hP.sub (ws' := [(qy, .inr (1, [.int (nI 0), .int (nI 0), .null, .null, .int (nI 0), .null, .null, .null, .null, .null, .int (nI 0), .null, .null]))]) [10] rfl
  have hDc := hD.sub (ws' := [(qy, .inr (1, [.int (nI 0), .int (nI 0), .null, .null, .int (nI 0), .null, .null, .null, .null, .null, .int (nI 0), .null, .null]))]) [10] (by decide) rfl
  have hFc := va_free (wc := [(qy, .inr (1, [.int (nI 0), .int (nI 0), .null, .null, .int (nI 0), .null, .null, .null, .null, .null, .int (nI 0), .null, .null]))]) hD hS hA [10] rfl
  refine va_callv (va_runI (As := []) (rest := [.ref qy]) S (kX1_init l dC dI cI cZ cJ qy H.size) (cwI 0 S.2.2.2.2 (tb_T st_words.2.2.2.2.2.2.2.2.2.2.2) rfl rfl rfl (S.2.2.2.2 _ st_words.2.2.2.2.2.1) (S.2.2.2.2 _ st_words.2.2.2.2.2.2.2.2.2.1) (S.2.2.2.2 _ st_words.2.2.2.2.2.2.2.2.2.2.1) rfl hdX1_init.2 ⟨Nat.le_of_ble_eq_true rfl, Nat.le_of_ble_eq_true rfl⟩) ⟨fun a U g mk q => by obtain ⟨q0, q1, qP, qK, qD⟩ := q; exact ⟨q0, q1, qP, va_K.moved (u := U) (U := U.calling g mk a) (Vm.Alike.refl U.vm) qK, qD⟩, fun U hU hW => ⟨rfl, by rw [hU], by rw [hU]; exact hPc, va_K.moved hW.alike hK, hDc.weaken (fun _ _ _ _ => trivial)⟩⟩ rfl rfl hl.1 rfl (lv_room (Nat.le_of_ble_eq_true rfl)) dL_law_12 ⟨Nat.le_of_ble_eq_true rfl, Nat.le_of_ble_eq_true rfl⟩) hS (fun q _ h => hFc q h) hFc (fun d t H1 locs ht1 hvm hw2 hB hz1 hk1 hS => ?_)
  obtain ⟨hP1, -, hD1⟩ := hB
  rw [ht1] at hP1
  obtain ⟨hP, hD⟩ := va_join (wr := vX cI cZ a 0 0 0 z0 (foF 26) z0 z0 z0 z0 z0 z0 z0) (w1 := vY cI cZ d 0 0 0 0 z0 (foF 26) z0 z0 z0 z0 z0 z0 (fun _ => nI 0)) hP hD [10] [0, 1, 2, 3, 4, 5, 6, 7, 8, 9] rfl rfl (by decide) (by decide) hk1 hFc hP1 hD1
  generalize H1 = H at hP hS ⊢
  have hw2 : d 0 = qy := hw2
  rw [← hw2]
  refine W.widen (k := 20) (n := 10159) (Nat.le_of_ble_eq_true rfl) (Nat.le_of_ble_eq_true rfl) ?_
  refine lv_astore_n (lv' := [(2, .ref (d 0)), (1, .ref (a 0)), (0, .ref b)]) S.1 S.2.1 dL_law_15 rfl hl (by decide) rfl (fun ls hl => ?_)
  refine lv_iconst (v := nI 1) S.1 S.2.1 dL_law_16 (by decide) ?_
  refine n_newJ (N := 1) S hK hP hD hS hA (by decide) (Nat.le_of_ble_eq_true rfl) (Nat.le_of_ble_eq_true rfl) dL_law_17 (fun o H hP hD hS => ?_)
  have hP := hP.sub (ws' := vX cI cZ a 0 0 0 z0 (foF 26) z0 z0 z0 z0 z0 z0 z0 ++ ([oc o cJ (fun _ => 0)] ++ vY cI cZ d 0 0 0 0 z0 (foF 26) z0 z0 z0 z0 z0 z0 (fun _ => nI 0))) [0, 1, 2, 3, 4, 5, 6, 7, 8, 9, 20, 10, 11, 12, 13, 14, 15, 16, 17, 18, 19] rfl
  have hD := hD.sub (ws' := vX cI cZ a 0 0 0 z0 (foF 26) z0 z0 z0 z0 z0 z0 z0 ++ ([oc o cJ (fun _ => 0)] ++ vY cI cZ d 0 0 0 0 z0 (foF 26) z0 z0 z0 z0 z0 z0 (fun _ => nI 0))) [0, 1, 2, 3, 4, 5, 6, 7, 8, 9, 20, 10, 11, 12, 13, 14, 15, 16, 17, 18, 19] (by decide) rfl
  refine W.widen (k := 21) (n := 10160) (Nat.le_of_ble_eq_true rfl) (Nat.le_of_ble_eq_true rfl) ?_
  refine lv_astore_n (lv' := [(3, .ref o), (2, .ref (d 0)), (1, .ref (a 0)), (0, .ref b)]) S.1 S.2.1 dL_law_19 rfl hl (by decide) rfl (fun ls hl => ?_)
  refine lv_iconst (v := nI 0) S.1 S.2.1 dL_law_20 (by decide) ?_
  refine lv_istore (lv' := [(4, .int (nI 0)), (3, .ref o), (2, .ref (d 0)), (1, .ref (a 0)), (0, .ref b)]) S.1 S.2.1 dL_law_21 hl (by decide) rfl (fun ls hl => ?_)
  exact law_loop hfl S hr hlocks ht hK hX hbl hL (Ln + 5) 0 (by omega) (by omega) 0 0 0 0 z0 (foF 26) z0 z0 z0 z0 z0 z0 z0 (fun _ => nI 0) (fun _ => 0) iv_new H locs hP hD hS ls (lv_sub hl [4, 3, 2, 1, 0] rfl)
