/-! ===== the law: one call after the other ===== -/
/-- what is wanted behind a call: the loop goes on from every good state -/
def lK (p : Program) (l : Launch) (e : Env) (s : State) (m : MethodId) (below : List Frame) (meth : Method) (c : Code) (dC : Nat → ClassId) (dI : Nat → Nat → Nat) (cI cZ cJ : ClassId) (a d : Nat → Nat) (o b i cells slots : Nat) : Prop :=
  ∀ (th n mw nf : Nat) (sg fo L le sc li ba ca st : Nat → Nat) (wa : Nat → Int32) (f : Nat → Int64), iv n mw nf sg fo L le sc li ba ca → ∀ (H : Heap) (locs : List Loc), va_P (dC, dI) vcl (vX cI cZ a n mw nf sg fo L le sc li ba ca st ++ ([oc o cJ f] ++ vY cI cZ d th n mw nf sg fo L le sc li ba ca wa)) H → va_D (fun q => s.heap.size ≤ q) (vX cI cZ a n mw nf sg fo L le sc li ba ca st ++ ([oc o cJ f] ++ vY cI cZ d th n mw nf sg fo L le sc li ba ca wa)) → va_S (fun q => s.heap.size ≤ q) s.heap H locs →
    ∀ ls : Array Slot, lv_has ls 7 [(0, .ref b), (1, .ref (a 0)), (2, .ref (d 0)), (3, .ref o), (4, .int (nI i))] → W p l e room_1 s m #[Value.ref b] below meth c H locs (cells + 1) (slots + 6) (lw_Z below #[Value.ref b] s) (F0 m 1081 ls [])
set_option maxRecDepth 100000 in
set_option maxHeartbeats 4000000 in
theorem lc_sign {p : Program} {l : Launch} {e : Env} {s : State} {m : MethodId} {below : List Frame} {meth : Method} {c : Code} {dC : Nat → ClassId} {dI : Nat → Nat → Nat} {cI cZ cJ : ClassId} {a d : Nat → Nat} {o b i cells slots Ln : Nat} {xs : Nat → Int32} (hfl : l.flags = flags0) (S : CallFix p m c cL_law 7 s #[Value.ref b] tbG RL) (ht : twS s) (hK : va_K (dC, dI) vcl (vty cI cZ cJ) s) (hX : va_X b Ln xs s s.heap) (hbl : b < s.heap.size) (hLn : Ln ≤ 2560) (hi5 : i + 5 ≤ Ln) (hc1 : cells + 1 ≤ room_1.cells ∧ slots + 6 ≤ room_1.slots)
    (kk : lK p l e s m below meth c dC dI cI cZ cJ a d o b i cells slots) (th n mw nf : Nat) (sg fo L le sc li ba ca st : Nat → Nat) (wa : Nat → Int32) (f : Nat → Int64) (hI : iv n mw nf sg fo L le sc li ba ca) (H : Heap) (locs : List Loc) (hP : va_P (dC, dI) vcl (vX cI cZ a n mw nf sg fo L le sc li ba ca st ++ ([oc o cJ f] ++ vY cI cZ d th n mw nf sg fo L le sc li ba ca wa)) H) (hD : va_D (fun q => s.heap.size ≤ q) (vX cI cZ a n mw nf sg fo L le sc li ba ca st ++ ([oc o cJ f] ++ vY cI cZ d th n mw nf sg fo L le sc li ba ca wa))) (hS : va_S (fun q => s.heap.size ≤ q) s.heap H locs)
    (ls : Array Slot) (hl : lv_has ls 7 [(0, .ref b), (1, .ref (a 0)), (2, .ref (d 0)), (3, .ref o), (4, .int (nI i))]) : W p l e room_1 s m #[Value.ref b] below meth c H locs cells slots (lw_Z below #[Value.ref b] s) (F0 m 120 ls []) := by
  have hc0 : cells ≤ room_1.cells ∧ slots ≤ room_1.slots := ⟨by omega, by omega⟩
  have hn := hI.1.1
  have hm := hI.1.2.1
  have hf := hI.1.2.2
  rcases sp_sign hn (xs (i + 1)) with hc | ⟨j, ⟨hj, hn5⟩, hu1⟩
  · refine lv_aload_n S.1 S.2.1 dL_law_120 rfl (lv_at hl 1 rfl) ?_
    refine lv_aload_n S.1 S.2.1 dL_law_121 rfl (lv_at hl 0 rfl) ?_
    refine lv_iload S.1 S.2.1 dL_law_122 (lv_at hl 4 rfl) ?_
    refine lv_iconst (v := (nI 1)) S.1 S.2.1 dL_law_124 (by decide) ?_
    refine n_iadd (x := i) (y := 1) S dL_law_125 ?_
    refine n_sld (j := i + 1) S hX hbl hS (by omega) (by omega) dL_law_126 ?_
    refine rd_callV (C := RX0) (As := [.int (xs (i + 1))]) (rest := []) S (kX0_signF l dC dI cI cZ cJ a n mw nf sg fo L le sc li ba ca st (xs (i + 1)) hI hc) rB_blind (fun U hU hW => ⟨by rw [hU]; exact lsX hP, va_K.moved hW.alike hK⟩) (va_recv hK hP (ci := 0) (q0 := 0) rfl rfl) gL_61 hdX0_sign (by decide) hl.1 rfl (Nat.le_of_ble_eq_true rfl) dL_law_127 hc0 ?_
    refine lv_aload_n S.1 S.2.1 dL_law_130 rfl (lv_at hl 2 rfl) ?_
    refine lv_aload_n S.1 S.2.1 dL_law_131 rfl (lv_at hl 0 rfl) ?_
    refine lv_iload S.1 S.2.1 dL_law_132 (lv_at hl 4 rfl) ?_
    refine lv_iconst (v := (nI 1)) S.1 S.2.1 dL_law_134 (by decide) ?_
    refine n_iadd (x := i) (y := 1) S dL_law_135 ?_
    refine n_sld (j := i + 1) S hX hbl hS (by omega) (by omega) dL_law_136 ?_
    refine lc_Y (As := [.int (xs (i + 1))]) (rest := [.int (nI 0)]) S (kX1_signF l dC dI cI cZ cJ d th n mw nf sg fo L le sc li ba ca wa (xs (i + 1)) hI hc) hK hP hD hS rfl (va_recv hK hP (ci := 1) (q0 := 11) rfl rfl) gL_65 hdX1_sign (by decide) hl.1 rfl (Nat.le_of_ble_eq_true rfl) dL_law_137 hc0 (fun H locs hP hD hS => ?_)
    have hP : va_P (dC, dI) vcl (vX cI cZ a n mw nf sg fo L le sc li ba ca st ++ ([oc o cJ f] ++ vY cI cZ d 0 n mw nf sg fo L le sc li ba ca wa)) H := hP
    have hD : va_D (fun q => s.heap.size ≤ q) (vX cI cZ a n mw nf sg fo L le sc li ba ca st ++ ([oc o cJ f] ++ vY cI cZ d 0 n mw nf sg fo L le sc li ba ca wa)) := hD
    refine lv_icmp_eq (tgt := 1081) S.1 S.2.1 dL_law_140 (by decide) (fun _ => ?_) (fun h => absurd rfl h)
    refine W.widen (k := cells + 1) (n := slots + 6) (by omega) (by omega) ?_
    exact kk 0 n mw nf sg fo L le sc li ba ca st wa f hI H locs hP hD hS ls (lv_sub hl [0, 1, 2, 3, 4] rfl)
  · refine lv_aload_n S.1 S.2.1 dL_law_120 rfl (lv_at hl 1 rfl) ?_
    refine lv_aload_n S.1 S.2.1 dL_law_121 rfl (lv_at hl 0 rfl) ?_
    refine lv_iload S.1 S.2.1 dL_law_122 (lv_at hl 4 rfl) ?_
    refine lv_iconst (v := (nI 1)) S.1 S.2.1 dL_law_124 (by decide) ?_
    refine n_iadd (x := i) (y := 1) S dL_law_125 ?_
    refine n_sld (j := i + 1) S hX hbl hS (by omega) (by omega) dL_law_126 ?_
    rw [hu1]
    refine lc_X (As := [.int (nI j)]) (rest := []) S (kX0_signT l dC dI cI cZ cJ a n mw nf sg fo L le sc li ba ca st j hI hj hn5) hK hP hD hS rfl (va_recv hK hP (ci := 0) (q0 := 0) rfl rfl) gL_61 hdX0_sign (by decide) hl.1 rfl (Nat.le_of_ble_eq_true rfl) dL_law_127 hc0 (fun H locs hP hD hS => ?_)
    have hP : va_P (dC, dI) vcl (vX cI cZ a (n + 1) mw nf (va_up sg n j) fo L le sc li ba ca st ++ ([oc o cJ f] ++ vY cI cZ d th n mw nf sg fo L le sc li ba ca wa)) H := hP
    have hD : va_D (fun q => s.heap.size ≤ q) (vX cI cZ a (n + 1) mw nf (va_up sg n j) fo L le sc li ba ca st ++ ([oc o cJ f] ++ vY cI cZ d th n mw nf sg fo L le sc li ba ca wa)) := hD
    refine lv_aload_n S.1 S.2.1 dL_law_130 rfl (lv_at hl 2 rfl) ?_
    refine lv_aload_n S.1 S.2.1 dL_law_131 rfl (lv_at hl 0 rfl) ?_
    refine lv_iload S.1 S.2.1 dL_law_132 (lv_at hl 4 rfl) ?_
    refine lv_iconst (v := (nI 1)) S.1 S.2.1 dL_law_134 (by decide) ?_
    refine n_iadd (x := i) (y := 1) S dL_law_135 ?_
    refine n_sld (j := i + 1) S hX hbl hS (by omega) (by omega) dL_law_136 ?_
    rw [hu1]
    refine lc_Y (As := [.int (nI j)]) (rest := [.int (nI 1)]) S (kX1_signT l dC dI cI cZ cJ d th n mw nf sg fo L le sc li ba ca wa j hI hj hn5) hK hP hD hS rfl (va_recv hK hP (ci := 1) (q0 := 11) rfl rfl) gL_65 hdX1_sign (by decide) hl.1 rfl (Nat.le_of_ble_eq_true rfl) dL_law_137 hc0 (fun H locs hP hD hS => ?_)
    have hP : va_P (dC, dI) vcl (vX cI cZ a (n + 1) mw nf (va_up sg n j) fo L le sc li ba ca st ++ ([oc o cJ f] ++ vY cI cZ d 0 (n + 1) mw nf (va_up sg n j) fo L le sc li ba ca wa)) H := hP
    have hD : va_D (fun q => s.heap.size ≤ q) (vX cI cZ a (n + 1) mw nf (va_up sg n j) fo L le sc li ba ca st ++ ([oc o cJ f] ++ vY cI cZ d 0 (n + 1) mw nf (va_up sg n j) fo L le sc li ba ca wa)) := hD
    refine lv_icmp_eq (tgt := 1081) S.1 S.2.1 dL_law_140 (by decide) (fun _ => ?_) (fun h => absurd rfl h)
    refine W.widen (k := cells + 1) (n := slots + 6) (by omega) (by omega) ?_
    exact kk 0 (n + 1) mw nf (va_up sg n j) fo L le sc li ba ca st wa f (iv_sign hI hj hn5) H locs hP hD hS ls (lv_sub hl [0, 1, 2, 3, 4] rfl)

set_option maxRecDepth 100000 in
set_option maxHeartbeats 4000000 in
theorem lc_clear {p : Program} {l : Launch} {e : Env} {s : State} {m : MethodId} {below : List Frame} {meth : Method} {c : Code} {dC : Nat → ClassId} {dI : Nat → Nat → Nat} {cI cZ cJ : ClassId} {a d : Nat → Nat} {o b i cells slots Ln : Nat} {xs : Nat → Int32} (hfl : l.flags = flags0) (S : CallFix p m c cL_law 7 s #[Value.ref b] tbG RL) (ht : twS s) (hK : va_K (dC, dI) vcl (vty cI cZ cJ) s) (hX : va_X b Ln xs s s.heap) (hbl : b < s.heap.size) (hLn : Ln ≤ 2560) (hi5 : i + 5 ≤ Ln) (hc1 : cells + 1 ≤ room_1.cells ∧ slots + 6 ≤ room_1.slots)
    (kk : lK p l e s m below meth c dC dI cI cZ cJ a d o b i cells slots) (th n mw nf : Nat) (sg fo L le sc li ba ca st : Nat → Nat) (wa : Nat → Int32) (f : Nat → Int64) (hI : iv n mw nf sg fo L le sc li ba ca) (H : Heap) (locs : List Loc) (hP : va_P (dC, dI) vcl (vX cI cZ a n mw nf sg fo L le sc li ba ca st ++ ([oc o cJ f] ++ vY cI cZ d th n mw nf sg fo L le sc li ba ca wa)) H) (hD : va_D (fun q => s.heap.size ≤ q) (vX cI cZ a n mw nf sg fo L le sc li ba ca st ++ ([oc o cJ f] ++ vY cI cZ d th n mw nf sg fo L le sc li ba ca wa))) (hS : va_S (fun q => s.heap.size ≤ q) s.heap H locs)
    (ls : Array Slot) (hl : lv_has ls 7 [(0, .ref b), (1, .ref (a 0)), (2, .ref (d 0)), (3, .ref o), (4, .int (nI i))]) : W p l e room_1 s m #[Value.ref b] below meth c H locs cells slots (lw_Z below #[Value.ref b] s) (F0 m 145 ls []) := by
  have hc0 : cells ≤ room_1.cells ∧ slots ≤ room_1.slots := ⟨by omega, by omega⟩
  have hn := hI.1.1
  have hm := hI.1.2.1
  have hf := hI.1.2.2
  refine lv_aload_n S.1 S.2.1 dL_law_145 rfl (lv_at hl 1 rfl) ?_
  refine lc_X (As := []) (rest := []) S (kX0_clear l dC dI cI cZ cJ a n mw nf sg fo L le sc li ba ca st hI) hK hP hD hS rfl (va_recv hK hP (ci := 0) (q0 := 0) rfl rfl) gL_66 hdX0_clear (by decide) hl.1 rfl (Nat.le_of_ble_eq_true rfl) dL_law_146 hc0 (fun H locs hP hD hS => ?_)
  have hP : va_P (dC, dI) vcl (vX cI cZ a 0 mw nf sg fo L le sc li ba ca st ++ ([oc o cJ f] ++ vY cI cZ d th n mw nf sg fo L le sc li ba ca wa)) H := hP
  have hD : va_D (fun q => s.heap.size ≤ q) (vX cI cZ a 0 mw nf sg fo L le sc li ba ca st ++ ([oc o cJ f] ++ vY cI cZ d th n mw nf sg fo L le sc li ba ca wa)) := hD
  refine lv_aload_n S.1 S.2.1 dL_law_149 rfl (lv_at hl 2 rfl) ?_
  refine lc_Y (As := []) (rest := []) S (kX1_clear l dC dI cI cZ cJ d th n mw nf sg fo L le sc li ba ca wa hI) hK hP hD hS rfl (va_recv hK hP (ci := 1) (q0 := 11) rfl rfl) gL_69 hdX1_clear (by decide) hl.1 rfl (Nat.le_of_ble_eq_true rfl) dL_law_150 hc0 (fun H locs hP hD hS => ?_)
  have hP : va_P (dC, dI) vcl (vX cI cZ a 0 mw nf sg fo L le sc li ba ca st ++ ([oc o cJ f] ++ vY cI cZ d 0 0 mw nf sg fo L le sc li ba ca wa)) H := hP
  have hD : va_D (fun q => s.heap.size ≤ q) (vX cI cZ a 0 mw nf sg fo L le sc li ba ca st ++ ([oc o cJ f] ++ vY cI cZ d 0 0 mw nf sg fo L le sc li ba ca wa)) := hD
  refine lv_goto (tgt := 1081) S.1 S.2.1 dL_law_153 (by decide) ?_
  refine W.widen (k := cells + 1) (n := slots + 6) (by omega) (by omega) ?_
  exact kk 0 0 mw nf sg fo L le sc li ba ca st wa f (iv_clear hI) H locs hP hD hS ls (lv_sub hl [0, 1, 2, 3, 4] rfl)

set_option maxRecDepth 100000 in
set_option maxHeartbeats 4000000 in
theorem lc_fold {p : Program} {l : Launch} {e : Env} {s : State} {m : MethodId} {below : List Frame} {meth : Method} {c : Code} {dC : Nat → ClassId} {dI : Nat → Nat → Nat} {cI cZ cJ : ClassId} {a d : Nat → Nat} {o b i cells slots Ln : Nat} {xs : Nat → Int32} (hfl : l.flags = flags0) (S : CallFix p m c cL_law 7 s #[Value.ref b] tbG RL) (ht : twS s) (hK : va_K (dC, dI) vcl (vty cI cZ cJ) s) (hX : va_X b Ln xs s s.heap) (hbl : b < s.heap.size) (hLn : Ln ≤ 2560) (hi5 : i + 5 ≤ Ln) (hc1 : cells + 1 ≤ room_1.cells ∧ slots + 6 ≤ room_1.slots)
    (kk : lK p l e s m below meth c dC dI cI cZ cJ a d o b i cells slots) (th n mw nf : Nat) (sg fo L le sc li ba ca st : Nat → Nat) (wa : Nat → Int32) (f : Nat → Int64) (hI : iv n mw nf sg fo L le sc li ba ca) (H : Heap) (locs : List Loc) (hP : va_P (dC, dI) vcl (vX cI cZ a n mw nf sg fo L le sc li ba ca st ++ ([oc o cJ f] ++ vY cI cZ d th n mw nf sg fo L le sc li ba ca wa)) H) (hD : va_D (fun q => s.heap.size ≤ q) (vX cI cZ a n mw nf sg fo L le sc li ba ca st ++ ([oc o cJ f] ++ vY cI cZ d th n mw nf sg fo L le sc li ba ca wa))) (hS : va_S (fun q => s.heap.size ≤ q) s.heap H locs)
    (ls : Array Slot) (hl : lv_has ls 7 [(0, .ref b), (1, .ref (a 0)), (2, .ref (d 0)), (3, .ref o), (4, .int (nI i))]) : W p l e room_1 s m #[Value.ref b] below meth c H locs cells slots (lw_Z below #[Value.ref b] s) (F0 m 156 ls []) := by
  have hc0 : cells ≤ room_1.cells ∧ slots ≤ room_1.slots := ⟨by omega, by omega⟩
  have hn := hI.1.1
  have hm := hI.1.2.1
  have hf := hI.1.2.2
  rcases sp_L (xs (i + 1)) with h1 | ⟨y, hy, hu1⟩
  · refine lv_aload_n S.1 S.2.1 dL_law_156 rfl (lv_at hl 1 rfl) ?_
    refine lv_aload_n S.1 S.2.1 dL_law_157 rfl (lv_at hl 0 rfl) ?_
    refine lv_iload S.1 S.2.1 dL_law_158 (lv_at hl 4 rfl) ?_
    refine lv_iconst (v := (nI 1)) S.1 S.2.1 dL_law_160 (by decide) ?_
    refine n_iadd (x := i) (y := 1) S dL_law_161 ?_
    refine n_sld (j := i + 1) S hX hbl hS (by omega) (by omega) dL_law_162 ?_
    refine lv_aload_n S.1 S.2.1 dL_law_163 rfl (lv_at hl 0 rfl) ?_
    refine lv_iload S.1 S.2.1 dL_law_164 (lv_at hl 4 rfl) ?_
    refine lv_iconst (v := (nI 2)) S.1 S.2.1 dL_law_166 (by decide) ?_
    refine n_iadd (x := i) (y := 2) S dL_law_167 ?_
    refine n_sld (j := i + 2) S hX hbl hS (by omega) (by omega) dL_law_168 ?_
    refine lc_T (As := [.ref (a 0), .int (xs (i + 1)), .int (xs (i + 2))]) (rest := []) S ht (kL_foldE1 l dC dI cI cZ cJ a n mw nf sg fo L le sc li ba ca st hfl (xs (i + 1)) (xs (i + 2)) h1) hK hP hS hw_fold hdL_fold (by decide) hl.1 rfl (Nat.le_of_ble_eq_true rfl) dL_law_169 hc1 (fun H hP hS => ?_)
    refine lv_istore (lv' := [(5, .int (nI 1)), (0, .ref b), (1, .ref (a 0)), (2, .ref (d 0)), (3, .ref o), (4, .int (nI i))]) S.1 S.2.1 dL_law_172 hl (by decide) rfl (fun ls hl => ?_)
    refine lv_aload_n S.1 S.2.1 dL_law_174 rfl (lv_at hl 3 rfl) ?_
    refine lv_aload_n S.1 S.2.1 dL_law_175 rfl (lv_at hl 1 rfl) ?_
    refine lv_iload S.1 S.2.1 dL_law_176 (lv_at hl 5 rfl) ?_
    refine lv_iconst (v := (nI 1)) S.1 S.2.1 dL_law_178 (by decide) ?_
    refine n_iadd (x := i) (y := 1) S dL_law_179 ?_
    refine n_sld (j := i + 1) S hX hbl hS (by omega) (by omega) dL_law_180 ?_
    refine lv_aload_n S.1 S.2.1 dL_law_181 rfl (lv_at hl 1 rfl) ?_
    refine lv_iload S.1 S.2.1 dL_law_182 (lv_at hl 5 rfl) ?_
    refine lv_iconst (v := (nI 2)) S.1 S.2.1 dL_law_184 (by decide) ?_
    refine n_iadd (x := i) (y := 2) S dL_law_185 ?_
    refine n_sld (j := i + 2) S hX hbl hS (by omega) (by omega) dL_law_186 ?_
    refine lc_Y (As := [.int (xs (i + 1)), .int (xs (i + 2))]) (rest := []) S (kX1_foldF l dC dI cI cZ cJ d th n mw nf sg fo L le sc li ba ca wa (xs (i + 1)) (xs (i + 2)) (Or.inl h1)) hK hP hD hS rfl (va_recv hK hP (ci := 1) (q0 := 11) rfl rfl) gL_75 hdX1_fold (by decide) hl.1 rfl (Nat.le_of_ble_eq_true rfl) dL_law_187 hc1 (fun H locs hP hD hS => ?_)
    have hP : va_P (dC, dI) vcl (vX cI cZ a n mw nf sg fo L le sc li ba ca st ++ ([oc o cJ f] ++ vY cI cZ d 1 n mw nf sg fo L le sc li ba ca wa)) H := hP
    have hD : va_D (fun q => s.heap.size ≤ q) (vX cI cZ a n mw nf sg fo L le sc li ba ca st ++ ([oc o cJ f] ++ vY cI cZ d 1 n mw nf sg fo L le sc li ba ca wa)) := hD
    refine lv_aload_n S.1 S.2.1 dL_law_190 rfl (lv_at hl 3 rfl) ?_
    refine rd_callV (C := RX1) (As := []) (rest := []) S (kX1_thrown l dC dI cI cZ cJ d 1 n mw nf sg fo L le sc li ba ca wa) rB_blind (fun U hU hW => ⟨by rw [hU]; exact lsY hP, va_K.moved hW.alike hK⟩) (va_recv hK hP (ci := 1) (q0 := 11) rfl rfl) gL_76 hdX1_thrown (by decide) hl.1 rfl (Nat.le_of_ble_eq_true rfl) dL_law_191 hc1 ?_
    refine lv_iload S.1 S.2.1 dL_law_194 (lv_at hl 0 rfl) ?_
    refine lv_icmp_eq (tgt := 201) S.1 S.2.1 dL_law_196 (by decide) (fun _ => ?_) (fun h => absurd rfl h)
    refine lv_goto (tgt := 1081) S.1 S.2.1 dL_law_201 (by decide) ?_
    exact kk 1 n mw nf sg fo L le sc li ba ca st wa f hI H locs hP hD hS ls (lv_sub hl [1, 2, 3, 4, 5] rfl)
  · rcases sp_L (xs (i + 2)) with h2 | ⟨z, hz, hu2⟩
    · refine lv_aload_n S.1 S.2.1 dL_law_156 rfl (lv_at hl 1 rfl) ?_
      refine lv_aload_n S.1 S.2.1 dL_law_157 rfl (lv_at hl 0 rfl) ?_
      refine lv_iload S.1 S.2.1 dL_law_158 (lv_at hl 4 rfl) ?_
      refine lv_iconst (v := (nI 1)) S.1 S.2.1 dL_law_160 (by decide) ?_
      refine n_iadd (x := i) (y := 1) S dL_law_161 ?_
      refine n_sld (j := i + 1) S hX hbl hS (by omega) (by omega) dL_law_162 ?_
      rw [hu1]
      refine lv_aload_n S.1 S.2.1 dL_law_163 rfl (lv_at hl 0 rfl) ?_
      refine lv_iload S.1 S.2.1 dL_law_164 (lv_at hl 4 rfl) ?_
      refine lv_iconst (v := (nI 2)) S.1 S.2.1 dL_law_166 (by decide) ?_
      refine n_iadd (x := i) (y := 2) S dL_law_167 ?_
      refine n_sld (j := i + 2) S hX hbl hS (by omega) (by omega) dL_law_168 ?_
      refine lc_T (As := [.ref (a 0), .int (nI y), .int (xs (i + 2))]) (rest := []) S ht (kL_foldE2 l dC dI cI cZ cJ a n mw nf sg fo L le sc li ba ca st hfl y (xs (i + 2)) hy h2) hK hP hS hw_fold hdL_fold (by decide) hl.1 rfl (Nat.le_of_ble_eq_true rfl) dL_law_169 hc1 (fun H hP hS => ?_)
      refine lv_istore (lv' := [(5, .int (nI 1)), (0, .ref b), (1, .ref (a 0)), (2, .ref (d 0)), (3, .ref o), (4, .int (nI i))]) S.1 S.2.1 dL_law_172 hl (by decide) rfl (fun ls hl => ?_)
      refine lv_aload_n S.1 S.2.1 dL_law_174 rfl (lv_at hl 3 rfl) ?_
      refine lv_aload_n S.1 S.2.1 dL_law_175 rfl (lv_at hl 1 rfl) ?_
      refine lv_iload S.1 S.2.1 dL_law_176 (lv_at hl 5 rfl) ?_
      refine lv_iconst (v := (nI 1)) S.1 S.2.1 dL_law_178 (by decide) ?_
      refine n_iadd (x := i) (y := 1) S dL_law_179 ?_
      refine n_sld (j := i + 1) S hX hbl hS (by omega) (by omega) dL_law_180 ?_
      rw [hu1]
      refine lv_aload_n S.1 S.2.1 dL_law_181 rfl (lv_at hl 1 rfl) ?_
      refine lv_iload S.1 S.2.1 dL_law_182 (lv_at hl 5 rfl) ?_
      refine lv_iconst (v := (nI 2)) S.1 S.2.1 dL_law_184 (by decide) ?_
      refine n_iadd (x := i) (y := 2) S dL_law_185 ?_
      refine n_sld (j := i + 2) S hX hbl hS (by omega) (by omega) dL_law_186 ?_
      refine lc_Y (As := [.int (nI y), .int (xs (i + 2))]) (rest := []) S (kX1_foldF l dC dI cI cZ cJ d th n mw nf sg fo L le sc li ba ca wa (nI y) (xs (i + 2)) (Or.inr h2)) hK hP hD hS rfl (va_recv hK hP (ci := 1) (q0 := 11) rfl rfl) gL_75 hdX1_fold (by decide) hl.1 rfl (Nat.le_of_ble_eq_true rfl) dL_law_187 hc1 (fun H locs hP hD hS => ?_)
      have hP : va_P (dC, dI) vcl (vX cI cZ a n mw nf sg fo L le sc li ba ca st ++ ([oc o cJ f] ++ vY cI cZ d 1 n mw nf sg fo L le sc li ba ca wa)) H := hP
      have hD : va_D (fun q => s.heap.size ≤ q) (vX cI cZ a n mw nf sg fo L le sc li ba ca st ++ ([oc o cJ f] ++ vY cI cZ d 1 n mw nf sg fo L le sc li ba ca wa)) := hD
      refine lv_aload_n S.1 S.2.1 dL_law_190 rfl (lv_at hl 3 rfl) ?_
      refine rd_callV (C := RX1) (As := []) (rest := []) S (kX1_thrown l dC dI cI cZ cJ d 1 n mw nf sg fo L le sc li ba ca wa) rB_blind (fun U hU hW => ⟨by rw [hU]; exact lsY hP, va_K.moved hW.alike hK⟩) (va_recv hK hP (ci := 1) (q0 := 11) rfl rfl) gL_76 hdX1_thrown (by decide) hl.1 rfl (Nat.le_of_ble_eq_true rfl) dL_law_191 hc1 ?_
      refine lv_iload S.1 S.2.1 dL_law_194 (lv_at hl 0 rfl) ?_
      refine lv_icmp_eq (tgt := 201) S.1 S.2.1 dL_law_196 (by decide) (fun _ => ?_) (fun h => absurd rfl h)
      refine lv_goto (tgt := 1081) S.1 S.2.1 dL_law_201 (by decide) ?_
      exact kk 1 n mw nf sg fo L le sc li ba ca st wa f hI H locs hP hD hS ls (lv_sub hl [1, 2, 3, 4, 5] rfl)
    · refine lv_aload_n S.1 S.2.1 dL_law_156 rfl (lv_at hl 1 rfl) ?_
      refine lv_aload_n S.1 S.2.1 dL_law_157 rfl (lv_at hl 0 rfl) ?_
      refine lv_iload S.1 S.2.1 dL_law_158 (lv_at hl 4 rfl) ?_
      refine lv_iconst (v := (nI 1)) S.1 S.2.1 dL_law_160 (by decide) ?_
      refine n_iadd (x := i) (y := 1) S dL_law_161 ?_
      refine n_sld (j := i + 1) S hX hbl hS (by omega) (by omega) dL_law_162 ?_
      rw [hu1]
      refine lv_aload_n S.1 S.2.1 dL_law_163 rfl (lv_at hl 0 rfl) ?_
      refine lv_iload S.1 S.2.1 dL_law_164 (lv_at hl 4 rfl) ?_
      refine lv_iconst (v := (nI 2)) S.1 S.2.1 dL_law_166 (by decide) ?_
      refine n_iadd (x := i) (y := 2) S dL_law_167 ?_
      refine n_sld (j := i + 2) S hX hbl hS (by omega) (by omega) dL_law_168 ?_
      rw [hu2]
      refine lc_V (As := [.ref (a 0), .int (nI y), .int (nI z)]) (rest := []) S (kL_fold l dC dI cI cZ cJ a n mw nf sg fo L le sc li ba ca st y z hI hy hz) hK hP hD hS (fun _ => rfl) hw_fold hdL_fold (by decide) hl.1 rfl (Nat.le_of_ble_eq_true rfl) dL_law_169 hc0 (fun _ H locs hP hD hS => ?_)
      have hP : va_P (dC, dI) vcl (vX cI cZ a n mw nf sg (va_up fo (y - 97) z) L le sc li ba ca st ++ ([oc o cJ f] ++ vY cI cZ d th n mw nf sg fo L le sc li ba ca wa)) H := hP
      have hD : va_D (fun q => s.heap.size ≤ q) (vX cI cZ a n mw nf sg (va_up fo (y - 97) z) L le sc li ba ca st ++ ([oc o cJ f] ++ vY cI cZ d th n mw nf sg fo L le sc li ba ca wa)) := hD
      refine lv_istore (lv' := [(5, .int (nI 0)), (0, .ref b), (1, .ref (a 0)), (2, .ref (d 0)), (3, .ref o), (4, .int (nI i))]) S.1 S.2.1 dL_law_172 hl (by decide) rfl (fun ls hl => ?_)
      refine lv_aload_n S.1 S.2.1 dL_law_174 rfl (lv_at hl 3 rfl) ?_
      refine lv_aload_n S.1 S.2.1 dL_law_175 rfl (lv_at hl 1 rfl) ?_
      refine lv_iload S.1 S.2.1 dL_law_176 (lv_at hl 5 rfl) ?_
      refine lv_iconst (v := (nI 1)) S.1 S.2.1 dL_law_178 (by decide) ?_
      refine n_iadd (x := i) (y := 1) S dL_law_179 ?_
      refine n_sld (j := i + 1) S hX hbl hS (by omega) (by omega) dL_law_180 ?_
      rw [hu1]
      refine lv_aload_n S.1 S.2.1 dL_law_181 rfl (lv_at hl 1 rfl) ?_
      refine lv_iload S.1 S.2.1 dL_law_182 (lv_at hl 5 rfl) ?_
      refine lv_iconst (v := (nI 2)) S.1 S.2.1 dL_law_184 (by decide) ?_
      refine n_iadd (x := i) (y := 2) S dL_law_185 ?_
      refine n_sld (j := i + 2) S hX hbl hS (by omega) (by omega) dL_law_186 ?_
      rw [hu2]
      refine lc_Y (As := [.int (nI y), .int (nI z)]) (rest := []) S (kX1_fold l dC dI cI cZ cJ d th n mw nf sg fo L le sc li ba ca wa y z hI hy hz) hK hP hD hS rfl (va_recv hK hP (ci := 1) (q0 := 11) rfl rfl) gL_75 hdX1_fold (by decide) hl.1 rfl (Nat.le_of_ble_eq_true rfl) dL_law_187 hc0 (fun H locs hP hD hS => ?_)
      have hP : va_P (dC, dI) vcl (vX cI cZ a n mw nf sg (va_up fo (y - 97) z) L le sc li ba ca st ++ ([oc o cJ f] ++ vY cI cZ d 0 n mw nf sg (va_up fo (y - 97) z) L le sc li ba ca wa)) H := hP
      have hD : va_D (fun q => s.heap.size ≤ q) (vX cI cZ a n mw nf sg (va_up fo (y - 97) z) L le sc li ba ca st ++ ([oc o cJ f] ++ vY cI cZ d 0 n mw nf sg (va_up fo (y - 97) z) L le sc li ba ca wa)) := hD
      refine lv_aload_n S.1 S.2.1 dL_law_190 rfl (lv_at hl 3 rfl) ?_
      refine rd_callV (C := RX1) (As := []) (rest := []) S (kX1_thrown l dC dI cI cZ cJ d 0 n mw nf sg (va_up fo (y - 97) z) L le sc li ba ca wa) rB_blind (fun U hU hW => ⟨by rw [hU]; exact lsY hP, va_K.moved hW.alike hK⟩) (va_recv hK hP (ci := 1) (q0 := 11) rfl rfl) gL_76 hdX1_thrown (by decide) hl.1 rfl (Nat.le_of_ble_eq_true rfl) dL_law_191 hc0 ?_
      refine lv_iload S.1 S.2.1 dL_law_194 (lv_at hl 0 rfl) ?_
      refine lv_icmp_eq (tgt := 201) S.1 S.2.1 dL_law_196 (by decide) (fun _ => ?_) (fun h => absurd rfl h)
      refine lv_goto (tgt := 1081) S.1 S.2.1 dL_law_201 (by decide) ?_
      refine W.widen (k := cells + 1) (n := slots + 6) (by omega) (by omega) ?_
      exact kk 0 n mw nf sg (va_up fo (y - 97) z) L le sc li ba ca st wa f (iv_fold hI hz) H locs hP hD hS ls (lv_sub hl [1, 2, 3, 4, 5] rfl)

set_option maxRecDepth 100000 in
set_option maxHeartbeats 4000000 in
theorem lc_enter {p : Program} {l : Launch} {e : Env} {s : State} {m : MethodId} {below : List Frame} {meth : Method} {c : Code} {dC : Nat → ClassId} {dI : Nat → Nat → Nat} {cI cZ cJ : ClassId} {a d : Nat → Nat} {o b i cells slots Ln : Nat} {xs : Nat → Int32} (hfl : l.flags = flags0) (S : CallFix p m c cL_law 7 s #[Value.ref b] tbG RL) (ht : twS s) (hK : va_K (dC, dI) vcl (vty cI cZ cJ) s) (hX : va_X b Ln xs s s.heap) (hbl : b < s.heap.size) (hLn : Ln ≤ 2560) (hi5 : i + 5 ≤ Ln) (hc1 : cells + 1 ≤ room_1.cells ∧ slots + 6 ≤ room_1.slots)
    (kk : lK p l e s m below meth c dC dI cI cZ cJ a d o b i cells slots) (th n mw nf : Nat) (sg fo L le sc li ba ca st : Nat → Nat) (wa : Nat → Int32) (f : Nat → Int64) (hI : iv n mw nf sg fo L le sc li ba ca) (H : Heap) (locs : List Loc) (hP : va_P (dC, dI) vcl (vX cI cZ a n mw nf sg fo L le sc li ba ca st ++ ([oc o cJ f] ++ vY cI cZ d th n mw nf sg fo L le sc li ba ca wa)) H) (hD : va_D (fun q => s.heap.size ≤ q) (vX cI cZ a n mw nf sg fo L le sc li ba ca st ++ ([oc o cJ f] ++ vY cI cZ d th n mw nf sg fo L le sc li ba ca wa))) (hS : va_S (fun q => s.heap.size ≤ q) s.heap H locs)
    (ls : Array Slot) (hl : lv_has ls 7 [(0, .ref b), (1, .ref (a 0)), (2, .ref (d 0)), (3, .ref o), (4, .int (nI i))]) : W p l e room_1 s m #[Value.ref b] below meth c H locs cells slots (lw_Z below #[Value.ref b] s) (F0 m 204 ls []) := by
  have hc0 : cells ≤ room_1.cells ∧ slots ≤ room_1.slots := ⟨by omega, by omega⟩
  have hn := hI.1.1
  have hm := hI.1.2.1
  have hf := hI.1.2.2
  rcases sp_Li (xs (i + 1)) with h1 | ⟨t, ht4, hu1⟩
  · refine lv_aload_n S.1 S.2.1 dL_law_204 rfl (lv_at hl 1 rfl) ?_
    refine lv_aload_n S.1 S.2.1 dL_law_205 rfl (lv_at hl 0 rfl) ?_
    refine lv_iload S.1 S.2.1 dL_law_206 (lv_at hl 4 rfl) ?_
    refine lv_iconst (v := (nI 1)) S.1 S.2.1 dL_law_208 (by decide) ?_
    refine n_iadd (x := i) (y := 1) S dL_law_209 ?_
    refine n_sld (j := i + 1) S hX hbl hS (by omega) (by omega) dL_law_210 ?_
    refine lv_aload_n S.1 S.2.1 dL_law_211 rfl (lv_at hl 0 rfl) ?_
    refine lv_iload S.1 S.2.1 dL_law_212 (lv_at hl 4 rfl) ?_
    refine lv_iconst (v := (nI 2)) S.1 S.2.1 dL_law_214 (by decide) ?_
    refine n_iadd (x := i) (y := 2) S dL_law_215 ?_
    refine n_sld (j := i + 2) S hX hbl hS (by omega) (by omega) dL_law_216 ?_
    refine lv_aload_n S.1 S.2.1 dL_law_217 rfl (lv_at hl 3 rfl) ?_
    refine lc_T (As := [.ref (a 0), .int (xs (i + 1)), .int (xs (i + 2)), .ref o]) (rest := []) S ht (kL_enterE l dC dI cI cZ cJ a n mw nf sg fo L le sc li ba ca st o f hfl (xs (i + 1)) (xs (i + 2)) h1) hK hP hS hw_enter hdL_enter (by decide) hl.1 rfl (Nat.le_of_ble_eq_true rfl) dL_law_218 hc1 (fun H hP hS => ?_)
    refine lv_istore (lv' := [(5, .int (nI 1)), (0, .ref b), (1, .ref (a 0)), (2, .ref (d 0)), (3, .ref o), (4, .int (nI i))]) S.1 S.2.1 dL_law_221 hl (by decide) rfl (fun ls hl => ?_)
    refine lv_aload_n S.1 S.2.1 dL_law_223 rfl (lv_at hl 3 rfl) ?_
    refine lv_aload_n S.1 S.2.1 dL_law_224 rfl (lv_at hl 1 rfl) ?_
    refine lv_iload S.1 S.2.1 dL_law_225 (lv_at hl 5 rfl) ?_
    refine lv_iconst (v := (nI 1)) S.1 S.2.1 dL_law_227 (by decide) ?_
    refine n_iadd (x := i) (y := 1) S dL_law_228 ?_
    refine n_sld (j := i + 1) S hX hbl hS (by omega) (by omega) dL_law_229 ?_
    refine lv_aload_n S.1 S.2.1 dL_law_230 rfl (lv_at hl 1 rfl) ?_
    refine lv_iload S.1 S.2.1 dL_law_231 (lv_at hl 5 rfl) ?_
    refine lv_iconst (v := (nI 2)) S.1 S.2.1 dL_law_233 (by decide) ?_
    refine n_iadd (x := i) (y := 2) S dL_law_234 ?_
    refine n_sld (j := i + 2) S hX hbl hS (by omega) (by omega) dL_law_235 ?_
    refine lc_Y (As := [.int (xs (i + 1)), .int (xs (i + 2))]) (rest := []) S (kX1_enterF l dC dI cI cZ cJ d th n mw nf sg fo L le sc li ba ca wa (xs (i + 1)) (xs (i + 2)) h1) hK hP hD hS rfl (va_recv hK hP (ci := 1) (q0 := 11) rfl rfl) gL_83 hdX1_enter (by decide) hl.1 rfl (Nat.le_of_ble_eq_true rfl) dL_law_236 hc1 (fun H locs hP hD hS => ?_)
    have hP : va_P (dC, dI) vcl (vX cI cZ a n mw nf sg fo L le sc li ba ca st ++ ([oc o cJ f] ++ vY cI cZ d 1 n mw nf sg fo L le sc li ba ca wa)) H := hP
    have hD : va_D (fun q => s.heap.size ≤ q) (vX cI cZ a n mw nf sg fo L le sc li ba ca st ++ ([oc o cJ f] ++ vY cI cZ d 1 n mw nf sg fo L le sc li ba ca wa)) := hD
    refine lv_istore (lv' := [(6, .int (nI 0)), (5, .int (nI 1)), (0, .ref b), (1, .ref (a 0)), (2, .ref (d 0)), (3, .ref o), (4, .int (nI i))]) S.1 S.2.1 dL_law_239 hl (by decide) rfl (fun ls hl => ?_)
    refine lv_aload_n S.1 S.2.1 dL_law_241 rfl (lv_at hl 4 rfl) ?_
    refine rd_callV (C := RX1) (As := []) (rest := []) S (kX1_thrown l dC dI cI cZ cJ d 1 n mw nf sg fo L le sc li ba ca wa) rB_blind (fun U hU hW => ⟨by rw [hU]; exact lsY hP, va_K.moved hW.alike hK⟩) (va_recv hK hP (ci := 1) (q0 := 11) rfl rfl) gL_76 hdX1_thrown (by decide) hl.1 rfl (Nat.le_of_ble_eq_true rfl) dL_law_242 hc1 ?_
    refine lv_iload S.1 S.2.1 dL_law_245 (lv_at hl 1 rfl) ?_
    refine lv_icmp_eq (tgt := 252) S.1 S.2.1 dL_law_247 (by decide) (fun _ => ?_) (fun h => absurd rfl h)
    refine lv_iload S.1 S.2.1 dL_law_252 (lv_at hl 1 rfl) ?_
    refine lv_if_ne (tgt := 269) S.1 S.2.1 dL_law_254 (by decide) (fun _ => ?_) (fun h => absurd h (by decide))
    refine lv_goto (tgt := 1081) S.1 S.2.1 dL_law_269 (by decide) ?_
    exact kk 1 n mw nf sg fo L le sc li ba ca st wa f hI H locs hP hD hS ls (lv_sub hl [2, 3, 4, 5, 6] rfl)
  · rcases sp_enter (n := n) (sg := sg) (fo := fo) (L := L) (le := le) hm (xs (i + 2)) with he | ⟨s0, hs, hor, hu2⟩
    · refine lv_aload_n S.1 S.2.1 dL_law_204 rfl (lv_at hl 1 rfl) ?_
      refine lv_aload_n S.1 S.2.1 dL_law_205 rfl (lv_at hl 0 rfl) ?_
      refine lv_iload S.1 S.2.1 dL_law_206 (lv_at hl 4 rfl) ?_
      refine lv_iconst (v := (nI 1)) S.1 S.2.1 dL_law_208 (by decide) ?_
      refine n_iadd (x := i) (y := 1) S dL_law_209 ?_
      refine n_sld (j := i + 1) S hX hbl hS (by omega) (by omega) dL_law_210 ?_
      rw [hu1]
      refine lv_aload_n S.1 S.2.1 dL_law_211 rfl (lv_at hl 0 rfl) ?_
      refine lv_iload S.1 S.2.1 dL_law_212 (lv_at hl 4 rfl) ?_
      refine lv_iconst (v := (nI 2)) S.1 S.2.1 dL_law_214 (by decide) ?_
      refine n_iadd (x := i) (y := 2) S dL_law_215 ?_
      refine n_sld (j := i + 2) S hX hbl hS (by omega) (by omega) dL_law_216 ?_
      refine lv_aload_n S.1 S.2.1 dL_law_217 rfl (lv_at hl 3 rfl) ?_
      refine lc_W (As := [.ref (a 0), .int (nI t), .int (xs (i + 2)), .ref o]) (rest := []) S (kL_enterN l dC dI cI cZ cJ a n mw nf sg fo L le sc li ba ca st o f t (xs (i + 2)) hI ht4 he) hK hP hD hS (fun _ => rfl) hw_enter hdL_enter (by decide) hl.1 rfl (Nat.le_of_ble_eq_true rfl) dL_law_218 hc0 (fun _ H locs hP hD hS => ?_)
      have hP : va_P (dC, dI) vcl ((vX cI cZ a n mw nf sg fo L le sc li ba ca st ++ [oc o cJ (vp_updL f 0 (Int32.toInt64 ((-1 : Int32))))]) ++ vY cI cZ d th n mw nf sg fo L le sc li ba ca wa) H := hP
      have hD : va_D (fun q => s.heap.size ≤ q) ((vX cI cZ a n mw nf sg fo L le sc li ba ca st ++ [oc o cJ (vp_updL f 0 (Int32.toInt64 ((-1 : Int32))))]) ++ vY cI cZ d th n mw nf sg fo L le sc li ba ca wa) := hD
      rw [List.append_assoc] at hP hD
      refine lv_istore (lv' := [(5, .int (nI 0)), (0, .ref b), (1, .ref (a 0)), (2, .ref (d 0)), (3, .ref o), (4, .int (nI i))]) S.1 S.2.1 dL_law_221 hl (by decide) rfl (fun ls hl => ?_)
      refine lv_aload_n S.1 S.2.1 dL_law_223 rfl (lv_at hl 3 rfl) ?_
      refine lv_aload_n S.1 S.2.1 dL_law_224 rfl (lv_at hl 1 rfl) ?_
      refine lv_iload S.1 S.2.1 dL_law_225 (lv_at hl 5 rfl) ?_
      refine lv_iconst (v := (nI 1)) S.1 S.2.1 dL_law_227 (by decide) ?_
      refine n_iadd (x := i) (y := 1) S dL_law_228 ?_
      refine n_sld (j := i + 1) S hX hbl hS (by omega) (by omega) dL_law_229 ?_
      rw [hu1]
      refine lv_aload_n S.1 S.2.1 dL_law_230 rfl (lv_at hl 1 rfl) ?_
      refine lv_iload S.1 S.2.1 dL_law_231 (lv_at hl 5 rfl) ?_
      refine lv_iconst (v := (nI 2)) S.1 S.2.1 dL_law_233 (by decide) ?_
      refine n_iadd (x := i) (y := 2) S dL_law_234 ?_
      refine n_sld (j := i + 2) S hX hbl hS (by omega) (by omega) dL_law_235 ?_
      refine lc_Y (As := [.int (nI t), .int (xs (i + 2))]) (rest := []) S (kX1_enterN l dC dI cI cZ cJ d th n mw nf sg fo L le sc li ba ca wa t (xs (i + 2)) hI ht4 he) hK hP hD hS rfl (va_recv hK hP (ci := 1) (q0 := 11) rfl rfl) gL_83 hdX1_enter (by decide) hl.1 rfl (Nat.le_of_ble_eq_true rfl) dL_law_236 hc0 (fun H locs hP hD hS => ?_)
      have hP : va_P (dC, dI) vcl (vX cI cZ a n mw nf sg fo L le sc li ba ca st ++ ([oc o cJ (vp_updL f 0 (Int32.toInt64 ((-1 : Int32))))] ++ vY cI cZ d 0 n mw nf sg fo L le sc li ba ca wa)) H := hP
      have hD : va_D (fun q => s.heap.size ≤ q) (vX cI cZ a n mw nf sg fo L le sc li ba ca st ++ ([oc o cJ (vp_updL f 0 (Int32.toInt64 ((-1 : Int32))))] ++ vY cI cZ d 0 n mw nf sg fo L le sc li ba ca wa)) := hD
      refine lv_istore (lv' := [(6, .int ((-1 : Int32))), (5, .int (nI 0)), (0, .ref b), (1, .ref (a 0)), (2, .ref (d 0)), (3, .ref o), (4, .int (nI i))]) S.1 S.2.1 dL_law_239 hl (by decide) rfl (fun ls hl => ?_)
      refine lv_aload_n S.1 S.2.1 dL_law_241 rfl (lv_at hl 4 rfl) ?_
      refine rd_callV (C := RX1) (As := []) (rest := []) S (kX1_thrown l dC dI cI cZ cJ d 0 n mw nf sg fo L le sc li ba ca wa) rB_blind (fun U hU hW => ⟨by rw [hU]; exact lsY hP, va_K.moved hW.alike hK⟩) (va_recv hK hP (ci := 1) (q0 := 11) rfl rfl) gL_76 hdX1_thrown (by decide) hl.1 rfl (Nat.le_of_ble_eq_true rfl) dL_law_242 hc0 ?_
      refine lv_iload S.1 S.2.1 dL_law_245 (lv_at hl 1 rfl) ?_
      refine lv_icmp_eq (tgt := 252) S.1 S.2.1 dL_law_247 (by decide) (fun _ => ?_) (fun h => absurd rfl h)
      refine lv_iload S.1 S.2.1 dL_law_252 (lv_at hl 1 rfl) ?_
      refine lv_if_ne (tgt := 269) S.1 S.2.1 dL_law_254 (by decide) (fun h => absurd (by decide) h) (fun _ => ?_)
      refine lv_aload_n S.1 S.2.1 dL_law_257 rfl (lv_at hl 5 rfl) ?_
      refine lv_iconst (v := (nI 0)) S.1 S.2.1 dL_law_258 (by decide) ?_
      refine n_lald S hK hP 10 2 rfl rfl dL_law_259 ?_
      refine lv_iload S.1 S.2.1 dL_law_260 (lv_at hl 0 rfl) ?_
      refine lv_i2l (v := Int32.toInt64 ((-1 : Int32))) S.1 S.2.1 dL_law_262 rfl ?_
      refine n_lcmp S dL_law_263 ?_
      refine lv_if_eq (tgt := 269) S.1 S.2.1 dL_law_264 (by decide) (fun _ => ?_) (fun h => absurd rfl h)
      refine lv_goto (tgt := 1081) S.1 S.2.1 dL_law_269 (by decide) ?_
      refine W.widen (k := cells + 1) (n := slots + 6) (by omega) (by omega) ?_
      exact kk 0 n mw nf sg fo L le sc li ba ca st wa (vp_updL f 0 (Int32.toInt64 ((-1 : Int32)))) hI H locs hP hD hS ls (lv_sub hl [2, 3, 4, 5, 6] rfl)
    · rcases hor with ⟨w, hw1, hw2, hw3⟩ | ⟨hno, hmw⟩
      · refine lv_aload_n S.1 S.2.1 dL_law_204 rfl (lv_at hl 1 rfl) ?_
        refine lv_aload_n S.1 S.2.1 dL_law_205 rfl (lv_at hl 0 rfl) ?_
        refine lv_iload S.1 S.2.1 dL_law_206 (lv_at hl 4 rfl) ?_
        refine lv_iconst (v := (nI 1)) S.1 S.2.1 dL_law_208 (by decide) ?_
        refine n_iadd (x := i) (y := 1) S dL_law_209 ?_
        refine n_sld (j := i + 1) S hX hbl hS (by omega) (by omega) dL_law_210 ?_
        rw [hu1]
        refine lv_aload_n S.1 S.2.1 dL_law_211 rfl (lv_at hl 0 rfl) ?_
        refine lv_iload S.1 S.2.1 dL_law_212 (lv_at hl 4 rfl) ?_
        refine lv_iconst (v := (nI 2)) S.1 S.2.1 dL_law_214 (by decide) ?_
        refine n_iadd (x := i) (y := 2) S dL_law_215 ?_
        refine n_sld (j := i + 2) S hX hbl hS (by omega) (by omega) dL_law_216 ?_
        rw [hu2]
        refine lv_aload_n S.1 S.2.1 dL_law_217 rfl (lv_at hl 3 rfl) ?_
        refine lc_W (As := [.ref (a 0), .int (nI t), .int (nI s0), .ref o]) (rest := []) S (kL_enterO l dC dI cI cZ cJ a n mw nf sg fo L le sc li ba ca st o f t s0 w hI ht4 hs.1 hs.2.1 hs.2.2 hw1 hw2 hw3) hK hP hD hS (fun _ => rfl) hw_enter hdL_enter (by decide) hl.1 rfl (Nat.le_of_ble_eq_true rfl) dL_law_218 hc0 (fun _ H locs hP hD hS => ?_)
        have hP : va_P (dC, dI) vcl ((vX cI cZ a n mw nf sg fo L le (va_up sc w (max (sc w) s0)) (va_up li w (li w ||| 2 ^ t)) ba ca st ++ [oc o cJ (vp_updL f 0 (Int32.toInt64 (nI w)))]) ++ vY cI cZ d th n mw nf sg fo L le sc li ba ca wa) H := hP
        have hD : va_D (fun q => s.heap.size ≤ q) ((vX cI cZ a n mw nf sg fo L le (va_up sc w (max (sc w) s0)) (va_up li w (li w ||| 2 ^ t)) ba ca st ++ [oc o cJ (vp_updL f 0 (Int32.toInt64 (nI w)))]) ++ vY cI cZ d th n mw nf sg fo L le sc li ba ca wa) := hD
        rw [List.append_assoc] at hP hD
        refine lv_istore (lv' := [(5, .int (nI 0)), (0, .ref b), (1, .ref (a 0)), (2, .ref (d 0)), (3, .ref o), (4, .int (nI i))]) S.1 S.2.1 dL_law_221 hl (by decide) rfl (fun ls hl => ?_)
        refine lv_aload_n S.1 S.2.1 dL_law_223 rfl (lv_at hl 3 rfl) ?_
        refine lv_aload_n S.1 S.2.1 dL_law_224 rfl (lv_at hl 1 rfl) ?_
        refine lv_iload S.1 S.2.1 dL_law_225 (lv_at hl 5 rfl) ?_
        refine lv_iconst (v := (nI 1)) S.1 S.2.1 dL_law_227 (by decide) ?_
        refine n_iadd (x := i) (y := 1) S dL_law_228 ?_
        refine n_sld (j := i + 1) S hX hbl hS (by omega) (by omega) dL_law_229 ?_
        rw [hu1]
        refine lv_aload_n S.1 S.2.1 dL_law_230 rfl (lv_at hl 1 rfl) ?_
        refine lv_iload S.1 S.2.1 dL_law_231 (lv_at hl 5 rfl) ?_
        refine lv_iconst (v := (nI 2)) S.1 S.2.1 dL_law_233 (by decide) ?_
        refine n_iadd (x := i) (y := 2) S dL_law_234 ?_
        refine n_sld (j := i + 2) S hX hbl hS (by omega) (by omega) dL_law_235 ?_
        rw [hu2]
        refine lc_Y (As := [.int (nI t), .int (nI s0)]) (rest := []) S (kX1_enterO l dC dI cI cZ cJ d th n mw nf sg fo L le sc li ba ca wa t s0 w hI ht4 hs.1 hs.2.1 hs.2.2 hw1 hw2 hw3) hK hP hD hS rfl (va_recv hK hP (ci := 1) (q0 := 11) rfl rfl) gL_83 hdX1_enter (by decide) hl.1 rfl (Nat.le_of_ble_eq_true rfl) dL_law_236 hc0 (fun H locs hP hD hS => ?_)
        have hP : va_P (dC, dI) vcl (vX cI cZ a n mw nf sg fo L le (va_up sc w (max (sc w) s0)) (va_up li w (li w ||| 2 ^ t)) ba ca st ++ ([oc o cJ (vp_updL f 0 (Int32.toInt64 (nI w)))] ++ vY cI cZ d 0 n mw nf sg fo L le (va_up sc w (max (sc w) s0)) (va_up li w (li w ||| 2 ^ t)) ba ca wa)) H := hP
        have hD : va_D (fun q => s.heap.size ≤ q) (vX cI cZ a n mw nf sg fo L le (va_up sc w (max (sc w) s0)) (va_up li w (li w ||| 2 ^ t)) ba ca st ++ ([oc o cJ (vp_updL f 0 (Int32.toInt64 (nI w)))] ++ vY cI cZ d 0 n mw nf sg fo L le (va_up sc w (max (sc w) s0)) (va_up li w (li w ||| 2 ^ t)) ba ca wa)) := hD
        refine lv_istore (lv' := [(6, .int (nI w)), (5, .int (nI 0)), (0, .ref b), (1, .ref (a 0)), (2, .ref (d 0)), (3, .ref o), (4, .int (nI i))]) S.1 S.2.1 dL_law_239 hl (by decide) rfl (fun ls hl => ?_)
        refine lv_aload_n S.1 S.2.1 dL_law_241 rfl (lv_at hl 4 rfl) ?_
        refine rd_callV (C := RX1) (As := []) (rest := []) S (kX1_thrown l dC dI cI cZ cJ d 0 n mw nf sg fo L le (va_up sc w (max (sc w) s0)) (va_up li w (li w ||| 2 ^ t)) ba ca wa) rB_blind (fun U hU hW => ⟨by rw [hU]; exact lsY hP, va_K.moved hW.alike hK⟩) (va_recv hK hP (ci := 1) (q0 := 11) rfl rfl) gL_76 hdX1_thrown (by decide) hl.1 rfl (Nat.le_of_ble_eq_true rfl) dL_law_242 hc0 ?_
        refine lv_iload S.1 S.2.1 dL_law_245 (lv_at hl 1 rfl) ?_
        refine lv_icmp_eq (tgt := 252) S.1 S.2.1 dL_law_247 (by decide) (fun _ => ?_) (fun h => absurd rfl h)
        refine lv_iload S.1 S.2.1 dL_law_252 (lv_at hl 1 rfl) ?_
        refine lv_if_ne (tgt := 269) S.1 S.2.1 dL_law_254 (by decide) (fun h => absurd (by decide) h) (fun _ => ?_)
        refine lv_aload_n S.1 S.2.1 dL_law_257 rfl (lv_at hl 5 rfl) ?_
        refine lv_iconst (v := (nI 0)) S.1 S.2.1 dL_law_258 (by decide) ?_
        refine n_lald S hK hP 10 2 rfl rfl dL_law_259 ?_
        refine lv_iload S.1 S.2.1 dL_law_260 (lv_at hl 0 rfl) ?_
        refine lv_i2l (v := Int32.toInt64 (nI w)) S.1 S.2.1 dL_law_262 rfl ?_
        refine n_lcmp S dL_law_263 ?_
        refine lv_if_eq (tgt := 269) S.1 S.2.1 dL_law_264 (by decide) (fun _ => ?_) (fun h => absurd rfl h)
        refine lv_goto (tgt := 1081) S.1 S.2.1 dL_law_269 (by decide) ?_
        refine W.widen (k := cells + 1) (n := slots + 6) (by omega) (by omega) ?_
        exact kk 0 n mw nf sg fo L le (va_up sc w (max (sc w) s0)) (va_up li w (li w ||| 2 ^ t)) ba ca st wa (vp_updL f 0 (Int32.toInt64 (nI w))) (iv_enO hI ht4 hs.1 hw1) H locs hP hD hS ls (lv_sub hl [2, 3, 4, 5, 6] rfl)
      · refine lv_aload_n S.1 S.2.1 dL_law_204 rfl (lv_at hl 1 rfl) ?_
        refine lv_aload_n S.1 S.2.1 dL_law_205 rfl (lv_at hl 0 rfl) ?_
        refine lv_iload S.1 S.2.1 dL_law_206 (lv_at hl 4 rfl) ?_
        refine lv_iconst (v := (nI 1)) S.1 S.2.1 dL_law_208 (by decide) ?_
        refine n_iadd (x := i) (y := 1) S dL_law_209 ?_
        refine n_sld (j := i + 1) S hX hbl hS (by omega) (by omega) dL_law_210 ?_
        rw [hu1]
        refine lv_aload_n S.1 S.2.1 dL_law_211 rfl (lv_at hl 0 rfl) ?_
        refine lv_iload S.1 S.2.1 dL_law_212 (lv_at hl 4 rfl) ?_
        refine lv_iconst (v := (nI 2)) S.1 S.2.1 dL_law_214 (by decide) ?_
        refine n_iadd (x := i) (y := 2) S dL_law_215 ?_
        refine n_sld (j := i + 2) S hX hbl hS (by omega) (by omega) dL_law_216 ?_
        rw [hu2]
        refine lv_aload_n S.1 S.2.1 dL_law_217 rfl (lv_at hl 3 rfl) ?_
        refine lc_W (As := [.ref (a 0), .int (nI t), .int (nI s0), .ref o]) (rest := []) S (kL_enterT l dC dI cI cZ cJ a n mw nf sg fo L le sc li ba ca st o f t s0 hI ht4 hs.1 hs.2.1 hs.2.2 hno hmw) hK hP hD hS (fun _ => rfl) hw_enter hdL_enter (by decide) hl.1 rfl (Nat.le_of_ble_eq_true rfl) dL_law_218 hc0 (fun _ H locs hP hD hS => ?_)
        have hP : va_P (dC, dI) vcl ((vX cI cZ a n (mw + 1) nf sg fo (adL n mw n sg fo L) (va_up le mw n) (va_up sc mw s0) (va_up li mw (2 ^ t)) ba ca st ++ [oc o cJ (vp_updL f 0 (Int32.toInt64 (nI mw)))]) ++ vY cI cZ d th n mw nf sg fo L le sc li ba ca wa) H := hP
        have hD : va_D (fun q => s.heap.size ≤ q) ((vX cI cZ a n (mw + 1) nf sg fo (adL n mw n sg fo L) (va_up le mw n) (va_up sc mw s0) (va_up li mw (2 ^ t)) ba ca st ++ [oc o cJ (vp_updL f 0 (Int32.toInt64 (nI mw)))]) ++ vY cI cZ d th n mw nf sg fo L le sc li ba ca wa) := hD
        rw [List.append_assoc] at hP hD
        refine lv_istore (lv' := [(5, .int (nI 0)), (0, .ref b), (1, .ref (a 0)), (2, .ref (d 0)), (3, .ref o), (4, .int (nI i))]) S.1 S.2.1 dL_law_221 hl (by decide) rfl (fun ls hl => ?_)
        refine lv_aload_n S.1 S.2.1 dL_law_223 rfl (lv_at hl 3 rfl) ?_
        refine lv_aload_n S.1 S.2.1 dL_law_224 rfl (lv_at hl 1 rfl) ?_
        refine lv_iload S.1 S.2.1 dL_law_225 (lv_at hl 5 rfl) ?_
        refine lv_iconst (v := (nI 1)) S.1 S.2.1 dL_law_227 (by decide) ?_
        refine n_iadd (x := i) (y := 1) S dL_law_228 ?_
        refine n_sld (j := i + 1) S hX hbl hS (by omega) (by omega) dL_law_229 ?_
        rw [hu1]
        refine lv_aload_n S.1 S.2.1 dL_law_230 rfl (lv_at hl 1 rfl) ?_
        refine lv_iload S.1 S.2.1 dL_law_231 (lv_at hl 5 rfl) ?_
        refine lv_iconst (v := (nI 2)) S.1 S.2.1 dL_law_233 (by decide) ?_
        refine n_iadd (x := i) (y := 2) S dL_law_234 ?_
        refine n_sld (j := i + 2) S hX hbl hS (by omega) (by omega) dL_law_235 ?_
        rw [hu2]
        refine lc_Y (As := [.int (nI t), .int (nI s0)]) (rest := []) S (kX1_enterT l dC dI cI cZ cJ d th n mw nf sg fo L le sc li ba ca wa t s0 hI ht4 hs.1 hs.2.1 hs.2.2 hno hmw) hK hP hD hS rfl (va_recv hK hP (ci := 1) (q0 := 11) rfl rfl) gL_83 hdX1_enter (by decide) hl.1 rfl (Nat.le_of_ble_eq_true rfl) dL_law_236 hc0 (fun H locs hP hD hS => ?_)
        have hP : va_P (dC, dI) vcl (vX cI cZ a n (mw + 1) nf sg fo (adL n mw n sg fo L) (va_up le mw n) (va_up sc mw s0) (va_up li mw (2 ^ t)) ba ca st ++ ([oc o cJ (vp_updL f 0 (Int32.toInt64 (nI mw)))] ++ vY cI cZ d 0 n (mw + 1) nf sg fo (adL n mw n sg fo L) (va_up le mw n) (va_up sc mw s0) (va_up li mw (2 ^ t)) ba ca wa)) H := hP
        have hD : va_D (fun q => s.heap.size ≤ q) (vX cI cZ a n (mw + 1) nf sg fo (adL n mw n sg fo L) (va_up le mw n) (va_up sc mw s0) (va_up li mw (2 ^ t)) ba ca st ++ ([oc o cJ (vp_updL f 0 (Int32.toInt64 (nI mw)))] ++ vY cI cZ d 0 n (mw + 1) nf sg fo (adL n mw n sg fo L) (va_up le mw n) (va_up sc mw s0) (va_up li mw (2 ^ t)) ba ca wa)) := hD
        refine lv_istore (lv' := [(6, .int (nI mw)), (5, .int (nI 0)), (0, .ref b), (1, .ref (a 0)), (2, .ref (d 0)), (3, .ref o), (4, .int (nI i))]) S.1 S.2.1 dL_law_239 hl (by decide) rfl (fun ls hl => ?_)
        refine lv_aload_n S.1 S.2.1 dL_law_241 rfl (lv_at hl 4 rfl) ?_
        refine rd_callV (C := RX1) (As := []) (rest := []) S (kX1_thrown l dC dI cI cZ cJ d 0 n (mw + 1) nf sg fo (adL n mw n sg fo L) (va_up le mw n) (va_up sc mw s0) (va_up li mw (2 ^ t)) ba ca wa) rB_blind (fun U hU hW => ⟨by rw [hU]; exact lsY hP, va_K.moved hW.alike hK⟩) (va_recv hK hP (ci := 1) (q0 := 11) rfl rfl) gL_76 hdX1_thrown (by decide) hl.1 rfl (Nat.le_of_ble_eq_true rfl) dL_law_242 hc0 ?_
        refine lv_iload S.1 S.2.1 dL_law_245 (lv_at hl 1 rfl) ?_
        refine lv_icmp_eq (tgt := 252) S.1 S.2.1 dL_law_247 (by decide) (fun _ => ?_) (fun h => absurd rfl h)
        refine lv_iload S.1 S.2.1 dL_law_252 (lv_at hl 1 rfl) ?_
        refine lv_if_ne (tgt := 269) S.1 S.2.1 dL_law_254 (by decide) (fun h => absurd (by decide) h) (fun _ => ?_)
        refine lv_aload_n S.1 S.2.1 dL_law_257 rfl (lv_at hl 5 rfl) ?_
        refine lv_iconst (v := (nI 0)) S.1 S.2.1 dL_law_258 (by decide) ?_
        refine n_lald S hK hP 10 2 rfl rfl dL_law_259 ?_
        refine lv_iload S.1 S.2.1 dL_law_260 (lv_at hl 0 rfl) ?_
        refine lv_i2l (v := Int32.toInt64 (nI mw)) S.1 S.2.1 dL_law_262 rfl ?_
        refine n_lcmp S dL_law_263 ?_
        refine lv_if_eq (tgt := 269) S.1 S.2.1 dL_law_264 (by decide) (fun _ => ?_) (fun h => absurd rfl h)
        refine lv_goto (tgt := 1081) S.1 S.2.1 dL_law_269 (by decide) ?_
        refine W.widen (k := cells + 1) (n := slots + 6) (by omega) (by omega) ?_
        exact kk 0 n (mw + 1) nf sg fo (adL n mw n sg fo L) (va_up le mw n) (va_up sc mw s0) (va_up li mw (2 ^ t)) ba ca st wa (vp_updL f 0 (Int32.toInt64 (nI mw))) (iv_enT hI ht4 hs.1 hs.2.1 hs.2.2 hmw) H locs hP hD hS ls (lv_sub hl [2, 3, 4, 5, 6] rfl)

set_option maxRecDepth 100000 in
set_option maxHeartbeats 4000000 in
theorem lc_bar {p : Program} {l : Launch} {e : Env} {s : State} {m : MethodId} {below : List Frame} {meth : Method} {c : Code} {dC : Nat → ClassId} {dI : Nat → Nat → Nat} {cI cZ cJ : ClassId} {a d : Nat → Nat} {o b i cells slots Ln : Nat} {xs : Nat → Int32} (hfl : l.flags = flags0) (S : CallFix p m c cL_law 7 s #[Value.ref b] tbG RL) (ht : twS s) (hK : va_K (dC, dI) vcl (vty cI cZ cJ) s) (hX : va_X b Ln xs s s.heap) (hbl : b < s.heap.size) (hLn : Ln ≤ 2560) (hi5 : i + 5 ≤ Ln) (hc1 : cells + 1 ≤ room_1.cells ∧ slots + 6 ≤ room_1.slots)
    (kk : lK p l e s m below meth c dC dI cI cZ cJ a d o b i cells slots) (th n mw nf : Nat) (sg fo L le sc li ba ca st : Nat → Nat) (wa : Nat → Int32) (f : Nat → Int64) (hI : iv n mw nf sg fo L le sc li ba ca) (H : Heap) (locs : List Loc) (hP : va_P (dC, dI) vcl (vX cI cZ a n mw nf sg fo L le sc li ba ca st ++ ([oc o cJ f] ++ vY cI cZ d th n mw nf sg fo L le sc li ba ca wa)) H) (hD : va_D (fun q => s.heap.size ≤ q) (vX cI cZ a n mw nf sg fo L le sc li ba ca st ++ ([oc o cJ f] ++ vY cI cZ d th n mw nf sg fo L le sc li ba ca wa))) (hS : va_S (fun q => s.heap.size ≤ q) s.heap H locs)
    (ls : Array Slot) (hl : lv_has ls 7 [(0, .ref b), (1, .ref (a 0)), (2, .ref (d 0)), (3, .ref o), (4, .int (nI i))]) : W p l e room_1 s m #[Value.ref b] below meth c H locs cells slots (lw_Z below #[Value.ref b] s) (F0 m 272 ls []) := by
  have hc0 : cells ≤ room_1.cells ∧ slots ≤ room_1.slots := ⟨by omega, by omega⟩
  have hn := hI.1.1
  have hm := hI.1.2.1
  have hf := hI.1.2.2
  rcases Classical.em (xs (i + 1) = 0) with hb0 | hb0
  · refine lv_aload_n S.1 S.2.1 dL_law_272 rfl (lv_at hl 1 rfl) ?_
    refine lv_aload_n S.1 S.2.1 dL_law_273 rfl (lv_at hl 0 rfl) ?_
    refine lv_iload S.1 S.2.1 dL_law_274 (lv_at hl 4 rfl) ?_
    refine lv_iconst (v := (nI 1)) S.1 S.2.1 dL_law_276 (by decide) ?_
    refine n_iadd (x := i) (y := 1) S dL_law_277 ?_
    refine n_sld (j := i + 1) S hX hbl hS (by omega) (by omega) dL_law_278 ?_
    refine lv_if_eq (tgt := 286) S.1 S.2.1 dL_law_279 (by decide) (fun _ => ?_) (fun h => absurd hb0 h)
    refine lv_iconst (v := (nI 0)) S.1 S.2.1 dL_law_286 (by decide) ?_
    refine lc_X (As := [.int (nI 0)]) (rest := []) S (kX0_bar l dC dI cI cZ cJ a n mw nf sg fo L le sc li ba ca st false hI) hK hP hD hS rfl (va_recv hK hP (ci := 0) (q0 := 0) rfl rfl) gL_84 hdX0_bar (by decide) hl.1 rfl (Nat.le_of_ble_eq_true rfl) dL_law_287 hc0 (fun H locs hP hD hS => ?_)
    have hP : va_P (dC, dI) vcl (vX cI cZ a n mw nf sg fo L le sc li (brF false (fit n sg fo L le) ba mw) ca st ++ ([oc o cJ f] ++ vY cI cZ d th n mw nf sg fo L le sc li ba ca wa)) H := hP
    have hD : va_D (fun q => s.heap.size ≤ q) (vX cI cZ a n mw nf sg fo L le sc li (brF false (fit n sg fo L le) ba mw) ca st ++ ([oc o cJ f] ++ vY cI cZ d th n mw nf sg fo L le sc li ba ca wa)) := hD
    refine lv_aload_n S.1 S.2.1 dL_law_290 rfl (lv_at hl 2 rfl) ?_
    refine lv_aload_n S.1 S.2.1 dL_law_291 rfl (lv_at hl 0 rfl) ?_
    refine lv_iload S.1 S.2.1 dL_law_292 (lv_at hl 4 rfl) ?_
    refine lv_iconst (v := (nI 1)) S.1 S.2.1 dL_law_294 (by decide) ?_
    refine n_iadd (x := i) (y := 1) S dL_law_295 ?_
    refine n_sld (j := i + 1) S hX hbl hS (by omega) (by omega) dL_law_296 ?_
    refine lv_if_eq (tgt := 304) S.1 S.2.1 dL_law_297 (by decide) (fun _ => ?_) (fun h => absurd hb0 h)
    refine lv_iconst (v := (nI 0)) S.1 S.2.1 dL_law_304 (by decide) ?_
    refine lc_Y (As := [.int (nI 0)]) (rest := [.int (nI (cnt (brP false (fit n sg fo L le) ba) mw))]) S (kX1_bar l dC dI cI cZ cJ d th n mw nf sg fo L le sc li ba ca wa false hI) hK hP hD hS rfl (va_recv hK hP (ci := 1) (q0 := 11) rfl rfl) gL_88 hdX1_bar (by decide) hl.1 rfl (Nat.le_of_ble_eq_true rfl) dL_law_305 hc0 (fun H locs hP hD hS => ?_)
    have hP : va_P (dC, dI) vcl (vX cI cZ a n mw nf sg fo L le sc li (brF false (fit n sg fo L le) ba mw) ca st ++ ([oc o cJ f] ++ vY cI cZ d 0 n mw nf sg fo L le sc li (brF false (fit n sg fo L le) ba mw) ca wa)) H := hP
    have hD : va_D (fun q => s.heap.size ≤ q) (vX cI cZ a n mw nf sg fo L le sc li (brF false (fit n sg fo L le) ba mw) ca st ++ ([oc o cJ f] ++ vY cI cZ d 0 n mw nf sg fo L le sc li (brF false (fit n sg fo L le) ba mw) ca wa)) := hD
    refine lv_icmp_eq (tgt := 1081) S.1 S.2.1 dL_law_308 (by decide) (fun _ => ?_) (fun h => absurd rfl h)
    refine W.widen (k := cells + 1) (n := slots + 6) (by omega) (by omega) ?_
    exact kk 0 n mw nf sg fo L le sc li (brF false (fit n sg fo L le) ba mw) ca st wa f (iv_ba hI false (fit n sg fo L le) mw (Nat.le_refl _)) H locs hP hD hS ls (lv_sub hl [0, 1, 2, 3, 4] rfl)
  · refine lv_aload_n S.1 S.2.1 dL_law_272 rfl (lv_at hl 1 rfl) ?_
    refine lv_aload_n S.1 S.2.1 dL_law_273 rfl (lv_at hl 0 rfl) ?_
    refine lv_iload S.1 S.2.1 dL_law_274 (lv_at hl 4 rfl) ?_
    refine lv_iconst (v := (nI 1)) S.1 S.2.1 dL_law_276 (by decide) ?_
    refine n_iadd (x := i) (y := 1) S dL_law_277 ?_
    refine n_sld (j := i + 1) S hX hbl hS (by omega) (by omega) dL_law_278 ?_
    refine lv_if_eq (tgt := 286) S.1 S.2.1 dL_law_279 (by decide) (fun h => absurd h hb0) (fun _ => ?_)
    refine lv_iconst (v := (nI 1)) S.1 S.2.1 dL_law_282 (by decide) ?_
    refine lv_goto (tgt := 287) S.1 S.2.1 dL_law_283 (by decide) ?_
    refine lc_X (As := [.int (nI 1)]) (rest := []) S (kX0_bar l dC dI cI cZ cJ a n mw nf sg fo L le sc li ba ca st true hI) hK hP hD hS rfl (va_recv hK hP (ci := 0) (q0 := 0) rfl rfl) gL_84 hdX0_bar (by decide) hl.1 rfl (Nat.le_of_ble_eq_true rfl) dL_law_287 hc0 (fun H locs hP hD hS => ?_)
    have hP : va_P (dC, dI) vcl (vX cI cZ a n mw nf sg fo L le sc li (brF true (fit n sg fo L le) ba mw) ca st ++ ([oc o cJ f] ++ vY cI cZ d th n mw nf sg fo L le sc li ba ca wa)) H := hP
    have hD : va_D (fun q => s.heap.size ≤ q) (vX cI cZ a n mw nf sg fo L le sc li (brF true (fit n sg fo L le) ba mw) ca st ++ ([oc o cJ f] ++ vY cI cZ d th n mw nf sg fo L le sc li ba ca wa)) := hD
    refine lv_aload_n S.1 S.2.1 dL_law_290 rfl (lv_at hl 2 rfl) ?_
    refine lv_aload_n S.1 S.2.1 dL_law_291 rfl (lv_at hl 0 rfl) ?_
    refine lv_iload S.1 S.2.1 dL_law_292 (lv_at hl 4 rfl) ?_
    refine lv_iconst (v := (nI 1)) S.1 S.2.1 dL_law_294 (by decide) ?_
    refine n_iadd (x := i) (y := 1) S dL_law_295 ?_
    refine n_sld (j := i + 1) S hX hbl hS (by omega) (by omega) dL_law_296 ?_
    refine lv_if_eq (tgt := 304) S.1 S.2.1 dL_law_297 (by decide) (fun h => absurd h hb0) (fun _ => ?_)
    refine lv_iconst (v := (nI 1)) S.1 S.2.1 dL_law_300 (by decide) ?_
    refine lv_goto (tgt := 305) S.1 S.2.1 dL_law_301 (by decide) ?_
    refine lc_Y (As := [.int (nI 1)]) (rest := [.int (nI (cnt (brP true (fit n sg fo L le) ba) mw))]) S (kX1_bar l dC dI cI cZ cJ d th n mw nf sg fo L le sc li ba ca wa true hI) hK hP hD hS rfl (va_recv hK hP (ci := 1) (q0 := 11) rfl rfl) gL_88 hdX1_bar (by decide) hl.1 rfl (Nat.le_of_ble_eq_true rfl) dL_law_305 hc0 (fun H locs hP hD hS => ?_)
    have hP : va_P (dC, dI) vcl (vX cI cZ a n mw nf sg fo L le sc li (brF true (fit n sg fo L le) ba mw) ca st ++ ([oc o cJ f] ++ vY cI cZ d 0 n mw nf sg fo L le sc li (brF true (fit n sg fo L le) ba mw) ca wa)) H := hP
    have hD : va_D (fun q => s.heap.size ≤ q) (vX cI cZ a n mw nf sg fo L le sc li (brF true (fit n sg fo L le) ba mw) ca st ++ ([oc o cJ f] ++ vY cI cZ d 0 n mw nf sg fo L le sc li (brF true (fit n sg fo L le) ba mw) ca wa)) := hD
    refine lv_icmp_eq (tgt := 1081) S.1 S.2.1 dL_law_308 (by decide) (fun _ => ?_) (fun h => absurd rfl h)
    refine W.widen (k := cells + 1) (n := slots + 6) (by omega) (by omega) ?_
    exact kk 0 n mw nf sg fo L le sc li (brF true (fit n sg fo L le) ba mw) ca st wa f (iv_ba hI true (fit n sg fo L le) mw (Nat.le_refl _)) H locs hP hD hS ls (lv_sub hl [0, 1, 2, 3, 4] rfl)

set_option maxRecDepth 100000 in
set_option maxHeartbeats 4000000 in
theorem lc_merge {p : Program} {l : Launch} {e : Env} {s : State} {m : MethodId} {below : List Frame} {meth : Method} {c : Code} {dC : Nat → ClassId} {dI : Nat → Nat → Nat} {cI cZ cJ : ClassId} {a d : Nat → Nat} {o b i cells slots Ln : Nat} {xs : Nat → Int32} (hfl : l.flags = flags0) (S : CallFix p m c cL_law 7 s #[Value.ref b] tbG RL) (ht : twS s) (hK : va_K (dC, dI) vcl (vty cI cZ cJ) s) (hX : va_X b Ln xs s s.heap) (hbl : b < s.heap.size) (hLn : Ln ≤ 2560) (hi5 : i + 5 ≤ Ln) (hc1 : cells + 1 ≤ room_1.cells ∧ slots + 6 ≤ room_1.slots)
    (kk : lK p l e s m below meth c dC dI cI cZ cJ a d o b i cells slots) (th n mw nf : Nat) (sg fo L le sc li ba ca st : Nat → Nat) (wa : Nat → Int32) (f : Nat → Int64) (hI : iv n mw nf sg fo L le sc li ba ca) (H : Heap) (locs : List Loc) (hP : va_P (dC, dI) vcl (vX cI cZ a n mw nf sg fo L le sc li ba ca st ++ ([oc o cJ f] ++ vY cI cZ d th n mw nf sg fo L le sc li ba ca wa)) H) (hD : va_D (fun q => s.heap.size ≤ q) (vX cI cZ a n mw nf sg fo L le sc li ba ca st ++ ([oc o cJ f] ++ vY cI cZ d th n mw nf sg fo L le sc li ba ca wa))) (hS : va_S (fun q => s.heap.size ≤ q) s.heap H locs)
    (ls : Array Slot) (hl : lv_has ls 7 [(0, .ref b), (1, .ref (a 0)), (2, .ref (d 0)), (3, .ref o), (4, .int (nI i))]) : W p l e room_1 s m #[Value.ref b] below meth c H locs cells slots (lw_Z below #[Value.ref b] s) (F0 m 313 ls []) := by
  have hc0 : cells ≤ room_1.cells ∧ slots ≤ room_1.slots := ⟨by omega, by omega⟩
  have hn := hI.1.1
  have hm := hI.1.2.1
  have hf := hI.1.2.2
  rcases sp_Li (xs (i + 2)) with h2 | ⟨t, h2, hu2⟩
  · refine lv_aload_n S.1 S.2.1 dL_law_313 rfl (lv_at hl 1 rfl) ?_
    refine lv_aload_n S.1 S.2.1 dL_law_314 rfl (lv_at hl 0 rfl) ?_
    refine lv_iload S.1 S.2.1 dL_law_315 (lv_at hl 4 rfl) ?_
    refine lv_iconst (v := (nI 1)) S.1 S.2.1 dL_law_317 (by decide) ?_
    refine n_iadd (x := i) (y := 1) S dL_law_318 ?_
    refine n_sld (j := i + 1) S hX hbl hS (by omega) (by omega) dL_law_319 ?_
    refine lv_aload_n S.1 S.2.1 dL_law_320 rfl (lv_at hl 0 rfl) ?_
    refine lv_iload S.1 S.2.1 dL_law_321 (lv_at hl 4 rfl) ?_
    refine lv_iconst (v := (nI 2)) S.1 S.2.1 dL_law_323 (by decide) ?_
    refine n_iadd (x := i) (y := 2) S dL_law_324 ?_
    refine n_sld (j := i + 2) S hX hbl hS (by omega) (by omega) dL_law_325 ?_
    refine lv_aload_n S.1 S.2.1 dL_law_326 rfl (lv_at hl 0 rfl) ?_
    refine lv_iload S.1 S.2.1 dL_law_327 (lv_at hl 4 rfl) ?_
    refine lv_iconst (v := (nI 3)) S.1 S.2.1 dL_law_329 (by decide) ?_
    refine n_iadd (x := i) (y := 3) S dL_law_330 ?_
    refine n_sld (j := i + 3) S hX hbl hS (by omega) (by omega) dL_law_331 ?_
    refine lv_aload_n S.1 S.2.1 dL_law_332 rfl (lv_at hl 0 rfl) ?_
    refine lv_iload S.1 S.2.1 dL_law_333 (lv_at hl 4 rfl) ?_
    refine lv_iconst (v := (nI 4)) S.1 S.2.1 dL_law_335 (by decide) ?_
    refine n_iadd (x := i) (y := 4) S dL_law_336 ?_
    refine n_sld (j := i + 4) S hX hbl hS (by omega) (by omega) dL_law_337 ?_
    refine lv_aload_n S.1 S.2.1 dL_law_338 rfl (lv_at hl 3 rfl) ?_
    refine lc_T (As := [.ref (a 0), .int (xs (i + 1)), .int (xs (i + 2)), .int (xs (i + 3)), .int (xs (i + 4)), .ref o]) (rest := []) S ht (kL_mergeE1 l dC dI cI cZ cJ a n mw nf sg fo L le sc li ba ca st o f hfl (xs (i + 1)) (xs (i + 2)) (xs (i + 3)) (xs (i + 4)) h2) hK hP hS hw_merge hdL_merge (by decide) hl.1 rfl (Nat.le_of_ble_eq_true rfl) dL_law_339 hc1 (fun H hP hS => ?_)
    refine lv_istore (lv' := [(5, .int (nI 1)), (0, .ref b), (1, .ref (a 0)), (2, .ref (d 0)), (3, .ref o), (4, .int (nI i))]) S.1 S.2.1 dL_law_342 hl (by decide) rfl (fun ls hl => ?_)
    refine lv_aload_n S.1 S.2.1 dL_law_344 rfl (lv_at hl 3 rfl) ?_
    refine lv_aload_n S.1 S.2.1 dL_law_345 rfl (lv_at hl 1 rfl) ?_
    refine lv_iload S.1 S.2.1 dL_law_346 (lv_at hl 5 rfl) ?_
    refine lv_iconst (v := (nI 1)) S.1 S.2.1 dL_law_348 (by decide) ?_
    refine n_iadd (x := i) (y := 1) S dL_law_349 ?_
    refine n_sld (j := i + 1) S hX hbl hS (by omega) (by omega) dL_law_350 ?_
    refine lv_aload_n S.1 S.2.1 dL_law_351 rfl (lv_at hl 1 rfl) ?_
    refine lv_iload S.1 S.2.1 dL_law_352 (lv_at hl 5 rfl) ?_
    refine lv_iconst (v := (nI 2)) S.1 S.2.1 dL_law_354 (by decide) ?_
    refine n_iadd (x := i) (y := 2) S dL_law_355 ?_
    refine n_sld (j := i + 2) S hX hbl hS (by omega) (by omega) dL_law_356 ?_
    refine lv_aload_n S.1 S.2.1 dL_law_357 rfl (lv_at hl 1 rfl) ?_
    refine lv_iload S.1 S.2.1 dL_law_358 (lv_at hl 5 rfl) ?_
    refine lv_iconst (v := (nI 3)) S.1 S.2.1 dL_law_360 (by decide) ?_
    refine n_iadd (x := i) (y := 3) S dL_law_361 ?_
    refine n_sld (j := i + 3) S hX hbl hS (by omega) (by omega) dL_law_362 ?_
    refine lv_aload_n S.1 S.2.1 dL_law_363 rfl (lv_at hl 1 rfl) ?_
    refine lv_iload S.1 S.2.1 dL_law_364 (lv_at hl 5 rfl) ?_
    refine lv_iconst (v := (nI 4)) S.1 S.2.1 dL_law_366 (by decide) ?_
    refine n_iadd (x := i) (y := 4) S dL_law_367 ?_
    refine n_sld (j := i + 4) S hX hbl hS (by omega) (by omega) dL_law_368 ?_
    refine lc_Y (As := [.int (xs (i + 1)), .int (xs (i + 2)), .int (xs (i + 3)), .int (xs (i + 4))]) (rest := []) S (kX1_mergeF l dC dI cI cZ cJ d th n mw nf sg fo L le sc li ba ca wa (xs (i + 1)) (xs (i + 2)) (xs (i + 3)) (xs (i + 4)) (Or.inl h2)) hK hP hD hS rfl (va_recv hK hP (ci := 1) (q0 := 11) rfl rfl) gL_92 hdX1_merge (by decide) hl.1 rfl (Nat.le_of_ble_eq_true rfl) dL_law_369 hc1 (fun H locs hP hD hS => ?_)
    have hP : va_P (dC, dI) vcl (vX cI cZ a n mw nf sg fo L le sc li ba ca st ++ ([oc o cJ f] ++ vY cI cZ d 1 n mw nf sg fo L le sc li ba ca wa)) H := hP
    have hD : va_D (fun q => s.heap.size ≤ q) (vX cI cZ a n mw nf sg fo L le sc li ba ca st ++ ([oc o cJ f] ++ vY cI cZ d 1 n mw nf sg fo L le sc li ba ca wa)) := hD
    refine lv_istore (lv' := [(6, .int (nI 0)), (5, .int (nI 1)), (0, .ref b), (1, .ref (a 0)), (2, .ref (d 0)), (3, .ref o), (4, .int (nI i))]) S.1 S.2.1 dL_law_372 hl (by decide) rfl (fun ls hl => ?_)
    refine lv_aload_n S.1 S.2.1 dL_law_374 rfl (lv_at hl 4 rfl) ?_
    refine rd_callV (C := RX1) (As := []) (rest := []) S (kX1_thrown l dC dI cI cZ cJ d 1 n mw nf sg fo L le sc li ba ca wa) rB_blind (fun U hU hW => ⟨by rw [hU]; exact lsY hP, va_K.moved hW.alike hK⟩) (va_recv hK hP (ci := 1) (q0 := 11) rfl rfl) gL_76 hdX1_thrown (by decide) hl.1 rfl (Nat.le_of_ble_eq_true rfl) dL_law_375 hc1 ?_
    refine lv_iload S.1 S.2.1 dL_law_378 (lv_at hl 1 rfl) ?_
    refine lv_icmp_eq (tgt := 385) S.1 S.2.1 dL_law_380 (by decide) (fun _ => ?_) (fun h => absurd rfl h)
    refine lv_iload S.1 S.2.1 dL_law_385 (lv_at hl 1 rfl) ?_
    refine lv_if_ne (tgt := 402) S.1 S.2.1 dL_law_387 (by decide) (fun _ => ?_) (fun h => absurd h (by decide))
    refine lv_goto (tgt := 1081) S.1 S.2.1 dL_law_402 (by decide) ?_
    exact kk 1 n mw nf sg fo L le sc li ba ca st wa f hI H locs hP hD hS ls (lv_sub hl [2, 3, 4, 5, 6] rfl)
  · rcases sp_Li (xs (i + 3)) with h3 | ⟨u, h3, hu3⟩
    · refine lv_aload_n S.1 S.2.1 dL_law_313 rfl (lv_at hl 1 rfl) ?_
      refine lv_aload_n S.1 S.2.1 dL_law_314 rfl (lv_at hl 0 rfl) ?_
      refine lv_iload S.1 S.2.1 dL_law_315 (lv_at hl 4 rfl) ?_
      refine lv_iconst (v := (nI 1)) S.1 S.2.1 dL_law_317 (by decide) ?_
      refine n_iadd (x := i) (y := 1) S dL_law_318 ?_
      refine n_sld (j := i + 1) S hX hbl hS (by omega) (by omega) dL_law_319 ?_
      refine lv_aload_n S.1 S.2.1 dL_law_320 rfl (lv_at hl 0 rfl) ?_
      refine lv_iload S.1 S.2.1 dL_law_321 (lv_at hl 4 rfl) ?_
      refine lv_iconst (v := (nI 2)) S.1 S.2.1 dL_law_323 (by decide) ?_
      refine n_iadd (x := i) (y := 2) S dL_law_324 ?_
      refine n_sld (j := i + 2) S hX hbl hS (by omega) (by omega) dL_law_325 ?_
      rw [hu2]
      refine lv_aload_n S.1 S.2.1 dL_law_326 rfl (lv_at hl 0 rfl) ?_
      refine lv_iload S.1 S.2.1 dL_law_327 (lv_at hl 4 rfl) ?_
      refine lv_iconst (v := (nI 3)) S.1 S.2.1 dL_law_329 (by decide) ?_
      refine n_iadd (x := i) (y := 3) S dL_law_330 ?_
      refine n_sld (j := i + 3) S hX hbl hS (by omega) (by omega) dL_law_331 ?_
      refine lv_aload_n S.1 S.2.1 dL_law_332 rfl (lv_at hl 0 rfl) ?_
      refine lv_iload S.1 S.2.1 dL_law_333 (lv_at hl 4 rfl) ?_
      refine lv_iconst (v := (nI 4)) S.1 S.2.1 dL_law_335 (by decide) ?_
      refine n_iadd (x := i) (y := 4) S dL_law_336 ?_
      refine n_sld (j := i + 4) S hX hbl hS (by omega) (by omega) dL_law_337 ?_
      refine lv_aload_n S.1 S.2.1 dL_law_338 rfl (lv_at hl 3 rfl) ?_
      refine lc_T (As := [.ref (a 0), .int (xs (i + 1)), .int (nI t), .int (xs (i + 3)), .int (xs (i + 4)), .ref o]) (rest := []) S ht (kL_mergeE2 l dC dI cI cZ cJ a n mw nf sg fo L le sc li ba ca st o f hfl (xs (i + 1)) t (xs (i + 3)) (xs (i + 4)) h2 h3) hK hP hS hw_merge hdL_merge (by decide) hl.1 rfl (Nat.le_of_ble_eq_true rfl) dL_law_339 hc1 (fun H hP hS => ?_)
      refine lv_istore (lv' := [(5, .int (nI 1)), (0, .ref b), (1, .ref (a 0)), (2, .ref (d 0)), (3, .ref o), (4, .int (nI i))]) S.1 S.2.1 dL_law_342 hl (by decide) rfl (fun ls hl => ?_)
      refine lv_aload_n S.1 S.2.1 dL_law_344 rfl (lv_at hl 3 rfl) ?_
      refine lv_aload_n S.1 S.2.1 dL_law_345 rfl (lv_at hl 1 rfl) ?_
      refine lv_iload S.1 S.2.1 dL_law_346 (lv_at hl 5 rfl) ?_
      refine lv_iconst (v := (nI 1)) S.1 S.2.1 dL_law_348 (by decide) ?_
      refine n_iadd (x := i) (y := 1) S dL_law_349 ?_
      refine n_sld (j := i + 1) S hX hbl hS (by omega) (by omega) dL_law_350 ?_
      refine lv_aload_n S.1 S.2.1 dL_law_351 rfl (lv_at hl 1 rfl) ?_
      refine lv_iload S.1 S.2.1 dL_law_352 (lv_at hl 5 rfl) ?_
      refine lv_iconst (v := (nI 2)) S.1 S.2.1 dL_law_354 (by decide) ?_
      refine n_iadd (x := i) (y := 2) S dL_law_355 ?_
      refine n_sld (j := i + 2) S hX hbl hS (by omega) (by omega) dL_law_356 ?_
      rw [hu2]
      refine lv_aload_n S.1 S.2.1 dL_law_357 rfl (lv_at hl 1 rfl) ?_
      refine lv_iload S.1 S.2.1 dL_law_358 (lv_at hl 5 rfl) ?_
      refine lv_iconst (v := (nI 3)) S.1 S.2.1 dL_law_360 (by decide) ?_
      refine n_iadd (x := i) (y := 3) S dL_law_361 ?_
      refine n_sld (j := i + 3) S hX hbl hS (by omega) (by omega) dL_law_362 ?_
      refine lv_aload_n S.1 S.2.1 dL_law_363 rfl (lv_at hl 1 rfl) ?_
      refine lv_iload S.1 S.2.1 dL_law_364 (lv_at hl 5 rfl) ?_
      refine lv_iconst (v := (nI 4)) S.1 S.2.1 dL_law_366 (by decide) ?_
      refine n_iadd (x := i) (y := 4) S dL_law_367 ?_
      refine n_sld (j := i + 4) S hX hbl hS (by omega) (by omega) dL_law_368 ?_
      refine lc_Y (As := [.int (xs (i + 1)), .int (nI t), .int (xs (i + 3)), .int (xs (i + 4))]) (rest := []) S (kX1_mergeF l dC dI cI cZ cJ d th n mw nf sg fo L le sc li ba ca wa (xs (i + 1)) (nI t) (xs (i + 3)) (xs (i + 4)) (Or.inr (Or.inl h3))) hK hP hD hS rfl (va_recv hK hP (ci := 1) (q0 := 11) rfl rfl) gL_92 hdX1_merge (by decide) hl.1 rfl (Nat.le_of_ble_eq_true rfl) dL_law_369 hc1 (fun H locs hP hD hS => ?_)
      have hP : va_P (dC, dI) vcl (vX cI cZ a n mw nf sg fo L le sc li ba ca st ++ ([oc o cJ f] ++ vY cI cZ d 1 n mw nf sg fo L le sc li ba ca wa)) H := hP
      have hD : va_D (fun q => s.heap.size ≤ q) (vX cI cZ a n mw nf sg fo L le sc li ba ca st ++ ([oc o cJ f] ++ vY cI cZ d 1 n mw nf sg fo L le sc li ba ca wa)) := hD
      refine lv_istore (lv' := [(6, .int (nI 0)), (5, .int (nI 1)), (0, .ref b), (1, .ref (a 0)), (2, .ref (d 0)), (3, .ref o), (4, .int (nI i))]) S.1 S.2.1 dL_law_372 hl (by decide) rfl (fun ls hl => ?_)
      refine lv_aload_n S.1 S.2.1 dL_law_374 rfl (lv_at hl 4 rfl) ?_
      refine rd_callV (C := RX1) (As := []) (rest := []) S (kX1_thrown l dC dI cI cZ cJ d 1 n mw nf sg fo L le sc li ba ca wa) rB_blind (fun U hU hW => ⟨by rw [hU]; exact lsY hP, va_K.moved hW.alike hK⟩) (va_recv hK hP (ci := 1) (q0 := 11) rfl rfl) gL_76 hdX1_thrown (by decide) hl.1 rfl (Nat.le_of_ble_eq_true rfl) dL_law_375 hc1 ?_
      refine lv_iload S.1 S.2.1 dL_law_378 (lv_at hl 1 rfl) ?_
      refine lv_icmp_eq (tgt := 385) S.1 S.2.1 dL_law_380 (by decide) (fun _ => ?_) (fun h => absurd rfl h)
      refine lv_iload S.1 S.2.1 dL_law_385 (lv_at hl 1 rfl) ?_
      refine lv_if_ne (tgt := 402) S.1 S.2.1 dL_law_387 (by decide) (fun _ => ?_) (fun h => absurd h (by decide))
      refine lv_goto (tgt := 1081) S.1 S.2.1 dL_law_402 (by decide) ?_
      exact kk 1 n mw nf sg fo L le sc li ba ca st wa f hI H locs hP hD hS ls (lv_sub hl [2, 3, 4, 5, 6] rfl)
    · rcases sp_Li (xs (i + 4)) with h4 | ⟨v, h4, hu4⟩
      · refine lv_aload_n S.1 S.2.1 dL_law_313 rfl (lv_at hl 1 rfl) ?_
        refine lv_aload_n S.1 S.2.1 dL_law_314 rfl (lv_at hl 0 rfl) ?_
        refine lv_iload S.1 S.2.1 dL_law_315 (lv_at hl 4 rfl) ?_
        refine lv_iconst (v := (nI 1)) S.1 S.2.1 dL_law_317 (by decide) ?_
        refine n_iadd (x := i) (y := 1) S dL_law_318 ?_
        refine n_sld (j := i + 1) S hX hbl hS (by omega) (by omega) dL_law_319 ?_
        refine lv_aload_n S.1 S.2.1 dL_law_320 rfl (lv_at hl 0 rfl) ?_
        refine lv_iload S.1 S.2.1 dL_law_321 (lv_at hl 4 rfl) ?_
        refine lv_iconst (v := (nI 2)) S.1 S.2.1 dL_law_323 (by decide) ?_
        refine n_iadd (x := i) (y := 2) S dL_law_324 ?_
        refine n_sld (j := i + 2) S hX hbl hS (by omega) (by omega) dL_law_325 ?_
        rw [hu2]
        refine lv_aload_n S.1 S.2.1 dL_law_326 rfl (lv_at hl 0 rfl) ?_
        refine lv_iload S.1 S.2.1 dL_law_327 (lv_at hl 4 rfl) ?_
        refine lv_iconst (v := (nI 3)) S.1 S.2.1 dL_law_329 (by decide) ?_
        refine n_iadd (x := i) (y := 3) S dL_law_330 ?_
        refine n_sld (j := i + 3) S hX hbl hS (by omega) (by omega) dL_law_331 ?_
        rw [hu3]
        refine lv_aload_n S.1 S.2.1 dL_law_332 rfl (lv_at hl 0 rfl) ?_
        refine lv_iload S.1 S.2.1 dL_law_333 (lv_at hl 4 rfl) ?_
        refine lv_iconst (v := (nI 4)) S.1 S.2.1 dL_law_335 (by decide) ?_
        refine n_iadd (x := i) (y := 4) S dL_law_336 ?_
        refine n_sld (j := i + 4) S hX hbl hS (by omega) (by omega) dL_law_337 ?_
        refine lv_aload_n S.1 S.2.1 dL_law_338 rfl (lv_at hl 3 rfl) ?_
        refine lc_T (As := [.ref (a 0), .int (xs (i + 1)), .int (nI t), .int (nI u), .int (xs (i + 4)), .ref o]) (rest := []) S ht (kL_mergeE3 l dC dI cI cZ cJ a n mw nf sg fo L le sc li ba ca st o f hfl (xs (i + 1)) t u (xs (i + 4)) h2 h3 h4) hK hP hS hw_merge hdL_merge (by decide) hl.1 rfl (Nat.le_of_ble_eq_true rfl) dL_law_339 hc1 (fun H hP hS => ?_)
        refine lv_istore (lv' := [(5, .int (nI 1)), (0, .ref b), (1, .ref (a 0)), (2, .ref (d 0)), (3, .ref o), (4, .int (nI i))]) S.1 S.2.1 dL_law_342 hl (by decide) rfl (fun ls hl => ?_)
        refine lv_aload_n S.1 S.2.1 dL_law_344 rfl (lv_at hl 3 rfl) ?_
        refine lv_aload_n S.1 S.2.1 dL_law_345 rfl (lv_at hl 1 rfl) ?_
        refine lv_iload S.1 S.2.1 dL_law_346 (lv_at hl 5 rfl) ?_
        refine lv_iconst (v := (nI 1)) S.1 S.2.1 dL_law_348 (by decide) ?_
        refine n_iadd (x := i) (y := 1) S dL_law_349 ?_
        refine n_sld (j := i + 1) S hX hbl hS (by omega) (by omega) dL_law_350 ?_
        refine lv_aload_n S.1 S.2.1 dL_law_351 rfl (lv_at hl 1 rfl) ?_
        refine lv_iload S.1 S.2.1 dL_law_352 (lv_at hl 5 rfl) ?_
        refine lv_iconst (v := (nI 2)) S.1 S.2.1 dL_law_354 (by decide) ?_
        refine n_iadd (x := i) (y := 2) S dL_law_355 ?_
        refine n_sld (j := i + 2) S hX hbl hS (by omega) (by omega) dL_law_356 ?_
        rw [hu2]
        refine lv_aload_n S.1 S.2.1 dL_law_357 rfl (lv_at hl 1 rfl) ?_
        refine lv_iload S.1 S.2.1 dL_law_358 (lv_at hl 5 rfl) ?_
        refine lv_iconst (v := (nI 3)) S.1 S.2.1 dL_law_360 (by decide) ?_
        refine n_iadd (x := i) (y := 3) S dL_law_361 ?_
        refine n_sld (j := i + 3) S hX hbl hS (by omega) (by omega) dL_law_362 ?_
        rw [hu3]
        refine lv_aload_n S.1 S.2.1 dL_law_363 rfl (lv_at hl 1 rfl) ?_
        refine lv_iload S.1 S.2.1 dL_law_364 (lv_at hl 5 rfl) ?_
        refine lv_iconst (v := (nI 4)) S.1 S.2.1 dL_law_366 (by decide) ?_
        refine n_iadd (x := i) (y := 4) S dL_law_367 ?_
        refine n_sld (j := i + 4) S hX hbl hS (by omega) (by omega) dL_law_368 ?_
        refine lc_Y (As := [.int (xs (i + 1)), .int (nI t), .int (nI u), .int (xs (i + 4))]) (rest := []) S (kX1_mergeF l dC dI cI cZ cJ d th n mw nf sg fo L le sc li ba ca wa (xs (i + 1)) (nI t) (nI u) (xs (i + 4)) (Or.inr (Or.inr h4))) hK hP hD hS rfl (va_recv hK hP (ci := 1) (q0 := 11) rfl rfl) gL_92 hdX1_merge (by decide) hl.1 rfl (Nat.le_of_ble_eq_true rfl) dL_law_369 hc1 (fun H locs hP hD hS => ?_)
        have hP : va_P (dC, dI) vcl (vX cI cZ a n mw nf sg fo L le sc li ba ca st ++ ([oc o cJ f] ++ vY cI cZ d 1 n mw nf sg fo L le sc li ba ca wa)) H := hP
        have hD : va_D (fun q => s.heap.size ≤ q) (vX cI cZ a n mw nf sg fo L le sc li ba ca st ++ ([oc o cJ f] ++ vY cI cZ d 1 n mw nf sg fo L le sc li ba ca wa)) := hD
        refine lv_istore (lv' := [(6, .int (nI 0)), (5, .int (nI 1)), (0, .ref b), (1, .ref (a 0)), (2, .ref (d 0)), (3, .ref o), (4, .int (nI i))]) S.1 S.2.1 dL_law_372 hl (by decide) rfl (fun ls hl => ?_)
        refine lv_aload_n S.1 S.2.1 dL_law_374 rfl (lv_at hl 4 rfl) ?_
        refine rd_callV (C := RX1) (As := []) (rest := []) S (kX1_thrown l dC dI cI cZ cJ d 1 n mw nf sg fo L le sc li ba ca wa) rB_blind (fun U hU hW => ⟨by rw [hU]; exact lsY hP, va_K.moved hW.alike hK⟩) (va_recv hK hP (ci := 1) (q0 := 11) rfl rfl) gL_76 hdX1_thrown (by decide) hl.1 rfl (Nat.le_of_ble_eq_true rfl) dL_law_375 hc1 ?_
        refine lv_iload S.1 S.2.1 dL_law_378 (lv_at hl 1 rfl) ?_
        refine lv_icmp_eq (tgt := 385) S.1 S.2.1 dL_law_380 (by decide) (fun _ => ?_) (fun h => absurd rfl h)
        refine lv_iload S.1 S.2.1 dL_law_385 (lv_at hl 1 rfl) ?_
        refine lv_if_ne (tgt := 402) S.1 S.2.1 dL_law_387 (by decide) (fun _ => ?_) (fun h => absurd h (by decide))
        refine lv_goto (tgt := 1081) S.1 S.2.1 dL_law_402 (by decide) ?_
        exact kk 1 n mw nf sg fo L le sc li ba ca st wa f hI H locs hP hD hS ls (lv_sub hl [2, 3, 4, 5, 6] rfl)
      · rcases sp_3 (xs (i + 1)) with hx | ⟨hw, hh, hu1⟩
        · refine lv_aload_n S.1 S.2.1 dL_law_313 rfl (lv_at hl 1 rfl) ?_
          refine lv_aload_n S.1 S.2.1 dL_law_314 rfl (lv_at hl 0 rfl) ?_
          refine lv_iload S.1 S.2.1 dL_law_315 (lv_at hl 4 rfl) ?_
          refine lv_iconst (v := (nI 1)) S.1 S.2.1 dL_law_317 (by decide) ?_
          refine n_iadd (x := i) (y := 1) S dL_law_318 ?_
          refine n_sld (j := i + 1) S hX hbl hS (by omega) (by omega) dL_law_319 ?_
          refine lv_aload_n S.1 S.2.1 dL_law_320 rfl (lv_at hl 0 rfl) ?_
          refine lv_iload S.1 S.2.1 dL_law_321 (lv_at hl 4 rfl) ?_
          refine lv_iconst (v := (nI 2)) S.1 S.2.1 dL_law_323 (by decide) ?_
          refine n_iadd (x := i) (y := 2) S dL_law_324 ?_
          refine n_sld (j := i + 2) S hX hbl hS (by omega) (by omega) dL_law_325 ?_
          rw [hu2]
          refine lv_aload_n S.1 S.2.1 dL_law_326 rfl (lv_at hl 0 rfl) ?_
          refine lv_iload S.1 S.2.1 dL_law_327 (lv_at hl 4 rfl) ?_
          refine lv_iconst (v := (nI 3)) S.1 S.2.1 dL_law_329 (by decide) ?_
          refine n_iadd (x := i) (y := 3) S dL_law_330 ?_
          refine n_sld (j := i + 3) S hX hbl hS (by omega) (by omega) dL_law_331 ?_
          rw [hu3]
          refine lv_aload_n S.1 S.2.1 dL_law_332 rfl (lv_at hl 0 rfl) ?_
          refine lv_iload S.1 S.2.1 dL_law_333 (lv_at hl 4 rfl) ?_
          refine lv_iconst (v := (nI 4)) S.1 S.2.1 dL_law_335 (by decide) ?_
          refine n_iadd (x := i) (y := 4) S dL_law_336 ?_
          refine n_sld (j := i + 4) S hX hbl hS (by omega) (by omega) dL_law_337 ?_
          rw [hu4]
          refine lv_aload_n S.1 S.2.1 dL_law_338 rfl (lv_at hl 3 rfl) ?_
          refine lc_W (As := [.ref (a 0), .int (xs (i + 1)), .int (nI t), .int (nI u), .int (nI v), .ref o]) (rest := []) S (kL_mergeN l dC dI cI cZ cJ a n mw nf sg fo L le sc li ba ca st o f (xs (i + 1)) t u v hI h2 h3 h4 hx) hK hP hD hS (fun _ => rfl) hw_merge hdL_merge (by decide) hl.1 rfl (Nat.le_of_ble_eq_true rfl) dL_law_339 hc0 (fun _ H locs hP hD hS => ?_)
          have hP : va_P (dC, dI) vcl ((vX cI cZ a n mw nf sg fo L le sc li ba ca st ++ [oc o cJ (vp_updL f 0 (Int32.toInt64 ((-1 : Int32))))]) ++ vY cI cZ d th n mw nf sg fo L le sc li ba ca wa) H := hP
          have hD : va_D (fun q => s.heap.size ≤ q) ((vX cI cZ a n mw nf sg fo L le sc li ba ca st ++ [oc o cJ (vp_updL f 0 (Int32.toInt64 ((-1 : Int32))))]) ++ vY cI cZ d th n mw nf sg fo L le sc li ba ca wa) := hD
          rw [List.append_assoc] at hP hD
          refine lv_istore (lv' := [(5, .int (nI 0)), (0, .ref b), (1, .ref (a 0)), (2, .ref (d 0)), (3, .ref o), (4, .int (nI i))]) S.1 S.2.1 dL_law_342 hl (by decide) rfl (fun ls hl => ?_)
          refine lv_aload_n S.1 S.2.1 dL_law_344 rfl (lv_at hl 3 rfl) ?_
          refine lv_aload_n S.1 S.2.1 dL_law_345 rfl (lv_at hl 1 rfl) ?_
          refine lv_iload S.1 S.2.1 dL_law_346 (lv_at hl 5 rfl) ?_
          refine lv_iconst (v := (nI 1)) S.1 S.2.1 dL_law_348 (by decide) ?_
          refine n_iadd (x := i) (y := 1) S dL_law_349 ?_
          refine n_sld (j := i + 1) S hX hbl hS (by omega) (by omega) dL_law_350 ?_
          refine lv_aload_n S.1 S.2.1 dL_law_351 rfl (lv_at hl 1 rfl) ?_
          refine lv_iload S.1 S.2.1 dL_law_352 (lv_at hl 5 rfl) ?_
          refine lv_iconst (v := (nI 2)) S.1 S.2.1 dL_law_354 (by decide) ?_
          refine n_iadd (x := i) (y := 2) S dL_law_355 ?_
          refine n_sld (j := i + 2) S hX hbl hS (by omega) (by omega) dL_law_356 ?_
          rw [hu2]
          refine lv_aload_n S.1 S.2.1 dL_law_357 rfl (lv_at hl 1 rfl) ?_
          refine lv_iload S.1 S.2.1 dL_law_358 (lv_at hl 5 rfl) ?_
          refine lv_iconst (v := (nI 3)) S.1 S.2.1 dL_law_360 (by decide) ?_
          refine n_iadd (x := i) (y := 3) S dL_law_361 ?_
          refine n_sld (j := i + 3) S hX hbl hS (by omega) (by omega) dL_law_362 ?_
          rw [hu3]
          refine lv_aload_n S.1 S.2.1 dL_law_363 rfl (lv_at hl 1 rfl) ?_
          refine lv_iload S.1 S.2.1 dL_law_364 (lv_at hl 5 rfl) ?_
          refine lv_iconst (v := (nI 4)) S.1 S.2.1 dL_law_366 (by decide) ?_
          refine n_iadd (x := i) (y := 4) S dL_law_367 ?_
          refine n_sld (j := i + 4) S hX hbl hS (by omega) (by omega) dL_law_368 ?_
          rw [hu4]
          refine lc_Y (As := [.int (xs (i + 1)), .int (nI t), .int (nI u), .int (nI v)]) (rest := []) S (kX1_mergeN l dC dI cI cZ cJ d th n mw nf sg fo L le sc li ba ca wa (xs (i + 1)) t u v hI h2 h3 h4 hx) hK hP hD hS rfl (va_recv hK hP (ci := 1) (q0 := 11) rfl rfl) gL_92 hdX1_merge (by decide) hl.1 rfl (Nat.le_of_ble_eq_true rfl) dL_law_369 hc0 (fun H locs hP hD hS => ?_)
          have hP : va_P (dC, dI) vcl (vX cI cZ a n mw nf sg fo L le sc li ba ca st ++ ([oc o cJ (vp_updL f 0 (Int32.toInt64 ((-1 : Int32))))] ++ vY cI cZ d 0 n mw nf sg fo L le sc li ba ca wa)) H := hP
          have hD : va_D (fun q => s.heap.size ≤ q) (vX cI cZ a n mw nf sg fo L le sc li ba ca st ++ ([oc o cJ (vp_updL f 0 (Int32.toInt64 ((-1 : Int32))))] ++ vY cI cZ d 0 n mw nf sg fo L le sc li ba ca wa)) := hD
          refine lv_istore (lv' := [(6, .int ((-1 : Int32))), (5, .int (nI 0)), (0, .ref b), (1, .ref (a 0)), (2, .ref (d 0)), (3, .ref o), (4, .int (nI i))]) S.1 S.2.1 dL_law_372 hl (by decide) rfl (fun ls hl => ?_)
          refine lv_aload_n S.1 S.2.1 dL_law_374 rfl (lv_at hl 4 rfl) ?_
          refine rd_callV (C := RX1) (As := []) (rest := []) S (kX1_thrown l dC dI cI cZ cJ d 0 n mw nf sg fo L le sc li ba ca wa) rB_blind (fun U hU hW => ⟨by rw [hU]; exact lsY hP, va_K.moved hW.alike hK⟩) (va_recv hK hP (ci := 1) (q0 := 11) rfl rfl) gL_76 hdX1_thrown (by decide) hl.1 rfl (Nat.le_of_ble_eq_true rfl) dL_law_375 hc0 ?_
          refine lv_iload S.1 S.2.1 dL_law_378 (lv_at hl 1 rfl) ?_
          refine lv_icmp_eq (tgt := 385) S.1 S.2.1 dL_law_380 (by decide) (fun _ => ?_) (fun h => absurd rfl h)
          refine lv_iload S.1 S.2.1 dL_law_385 (lv_at hl 1 rfl) ?_
          refine lv_if_ne (tgt := 402) S.1 S.2.1 dL_law_387 (by decide) (fun h => absurd (by decide) h) (fun _ => ?_)
          refine lv_aload_n S.1 S.2.1 dL_law_390 rfl (lv_at hl 5 rfl) ?_
          refine lv_iconst (v := (nI 0)) S.1 S.2.1 dL_law_391 (by decide) ?_
          refine n_lald S hK hP 10 2 rfl rfl dL_law_392 ?_
          refine lv_iload S.1 S.2.1 dL_law_393 (lv_at hl 0 rfl) ?_
          refine lv_i2l (v := Int32.toInt64 ((-1 : Int32))) S.1 S.2.1 dL_law_395 rfl ?_
          refine n_lcmp S dL_law_396 ?_
          refine lv_if_eq (tgt := 402) S.1 S.2.1 dL_law_397 (by decide) (fun _ => ?_) (fun h => absurd rfl h)
          refine lv_goto (tgt := 1081) S.1 S.2.1 dL_law_402 (by decide) ?_
          refine W.widen (k := cells + 1) (n := slots + 6) (by omega) (by omega) ?_
          exact kk 0 n mw nf sg fo L le sc li ba ca st wa (vp_updL f 0 (Int32.toInt64 ((-1 : Int32)))) hI H locs hP hD hS ls (lv_sub hl [2, 3, 4, 5, 6] rfl)
        · refine lv_aload_n S.1 S.2.1 dL_law_313 rfl (lv_at hl 1 rfl) ?_
          refine lv_aload_n S.1 S.2.1 dL_law_314 rfl (lv_at hl 0 rfl) ?_
          refine lv_iload S.1 S.2.1 dL_law_315 (lv_at hl 4 rfl) ?_
          refine lv_iconst (v := (nI 1)) S.1 S.2.1 dL_law_317 (by decide) ?_
          refine n_iadd (x := i) (y := 1) S dL_law_318 ?_
          refine n_sld (j := i + 1) S hX hbl hS (by omega) (by omega) dL_law_319 ?_
          rw [hu1]
          refine lv_aload_n S.1 S.2.1 dL_law_320 rfl (lv_at hl 0 rfl) ?_
          refine lv_iload S.1 S.2.1 dL_law_321 (lv_at hl 4 rfl) ?_
          refine lv_iconst (v := (nI 2)) S.1 S.2.1 dL_law_323 (by decide) ?_
          refine n_iadd (x := i) (y := 2) S dL_law_324 ?_
          refine n_sld (j := i + 2) S hX hbl hS (by omega) (by omega) dL_law_325 ?_
          rw [hu2]
          refine lv_aload_n S.1 S.2.1 dL_law_326 rfl (lv_at hl 0 rfl) ?_
          refine lv_iload S.1 S.2.1 dL_law_327 (lv_at hl 4 rfl) ?_
          refine lv_iconst (v := (nI 3)) S.1 S.2.1 dL_law_329 (by decide) ?_
          refine n_iadd (x := i) (y := 3) S dL_law_330 ?_
          refine n_sld (j := i + 3) S hX hbl hS (by omega) (by omega) dL_law_331 ?_
          rw [hu3]
          refine lv_aload_n S.1 S.2.1 dL_law_332 rfl (lv_at hl 0 rfl) ?_
          refine lv_iload S.1 S.2.1 dL_law_333 (lv_at hl 4 rfl) ?_
          refine lv_iconst (v := (nI 4)) S.1 S.2.1 dL_law_335 (by decide) ?_
          refine n_iadd (x := i) (y := 4) S dL_law_336 ?_
          refine n_sld (j := i + 4) S hX hbl hS (by omega) (by omega) dL_law_337 ?_
          rw [hu4]
          refine lv_aload_n S.1 S.2.1 dL_law_338 rfl (lv_at hl 3 rfl) ?_
          refine lc_W (As := [.ref (a 0), .int (nI hw), .int (nI t), .int (nI u), .int (nI v), .ref o]) (rest := []) S (kL_merge l dC dI cI cZ cJ a n mw nf sg fo L le sc li ba ca st o f hw t u v hI hh h2 h3 h4) hK hP hD hS (fun _ => rfl) hw_merge hdL_merge (by decide) hl.1 rfl (Nat.le_of_ble_eq_true rfl) dL_law_339 hc0 (fun _ H locs hP hD hS => ?_)
          have hP : va_P (dC, dI) vcl ((vX cI cZ a n mw nf sg fo L le sc (mgF hw t u v li mw) ba ca st ++ [oc o cJ (vp_updL f 0 (Int32.toInt64 (nI (cnt (mgP hw u v li) mw))))]) ++ vY cI cZ d th n mw nf sg fo L le sc li ba ca wa) H := hP
          have hD : va_D (fun q => s.heap.size ≤ q) ((vX cI cZ a n mw nf sg fo L le sc (mgF hw t u v li mw) ba ca st ++ [oc o cJ (vp_updL f 0 (Int32.toInt64 (nI (cnt (mgP hw u v li) mw))))]) ++ vY cI cZ d th n mw nf sg fo L le sc li ba ca wa) := hD
          rw [List.append_assoc] at hP hD
          refine lv_istore (lv' := [(5, .int (nI 0)), (0, .ref b), (1, .ref (a 0)), (2, .ref (d 0)), (3, .ref o), (4, .int (nI i))]) S.1 S.2.1 dL_law_342 hl (by decide) rfl (fun ls hl => ?_)
          refine lv_aload_n S.1 S.2.1 dL_law_344 rfl (lv_at hl 3 rfl) ?_
          refine lv_aload_n S.1 S.2.1 dL_law_345 rfl (lv_at hl 1 rfl) ?_
          refine lv_iload S.1 S.2.1 dL_law_346 (lv_at hl 5 rfl) ?_
          refine lv_iconst (v := (nI 1)) S.1 S.2.1 dL_law_348 (by decide) ?_
          refine n_iadd (x := i) (y := 1) S dL_law_349 ?_
          refine n_sld (j := i + 1) S hX hbl hS (by omega) (by omega) dL_law_350 ?_
          rw [hu1]
          refine lv_aload_n S.1 S.2.1 dL_law_351 rfl (lv_at hl 1 rfl) ?_
          refine lv_iload S.1 S.2.1 dL_law_352 (lv_at hl 5 rfl) ?_
          refine lv_iconst (v := (nI 2)) S.1 S.2.1 dL_law_354 (by decide) ?_
          refine n_iadd (x := i) (y := 2) S dL_law_355 ?_
          refine n_sld (j := i + 2) S hX hbl hS (by omega) (by omega) dL_law_356 ?_
          rw [hu2]
          refine lv_aload_n S.1 S.2.1 dL_law_357 rfl (lv_at hl 1 rfl) ?_
          refine lv_iload S.1 S.2.1 dL_law_358 (lv_at hl 5 rfl) ?_
          refine lv_iconst (v := (nI 3)) S.1 S.2.1 dL_law_360 (by decide) ?_
          refine n_iadd (x := i) (y := 3) S dL_law_361 ?_
          refine n_sld (j := i + 3) S hX hbl hS (by omega) (by omega) dL_law_362 ?_
          rw [hu3]
          refine lv_aload_n S.1 S.2.1 dL_law_363 rfl (lv_at hl 1 rfl) ?_
          refine lv_iload S.1 S.2.1 dL_law_364 (lv_at hl 5 rfl) ?_
          refine lv_iconst (v := (nI 4)) S.1 S.2.1 dL_law_366 (by decide) ?_
          refine n_iadd (x := i) (y := 4) S dL_law_367 ?_
          refine n_sld (j := i + 4) S hX hbl hS (by omega) (by omega) dL_law_368 ?_
          rw [hu4]
          refine lc_Y (As := [.int (nI hw), .int (nI t), .int (nI u), .int (nI v)]) (rest := []) S (kX1_merge l dC dI cI cZ cJ d th n mw nf sg fo L le sc li ba ca wa hw t u v hI hh h2 h3 h4) hK hP hD hS rfl (va_recv hK hP (ci := 1) (q0 := 11) rfl rfl) gL_92 hdX1_merge (by decide) hl.1 rfl (Nat.le_of_ble_eq_true rfl) dL_law_369 hc0 (fun H locs hP hD hS => ?_)
          have hP : va_P (dC, dI) vcl (vX cI cZ a n mw nf sg fo L le sc (mgF hw t u v li mw) ba ca st ++ ([oc o cJ (vp_updL f 0 (Int32.toInt64 (nI (cnt (mgP hw u v li) mw))))] ++ vY cI cZ d 0 n mw nf sg fo L le sc (mgF hw t u v li mw) ba ca wa)) H := hP
          have hD : va_D (fun q => s.heap.size ≤ q) (vX cI cZ a n mw nf sg fo L le sc (mgF hw t u v li mw) ba ca st ++ ([oc o cJ (vp_updL f 0 (Int32.toInt64 (nI (cnt (mgP hw u v li) mw))))] ++ vY cI cZ d 0 n mw nf sg fo L le sc (mgF hw t u v li mw) ba ca wa)) := hD
          refine lv_istore (lv' := [(6, .int (nI (cnt (mgP hw u v li) mw))), (5, .int (nI 0)), (0, .ref b), (1, .ref (a 0)), (2, .ref (d 0)), (3, .ref o), (4, .int (nI i))]) S.1 S.2.1 dL_law_372 hl (by decide) rfl (fun ls hl => ?_)
          refine lv_aload_n S.1 S.2.1 dL_law_374 rfl (lv_at hl 4 rfl) ?_
          refine rd_callV (C := RX1) (As := []) (rest := []) S (kX1_thrown l dC dI cI cZ cJ d 0 n mw nf sg fo L le sc (mgF hw t u v li mw) ba ca wa) rB_blind (fun U hU hW => ⟨by rw [hU]; exact lsY hP, va_K.moved hW.alike hK⟩) (va_recv hK hP (ci := 1) (q0 := 11) rfl rfl) gL_76 hdX1_thrown (by decide) hl.1 rfl (Nat.le_of_ble_eq_true rfl) dL_law_375 hc0 ?_
          refine lv_iload S.1 S.2.1 dL_law_378 (lv_at hl 1 rfl) ?_
          refine lv_icmp_eq (tgt := 385) S.1 S.2.1 dL_law_380 (by decide) (fun _ => ?_) (fun h => absurd rfl h)
          refine lv_iload S.1 S.2.1 dL_law_385 (lv_at hl 1 rfl) ?_
          refine lv_if_ne (tgt := 402) S.1 S.2.1 dL_law_387 (by decide) (fun h => absurd (by decide) h) (fun _ => ?_)
          refine lv_aload_n S.1 S.2.1 dL_law_390 rfl (lv_at hl 5 rfl) ?_
          refine lv_iconst (v := (nI 0)) S.1 S.2.1 dL_law_391 (by decide) ?_
          refine n_lald S hK hP 10 2 rfl rfl dL_law_392 ?_
          refine lv_iload S.1 S.2.1 dL_law_393 (lv_at hl 0 rfl) ?_
          refine lv_i2l (v := Int32.toInt64 (nI (cnt (mgP hw u v li) mw))) S.1 S.2.1 dL_law_395 rfl ?_
          refine n_lcmp S dL_law_396 ?_
          refine lv_if_eq (tgt := 402) S.1 S.2.1 dL_law_397 (by decide) (fun _ => ?_) (fun h => absurd rfl h)
          refine lv_goto (tgt := 1081) S.1 S.2.1 dL_law_402 (by decide) ?_
          refine W.widen (k := cells + 1) (n := slots + 6) (by omega) (by omega) ?_
          exact kk 0 n mw nf sg fo L le sc (mgF hw t u v li mw) ba ca st wa (vp_updL f 0 (Int32.toInt64 (nI (cnt (mgP hw u v li) mw)))) (iv_mg hI hw t u v mw h2 (Nat.le_refl _)) H locs hP hD hS ls (lv_sub hl [2, 3, 4, 5, 6] rfl)
