/-! ===== what a state is, and what is asked of it, in natural numbers ===== -/
def isL (u : Int32) : Bool := decide (nI 97 ≤ u) && decide (u < nI 123)
theorem isL_n {j : Nat} (h : j < 2 ^ 31) : isL (nI j) = (decide (97 ≤ j) && decide (j < 123)) := by
  simp only [isL, nI_leI (show 97 < 2 ^ 31 by decide) h, nI_ltI h (show 123 < 2 ^ 31 by decide)]
theorem isL_t {u : Int32} (h : isL u = true) : ∃ j : Nat, 97 ≤ j ∧ j ≤ 122 ∧ u = nI j := by
  simp only [isL, Bool.and_eq_true, decide_eq_true_eq] at h
  have h0 : ¬ u < 0 := fun q => absurd (Int32.lt_of_lt_of_le q (show (0 : Int32) ≤ nI 97 by decide)) (by
    intro z
    have a := Int32.lt_iff_toInt_lt.mp z
    have b := Int32.le_iff_toInt_le.mp h.1
    omega)
  obtain ⟨j, hj, rfl⟩ := nI_of h0
  exact ⟨j, (nI_leI (by decide) hj).mp h.1, by have := (nI_ltI hj (by decide)).mp h.2; omega, rfl⟩
def isLi (u : Int32) : Bool := decide (nI 0 ≤ u) && decide (u < nI 4)
theorem isLi_t {u : Int32} (h : isLi u = true) : ∃ j : Nat, j < 4 ∧ u = nI j := by
  simp only [isLi, Bool.and_eq_true, decide_eq_true_eq] at h
  have h0 : ¬ u < 0 := fun q => by
    have a := Int32.lt_iff_toInt_lt.mp q
    have b := Int32.le_iff_toInt_le.mp h.1
    rw [nI_0] at b
    omega
  obtain ⟨j, hj, rfl⟩ := nI_of h0
  exact ⟨j, (nI_ltI hj (by decide)).mp h.2, rfl⟩
/-- sign i of the row, folded -/
def fsg (sg fo : Nat → Nat) (i : Nat) : Nat := if sg i = 63 then 63 else fo (sg i - 97)
/-- what holds of every state -/
def iv (n m nf : Nat) (sg fo L le sc li ba ca : Nat → Nat) : Prop :=
  (n ≤ 15 ∧ m ≤ 250 ∧ nf ≤ m) ∧ ((∀ k, sg k ≤ 122) ∧ (∀ k, fo k ≤ 122) ∧ (∀ k, L k ≤ 122) ∧ (∀ k, le k ≤ 15) ∧ (∀ k, sc k ≤ 1000) ∧ (∀ k, li k ≤ 15) ∧ (∀ k, ba k ≤ 1) ∧ (∀ k, ca k < 250)) ∧
  (∀ i, i < n → sg i = 63 ∨ 97 ≤ sg i) ∧ (∀ k, k < 26 → 97 ≤ fo k) ∧ (∀ w, w < m → 1 ≤ le w) ∧ (∀ w i, w < m → i < le w → 97 ≤ L (15 * w + i)) ∧ (∀ w i, w < 250 → i < 15 → (m ≤ w ∨ le w ≤ i) → L (15 * w + i) = 0) ∧ (∀ w, m ≤ w → li w = 0 ∧ sc w = 0 ∧ ba w = 0) ∧ (∀ k, k < nf → ca k < m)
/-- what holds of the row and of the folding -/
def ivr (n : Nat) (sg fo : Nat → Nat) : Prop := n ≤ 15 ∧ (∀ k, sg k ≤ 122) ∧ (∀ k, fo k ≤ 122) ∧ (∀ i, i < n → sg i = 63 ∨ 97 ≤ sg i) ∧ (∀ k, k < 26 → 97 ≤ fo k)
theorem iv_r {n m nf : Nat} {sg fo L le sc li ba ca : Nat → Nat} (h : iv n m nf sg fo L le sc li ba ca) : ivr n sg fo := ⟨h.1.1, h.2.1.1, h.2.1.2.1, h.2.2.1, h.2.2.2.1⟩
theorem fsg_in {n m nf : Nat} {sg fo L le sc li ba ca : Nat → Nat} (h : iv n m nf sg fo L le sc li ba ca) {i : Nat} (hi : i < n) : fsg sg fo i = 63 ∨ (97 ≤ fsg sg fo i ∧ fsg sg fo i ≤ 122) := by
  obtain ⟨⟨hn, hm, hf⟩, ⟨hsg, hfo, -⟩, h1, h2, -⟩ := h
  unfold fsg
  by_cases q : sg i = 63
  · simp [q]
  · rw [if_neg q]
    have a := hsg i
    rcases h1 i hi with b | b
    · exact absurd b q
    · exact Or.inr ⟨h2 _ (by omega), hfo _⟩
theorem fsg_le {n m nf : Nat} {sg fo L le sc li ba ca : Nat → Nat} (h : iv n m nf sg fo L le sc li ba ca) (i : Nat) : fsg sg fo i ≤ 122 := by
  obtain ⟨-, ⟨-, hfo, -⟩, -⟩ := h
  unfold fsg
  by_cases q : sg i = 63
  · simp [q]
  · rw [if_neg q]; exact hfo _
/-- letter i of word w, or -1 -/
def lon (L le : Nat → Nat) (w : Nat) (i : Int32) : Int32 := if i < 0 ∨ nI (le w) ≤ i then -1 else nI (L (15 * w + i.toNatClampNeg))
theorem lon_in {L le : Nat → Nat} {w j : Nat} (hj : j < le w) (hle : le w ≤ 15) : lon L le w (nI j) = nI (L (15 * w + j)) := by
  unfold lon
  rw [if_neg (fun q => q.elim (fun q => nI_pos (by omega) q) (fun q => by have := (nI_leI (by omega) (by omega)).mp q; omega)), nI_clamp (by omega)]
theorem lon_out {L le : Nat → Nat} {w j : Nat} (hj : le w ≤ j) (hb : j < 2 ^ 31) : lon L le w (nI j) = -1 := by
  unfold lon
  rw [if_pos (Or.inr (nI_le hj hb))]
/-- the row stands in word w from place f on -/
def mat (n : Nat) (sg fo L : Nat → Nat) (w f : Nat) : Bool := decide (∀ i, i < n → fsg sg fo i = 63 ∨ fsg sg fo i = L (15 * w + (f + i)))
def hbl (n : Nat) (sg : Nat → Nat) : Bool := decide (∃ i, i < n ∧ sg i = 63)
def fit (n : Nat) (sg fo L le : Nat → Nat) (w : Nat) : Bool := decide (le w = n) && mat n sg fo L w 0
def inl (li : Nat → Nat) (w l : Nat) : Bool := (li w).testBit l
def fre (li ba : Nat → Nat) (l w : Nat) : Bool := inl li w l && decide (ba w = 0)
def cnt (P : Nat → Bool) : Nat → Nat
  | 0 => 0
  | k + 1 => cnt P k + (P k).toNat
theorem cnt_le (P : Nat → Bool) (k : Nat) : cnt P k ≤ k := by
  induction k with
  | zero => exact Nat.le_refl 0
  | succ k ih => simp only [cnt]; have := Bool.toNat_le (P k); omega
def smm (f : Nat → Nat) : Nat → Nat
  | 0 => 0
  | k + 1 => smm f k + f k
theorem smm_le {f : Nat → Nat} {B : Nat} (h : ∀ k, f k ≤ B) (k : Nat) : smm f k ≤ k * B := by
  induction k with
  | zero => exact Nat.zero_le _
  | succ k ih => simp only [smm]; have := h k; rw [Nat.succ_mul]; omega
/-- how far f and g are alike, up to b -/
def lcp (f g : Nat → Nat) : Nat → Nat
  | 0 => 0
  | b + 1 => if lcp f g b = b ∧ f b = g b then b + 1 else lcp f g b
theorem lcp_le (f g : Nat → Nat) (b : Nat) : lcp f g b ≤ b := by
  induction b with
  | zero => exact Nat.le_refl 0
  | succ b ih => simp only [lcp]; split <;> omega
theorem lcp_at {f g : Nat → Nat} {b i : Nat} (hi : i ≤ b) (h : ∀ j, j < i → f j = g j) (he : i = b ∨ f i ≠ g i) : lcp f g b = i := by
  have key : ∀ k, k ≤ i → lcp f g k = k := by
    intro k
    induction k with
    | zero => intro _; rfl
    | succ k ih => intro hk; simp only [lcp]; rw [if_pos ⟨ih (by omega), h k (by omega)⟩]
  rcases he with rfl | he
  · exact key i (Nat.le_refl i)
  · have key2 : ∀ k, i + 1 ≤ k → lcp f g k = i := by
      intro k
      induction k with
      | zero => intro hk; omega
      | succ k ih =>
        intro hk
        simp only [lcp]
        by_cases q : k = i
        · subst q
          rw [if_neg (fun z => he z.2), key k (Nat.le_refl k)]
        · rw [ih (by omega), if_neg (fun z => by omega)]
    by_cases q : i = b
    · subst q; exact key i (Nat.le_refl i)
    · exact key2 b (by omega)
theorem lcp_min (f g : Nat → Nat) (s b : Nat) : min s (lcp f g b) = lcp f g (min s b) := by
  have hx : ∃ i, i ≤ b ∧ (∀ j, j < i → f j = g j) ∧ (i = b ∨ f i ≠ g i) := by
    induction b with
    | zero => exact ⟨0, Nat.le_refl 0, fun j h => by omega, Or.inl rfl⟩
    | succ b ih =>
      obtain ⟨i, h1, h2, h3⟩ := ih
      by_cases q : f i = g i
      · have hib : i = b := h3.elim id (fun z => absurd q z)
        subst hib
        exact ⟨i + 1, Nat.le_refl _, fun j hj => by
          by_cases z : j = i
          · rw [z]; exact q
          · exact h2 j (by omega), Or.inl rfl⟩
      · exact ⟨i, by omega, h2, Or.inr q⟩
  obtain ⟨i, h1, h2, h3⟩ := hx
  rw [lcp_at h1 h2 h3]
  refine (lcp_at ?_ (fun j hj => h2 j (by omega)) ?_).symm
  · omega
  · by_cases q : s ≤ i
    · left; omega
    · rcases h3 with rfl | h3
      · left; omega
      · right; rw [Nat.min_eq_right (by omega)]; exact h3
theorem tb_lt : ∀ x, x < 16 → ∀ j, j < 4 → (nI x &&& ((1 : Int32) <<< (nI j &&& 31)) = 0 ↔ x.testBit j = false) ∧ (nI x >>> (nI j &&& 31) &&& 1) = nI (x.testBit j).toNat ∧ (∃ y, y < 16 ∧ y = x ||| 2 ^ j ∧ nI x ||| ((1 : Int32) <<< (nI j &&& 31)) = nI y) ∧ (∃ y, y < 16 ∧ y = x &&& (15 - 2 ^ j) ∧ nI x &&& (((1 : Int32) <<< (nI j &&& 31)) ^^^ (-1)) = nI y) := by
  have key : ∀ x : Fin 16, ∀ j : Fin 4, (nI x.val &&& ((1 : Int32) <<< (nI j.val &&& 31)) = 0 ↔ x.val.testBit j.val = false) ∧ (nI x.val >>> (nI j.val &&& 31) &&& 1) = nI (x.val.testBit j.val).toNat ∧ (x.val ||| 2 ^ j.val) < 16 ∧ nI x.val ||| ((1 : Int32) <<< (nI j.val &&& 31)) = nI (x.val ||| 2 ^ j.val) ∧ (x.val &&& (15 - 2 ^ j.val)) < 16 ∧ nI x.val &&& (((1 : Int32) <<< (nI j.val &&& 31)) ^^^ (-1)) = nI (x.val &&& (15 - 2 ^ j.val)) := by decide +kernel
  intro x hx j hj
  obtain ⟨h1, h2, h3, h4, h5, h6⟩ := key ⟨x, hx⟩ ⟨j, hj⟩
  exact ⟨h1, h2, ⟨_, h3, rfl, h4⟩, ⟨_, h5, rfl, h6⟩⟩
