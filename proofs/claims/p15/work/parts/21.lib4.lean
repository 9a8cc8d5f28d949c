noncomputable def bF (P : Prop) : Int32 := @ite _ P (Classical.propDecidable P) 1 0
theorem bF_t {P : Prop} (h : P) : 1 = bF P := by unfold bF; rw [if_pos h]
theorem bF_f {P : Prop} (h : ¬ P) : 0 = bF P := by unfold bF; rw [if_neg h]
def pokeF (i : Int32) : Int32 := if 0 ≤ i ∧ i < 9000 then i + 1 else -1
def faultF (w : Int32) : Int32 := if w = 0 then 0 else -1
def sampP (s n t v : Int32) : Prop := (1 ≤ s ∧ s ≤ 31) ∧ (0 ≤ n ∧ n ≤ 2000) ∧ n - n / 2 * 2 = 0 ∧ (-8 ≤ t ∧ t ≤ 7) ∧ (0 ≤ v ∧ v ≤ 64)
def loopP (s a b : Int32) : Prop := (1 ≤ s ∧ s ≤ 31) ∧ a = 0 ∧ (b = 0 ∨ b = 2)
def cellsP (p r c : Int32) : Prop := (0 ≤ p ∧ p < 8) ∧ (0 ≤ r ∧ r < 64) ∧ (0 ≤ c ∧ c < 4)
def songP (n r : Int32) : Prop := (1 ≤ n ∧ n ≤ 128) ∧ (0 ≤ r ∧ r ≤ 255)
def nowF (w : Int32) : Int32 := if w = 4 then 6 else if w = 5 then 125 else if w = 6 then 0 else if w = 7 then 17 else if w = 8 then 0 else -1
theorem nowF_out {w : Int32} (h : w.toInt < 4 ∨ 8 < w.toInt) : -1 = nowF w := by
  unfold nowF
  rw [if_neg, if_neg, if_neg, if_neg, if_neg] <;> (intro q; subst q; revert h; decide)
noncomputable def chF (c w : Int32) : Int32 := @ite _ ((0 ≤ c ∧ c < 4) ∧ (0 ≤ w ∧ w ≤ 13)) (Classical.propDecidable _) 0 (-1)
theorem chF_t {c w : Int32} (h : (0 ≤ c ∧ c < 4) ∧ (0 ≤ w ∧ w ≤ 13)) : 0 = chF c w := by unfold chF; rw [if_pos h]
theorem chF_f {c w : Int32} (h : ¬ ((0 ≤ c ∧ c < 4) ∧ (0 ≤ w ∧ w ≤ 13))) : -1 = chF c w := by unfold chF; rw [if_neg h]
noncomputable def cofF (p r c : Int32) : Int32 := @ite _ (cellsP p r c) (Classical.propDecidable _) 0 (-1)
theorem cofF_t {p r c : Int32} (h : cellsP p r c) : 0 = cofF p r c := by unfold cofF; rw [if_pos h]
theorem cofF_f {p r c : Int32} (h : ¬ cellsP p r c) : -1 = cofF p r c := by unfold cofF; rw [if_neg h]
def playF (n : Int32) : Int32 := if 0 ≤ n ∧ n ≤ 400 then n else -1
/-- what loopFits says -/
def lfP (n a b : Int32) : Prop := 0 ≤ a ∧ 0 ≤ b ∧ a - a / 2 * 2 = 0 ∧ b - b / 2 * 2 = 0 ∧ (if b ≤ 2 then a.toInt else a.toInt + b.toInt) ≤ n.toInt
theorem lg_gt {x y : Int64} : 0 < lg_cmp x y ↔ y < x := by
  unfold lg_cmp
  by_cases h : y < x
  · simp [h]
  · by_cases h2 : x = y
    · simp [h, h2]
    · simp [h, h2]
theorem l_lt {x y : Int64} : x < y ↔ x.toInt < y.toInt := Int64.lt_iff_toInt_lt
theorem i2l_int (x : Int32) : x.toInt64.toInt = x.toInt := Int32.toInt_toInt64 x
theorem i2l_add (x y : Int32) : (x.toInt64 + y.toInt64).toInt = x.toInt + y.toInt := by
  rw [Int64.toInt_add, i2l_int, i2l_int]
  have h1 := i_rng x
  have h2 := i_rng y
  apply Int.bmod_eq_of_le <;> omega
theorem rem2_cases {b : Int32} (h1 : 0 ≤ b) (h2 : b ≤ 2) (h3 : b - b / 2 * 2 = 0) : b = 0 ∨ b = 2 := by
  rw [i_le] at h1 h2
  have e0 : (0 : Int32).toInt = 0 := rfl
  have e2 : (2 : Int32).toInt = 2 := rfl
  have h4 : b.toInt = 0 ∨ b.toInt = 1 ∨ b.toInt = 2 := by omega
  rcases h4 with h | h | h
  · exact Or.inl (i_eq.mpr h)
  · have : b = 1 := i_eq.mpr h
    subst this
    exact absurd h3 (by decide)
  · exact Or.inr (i_eq.mpr h)
theorem end0 {n : Int32} (h1 : ¬ n < 0) (h2 : n ≤ 0) : n = 0 := by
  rw [i_lt] at h1; rw [i_le] at h2; rw [i_eq]; omega
theorem end1 {n : Int32} (h1 : n < 0) : ¬ n = 0 := fun q => by subst q; revert h1; decide
theorem end2 {n : Int32} (h1 : ¬ n ≤ 0) : ¬ n = 0 := fun q => by subst q; revert h1; decide
theorem lenOk_n {n o : Int32} (h : lenOk n o) : ∃ k : Nat, k ≤ 2000 ∧ n = nI k := by
  obtain ⟨h1, h2, -, -⟩ := h
  obtain ⟨k, hk, e, hi⟩ := i_nI h1
  refine ⟨k, ?_, e⟩
  rw [i_le] at h2
  have : (2000 : Int32).toInt = 2000 := rfl
  omega
theorem lenOk_0 {n : Int32} (h : 0 ≤ n ∧ n ≤ 2000) (h2 : n - n / 2 * 2 = 0) : lenOk n (0 - 0) := by
  refine ⟨h.1, h.2, h2, ?_⟩
  have e : (0 : Int32) - 0 + n = n := by rw [show (0 : Int32) - 0 = 0 from rfl, Int32.zero_add]
  rw [e]
  have h3 := h.2
  rw [i_le] at h3 ⊢
  have e1 : (2000 : Int32).toInt = 2000 := rfl
  have e2 : (4000 : Int32).toInt = 4000 := rfl
  omega
theorem isin_0 {i : Int32} (h : 0 ≤ i ∧ i < 0) : False := by
  obtain ⟨a, b⟩ := h
  rw [i_le] at a; rw [i_lt] at b
  omega
theorem lf1 {n a b : Int32} (h : ¬ b ≤ 2) (h2 : ¬ 0 < lg_cmp (a.toInt64 + b.toInt64) n.toInt64) : (if b ≤ 2 then a.toInt else a.toInt + b.toInt) ≤ n.toInt := by
  rw [if_neg h]
  rw [lg_gt, l_lt, i2l_int, i2l_add] at h2
  omega
theorem lf2 {n a b : Int32} (h : b ≤ 2) (h2 : ¬ 0 < lg_cmp a.toInt64 n.toInt64) : (if b ≤ 2 then a.toInt else a.toInt + b.toInt) ≤ n.toInt := by
  rw [if_pos h]
  rw [lg_gt, l_lt, i2l_int, i2l_int] at h2
  omega
theorem lf3 {n a b : Int32} (h : ¬ b ≤ 2) (h2 : 0 < lg_cmp (a.toInt64 + b.toInt64) n.toInt64) : ¬ (if b ≤ 2 then a.toInt else a.toInt + b.toInt) ≤ n.toInt := by
  rw [if_neg h]
  rw [lg_gt, l_lt, i2l_int, i2l_add] at h2
  omega
theorem lf4 {n a b : Int32} (h : b ≤ 2) (h2 : 0 < lg_cmp a.toInt64 n.toInt64) : ¬ (if b ≤ 2 then a.toInt else a.toInt + b.toInt) ≤ n.toInt := by
  rw [if_pos h]
  rw [lg_gt, l_lt, i2l_int, i2l_int] at h2
  omega
theorem lf_0 {a b : Int32} (h : lfP 0 a b) : a = 0 ∧ (b = 0 ∨ b = 2) := by
  obtain ⟨h1, h2, h3, h4, h5⟩ := h
  have e0 : (0 : Int32).toInt = 0 := rfl
  have e2 : (2 : Int32).toInt = 2 := rfl
  by_cases hb : b ≤ 2
  · rw [if_pos hb] at h5
    have h1' := i_le.mp h1
    exact ⟨i_eq.mpr (by omega), rem2_cases h2 hb h4⟩
  · rw [if_neg hb] at h5
    have h1' := i_le.mp h1
    have hb' := i_lt.mp (i_nle.mp hb)
    omega
theorem lf_z {a b : Int32} (h : a = 0) (h2 : b = 0 ∨ b = 2) : lfP 0 a b := by
  subst h
  rcases h2 with rfl | rfl <;> (unfold lfP; decide)
theorem cells_n {x y z : Int32} (h : cellsP x y z) : ∃ a b d : Nat, a < 8 ∧ b < 64 ∧ d < 4 ∧ x = nI a ∧ y = nI b ∧ z = nI d := by
  obtain ⟨h1, h2, h3⟩ := h
  obtain ⟨a, ha, e1⟩ := i_in (n := 8) (by decide) h1.1 h1.2
  obtain ⟨b, hb, e2⟩ := i_in (n := 64) (by decide) h2.1 h2.2
  obtain ⟨d, hd, e3⟩ := i_in (n := 4) (by decide) h3.1 h3.2
  exact ⟨a, b, d, ha, hb, hd, e1, e2, e3⟩
theorem now_4 {w : Int32} (h : w ≤ 3) : w.toInt < 4 := by
  rw [i_le] at h
  have : (3 : Int32).toInt = 3 := rfl
  omega
theorem ch_lo {w : Int32} (h : w.toInt < 0) (q : 0 ≤ w ∧ w ≤ 13) : False := by
  have := i_le.mp q.1
  have : (0 : Int32).toInt = 0 := rfl
  omega
theorem ch_hi {w : Int32} (h : 13 < w.toInt) (q : 0 ≤ w ∧ w ≤ 13) : False := by
  have := i_le.mp q.2
  have : (13 : Int32).toInt = 13 := rfl
  omega
