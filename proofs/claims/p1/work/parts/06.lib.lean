/-! numbers and rows of bytes -/
theorem isin1 {i n : Int32} (h1 : ¬ i < 0) (h2 : ¬ n ≤ i) : 0 ≤ i ∧ i < n := by
  rw [i_lt] at h1; rw [i_le] at h2; rw [i_le, i_lt]
  exact ⟨by have : (0 : Int32).toInt = 0 := rfl; omega, by omega⟩
theorem isin2 {i n : Int32} (h : i < 0) : ¬ (0 ≤ i ∧ i < n) := by
  rintro ⟨a, -⟩
  rw [i_lt] at h; rw [i_le] at a
  omega
theorem isin3 {i n : Int32} (h : n ≤ i) : ¬ (0 ≤ i ∧ i < n) := by
  rintro ⟨-, b⟩
  rw [i_le] at h; rw [i_lt] at b
  omega
theorem isin0 {j n : Nat} (h : j < n) (hn : n < 2 ^ 31) : 0 ≤ nI j ∧ nI j < nI n := ⟨nI_pos' (by omega), nI_lt h hn⟩
def fzero (f : Nat → Int32) (L k : Nat) : Nat → Int32 := fun x => if L ≤ x ∧ x < k then 0 else f x
def fput (f : Nat → Int32) (L j : Nat) (v : Int32) : Nat → Int32 := fun x => if x = j then v.toInt8.toInt32 else if L ≤ x ∧ x < j then 0 else f x
theorem fzero_0 (f : Nat → Int32) (L : Nat) : fzero f L L = f := by
  funext x
  simp only [fzero]
  rw [if_neg (by omega)]
theorem fzero_s {f : Nat → Int32} {L k : Nat} (h : L ≤ k) : upd (fzero f L k) k 0 = fzero f L (k + 1) := by
  funext x
  simp only [fzero, upd]
  by_cases h1 : x = k
  · rw [if_pos h1, if_pos (by omega)]
  · rw [if_neg h1]
    by_cases h2 : L ≤ x ∧ x < k
    · rw [if_pos h2, if_pos (by omega)]
    · rw [if_neg h2, if_neg (by omega)]
theorem fput_e {f : Nat → Int32} {L k j : Nat} {v : Int32} (h1 : k = j ∨ k = L) (h2 : j ≤ k) : upd (fzero f L k) j v.toInt8.toInt32 = fput f L j v := by
  funext x
  simp only [fzero, fput, upd]
  by_cases h3 : x = j
  · rw [if_pos h3, if_pos h3]
  · rw [if_neg h3, if_neg h3]
    by_cases h4 : L ≤ x ∧ x < k
    · rw [if_pos h4, if_pos (by omega)]
    · rw [if_neg h4, if_neg (by omega)]
theorem mx_nI {a b : Nat} (ha : a < 2 ^ 31) (hb : b < 2 ^ 31) : (if nI a < nI b then nI b else nI a) = nI (max a b) := by
  by_cases h : a < b
  · rw [if_pos (nI_lt h hb), show max a b = b by omega]
  · rw [if_neg (nI_nlt (by omega) ha), show max a b = a by omega]
theorem mn_nI {a b : Nat} (ha : a < 2 ^ 31) (hb : b < 2 ^ 31) : (if nI b < nI a then nI b else nI a) = nI (min a b) := by
  by_cases h : b < a
  · rw [if_pos (nI_lt h ha), show min a b = b by omega]
  · rw [if_neg (nI_nlt (by omega) hb), show min a b = a by omega]
theorem nI_nle' {a b : Nat} (h : ¬ nI a ≤ nI b) (hb : b < 2 ^ 31) : b < a := by
  rcases Nat.lt_or_ge b a with q | q
  · exact q
  · exact absurd (nI_le q hb) h
theorem nI_le' {a b : Nat} (h : nI a ≤ nI b) (ha : a < 2 ^ 31) (hb : b < 2 ^ 31) : a ≤ b := (nI_leI ha hb).mp h
def fapp (f : Nat → Int32) (L : Nat) (v : Int32) : Nat → Int32 := fput (fput (fput (fput f L L (v >>> (24 &&& 31))) (L + 1) (L + 1) (v >>> (16 &&& 31))) (L + 2) (L + 2) (v >>> (8 &&& 31))) (L + 3) (L + 3) (v >>> (0 &&& 31))
