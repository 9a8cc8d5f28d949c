/-! numbers and rows of bytes -/
theorem isin1 {i n : Int32} (h1 : ¬ i < 0) (h2 : ¬ n ≤ i) : 0 ≤ i ∧ i < n := by
  rw [i_lt] at h1; rw [i_le] at h2; rw [i_le, i_lt]
  exact ⟨by have : (0 : Int32).toInt = 0 := rfl; omega, by omega⟩
theorem isin2 {i n : Int32} (h : i < 0) : ¬ (0 ≤ i ∧ i < n) := by
  rintro ⟨a, -⟩
  rw [i_lt] at h; rw [i_le] at a
  omega
theorem isin3 {i n : Int32} (h : n ≤ i) : ¬ (0 ≤ i ∧ i < n) := by
  rintro ⟨-, b⟩
  rw [i_le] at h; rw [i_lt] at b
  omega
theorem isin0 {j n : Nat} (h : j < n) (hn : n < 2 ^ 31) : 0 ≤ nI j ∧ nI j < nI n := ⟨nI_pos' (by omega), nI_lt h hn⟩
def fzero (f : Nat → Int32) (L k : Nat) : Nat → Int32 := fun x => if L ≤ x ∧ x < k then 0 else f x
def fput (f : Nat → Int32) (L j : Nat) (v : Int32) : Nat → Int32 := fun x => if x = j then v.toInt8.toInt32 else if L ≤ x ∧ x < j then 0 else f x
theorem fzero_0 (f : Nat → Int32) (L : Nat) : fzero f L L = f := by
  funext x
  simp only [fzero]
  rw [if_neg (by omega)]
theorem fzero_s {f : Nat → Int32} {L k : Nat} (h : L ≤ k) : upd (fzero f L k) k 0 = fzero f L (k + 1) := by
  funext x
  simp only [fzero, upd]
  by_cases h1 : x = k
  · rw [if_pos h1, if_pos (by omega)]
  · rw [if_neg h1]
    by_cases h2 : L ≤ x ∧ x < k
    · rw [if_pos h2, if_pos (by omega)]
    · rw [if_neg h2, if_neg (by omega)]
theorem fput_e {f : Nat → Int32} {L k j : Nat} {v : Int32} (h1 : k = j ∨ k = L) (h2 : j ≤ k) : upd (fzero f L k) j v.toInt8.toInt32 = fput f L j v := by
  funext x
  simp only [fzero, fput, upd]
  by_cases h3 : x = j
  · rw [if_pos h3, if_pos h3]
  · rw [if_neg h3, if_neg h3]
    by_cases h4 : L ≤ x ∧ x < k
    · rw [if_pos h4, if_pos (by omega)]
    · rw [if_neg h4, if_neg (by omega)]
theorem mx_nI {a b : Nat} (ha : a < 2 ^ 31) (hb : b < 2 ^ 31) : (if nI a < nI b then nI b else nI a) = nI (max a b) := by
  by_cases h : a < b
  · rw [if_pos (nI_lt h hb), show max a b = b by omega]
  · rw [if_neg (nI_nlt (by omega) ha), show max a b = a by omega]
theorem mn_nI {a b : Nat} (ha : a < 2 ^ 31) (hb : b < 2 ^ 31) : (if nI b < nI a then nI b else nI a) = nI (min a b) := by
  by_cases h : b < a
  · rw [if_pos (nI_lt h ha), show min a b = b by omega]
  · rw [if_neg (nI_nlt (by omega) hb), show min a b = a by omega]
theorem nI_nle' {a b : Nat} (h : ¬ nI a ≤ nI b) (hb : b < 2 ^ 31) : b < a := by
  rcases Nat.lt_or_ge b a with q | q
  · exact q
  · exact absurd (nI_le q hb) h
theorem nI_le' {a b : Nat} (h : nI a ≤ nI b) (ha : a < 2 ^ 31) (hb : b < 2 ^ 31) : a ≤ b := (nI_leI ha hb).mp h
def fapp (f : Nat → Int32) (L : Nat) (v : Int32) : Nat → Int32 := fput (fput (fput (fput f L L (v >>> (24 &&& 31))) (L + 1) (L + 1) (v >>> (16 &&& 31))) (L + 2) (L + 2) (v >>> (8 &&& 31))) (L + 3) (L + 3) (v >>> (0 &&& 31))
def limF (v lo hi : Int32) : Int32 := if v < lo then lo else if hi < v then hi else v
theorem i_nle {x y : Int32} : ¬ x ≤ y ↔ y < x := by rw [i_le, i_lt]; omega
theorem i_nlt {x y : Int32} : ¬ x < y ↔ y ≤ x := by rw [i_le, i_lt]; omega
theorem limF1 {v lo hi : Int32} (h : ¬ lo ≤ v) : lo = limF v lo hi := by rw [limF, if_pos (i_nle.mp h)]
theorem limF2 {v lo hi : Int32} (h : lo ≤ v) (h2 : ¬ v ≤ hi) : hi = limF v lo hi := by rw [limF, if_neg (i_nlt.mpr h), if_pos (i_nle.mp h2)]
theorem limF3 {v lo hi : Int32} (h : lo ≤ v) (h2 : v ≤ hi) : v = limF v lo hi := by rw [limF, if_neg (i_nlt.mpr h), if_neg (i_nlt.mpr h2)]
/-- all 32 samples -/
def famN (n : Nat) (ad : Nat → Nat) (le tu vo sr lo fr : Nat → Int32) : va_W := (List.range n).map (fun k => (ad k, .inr (5, [.int (le k), .int (tu k), .int (vo k), .int (sr k), .int (lo k), .int (fr k)])))
theorem z_byte (n : Nat) (cA : ClassId) : vp_cell cA (n, .inl (fun _ => 0)) = arrV cA n (fun _ => defaultValue .byte) := rfl
theorem z_int (n : Nat) (cA : ClassId) : vp_cell cA (n, .inl (fun _ => 0)) = arrV cA n (fun _ => defaultValue .int) := rfl
theorem z_boolean (n : Nat) (cA : ClassId) : vp_cell cA (n, .inl (fun _ => 0)) = arrV cA n (fun _ => defaultValue .boolean) := rfl
theorem z_long (n : Nat) (cA : ClassId) : vp_cell cA (n, .inr (.inl (fun _ => 0))) = arrV cA n (fun _ => defaultValue .long) := rfl
def ffill (f : Nat → Int32) (a k : Nat) (v : Int32) : Nat → Int32 := fun x => if a ≤ x ∧ x < k then v else f x
theorem ffill_0 (f : Nat → Int32) (a : Nat) (v : Int32) : ffill f a a v = f := by
  funext x
  simp only [ffill]
  rw [if_neg (by omega)]
theorem ffill_s {f : Nat → Int32} {a k : Nat} {v : Int32} (h : a ≤ k) : upd (ffill f a k v) k v = ffill f a (k + 1) v := by
  funext x
  simp only [ffill, upd]
  by_cases h1 : x = k
  · rw [if_pos h1, if_pos (by omega)]
  · rw [if_neg h1]
    by_cases h2 : a ≤ x ∧ x < k
    · rw [if_pos h2, if_pos (by omega)]
    · rw [if_neg h2, if_neg (by omega)]
theorem ffill_e {f : Nat → Int32} {a k b : Nat} {v : Int32} (h : k = b) (x : Nat) : ffill f a k v x = if a ≤ x ∧ x < b then v else f x := by subst h; rfl
theorem updL_s {g : Nat → Int64} {k : Nat} {v : Int64} (h : ∀ x, x < k → g x = v) {x : Nat} (hx : x < k + 1) : vp_updL g k v x = v := by
  simp only [vp_updL]
  by_cases h1 : x = k
  · rw [if_pos h1]
  · rw [if_neg h1]; exact h x (by omega)
theorem upd_s {g : Nat → Int32} {k : Nat} {v : Int32} (h : ∀ x, x < k → g x = v) {x : Nat} (hx : x < k + 1) : upd g k v x = v := by
  simp only [upd]
  by_cases h1 : x = k
  · rw [if_pos h1]
  · rw [if_neg h1]; exact h x (by omega)
