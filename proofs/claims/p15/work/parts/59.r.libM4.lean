/-! the model's reading and writing: numbers -/
def by8 (ft : Nat → Int32) (kx : Nat) : Nat := (ft kx &&& 255).toInt.toNat
theorem by8_e (ft : Nat → Int32) (kx : Nat) : ft kx &&& 255 = nI (by8 ft kx) := by
  obtain ⟨jj, h1, h2⟩ := pk_andE (ft kx) (m := 255) 8 (by decide)
  unfold by8
  rw [h2, nI_toInt (by omega)]
  rfl
theorem by8_lt (ft : Nat → Int32) (kx : Nat) : by8 ft kx < 256 := by
  obtain ⟨jj, h1, h2⟩ := pk_andE (ft kx) (m := 255) 8 (by decide)
  unfold by8
  rw [h2, nI_toInt (by omega)]
  omega
def tw2 (ft : Nat → Int32) (kx : Nat) : Nat := 2 * (256 * by8 ft kx + by8 ft (kx + 1))
theorem tw2_lt (ft : Nat → Int32) (kx : Nat) : tw2 ft kx ≤ 131070 := by
  have h1 := by8_lt ft kx
  have h2 := by8_lt ft (kx + 1)
  unfold tw2
  omega
def l2 (ft : Nat → Int32) (sx : Nat) : Nat := if sx = 0 then 0 else tw2 ft (30 * sx + 12)
theorem l2_e (ft : Nat → Int32) {sx : Nat} (hs : 1 ≤ sx) : l2 ft sx = tw2 ft (30 * sx + 12) := by
  unfold l2
  rw [if_neg (by omega)]
theorem l2_sum (ft : Nat → Int32) {kx : Nat} (hk : kx ≤ 32) : sumTo (l2 ft) kx ≤ 131070 * kx := by
  induction kx with
  | zero => exact Nat.le_refl _
  | succ kx ih =>
    have := ih (by omega)
    have h2 : l2 ft kx ≤ 131070 := by
      unfold l2
      by_cases hh : kx = 0
      · rw [if_pos hh]; exact Nat.zero_le _
      · rw [if_neg hh]; exact tw2_lt ft _
    show sumTo (l2 ft) kx + l2 ft kx ≤ _
    omega
theorem l2_s (ft : Nat → Int32) {sx : Nat} (hs : 1 ≤ sx) : sumTo (l2 ft) (sx + 1) = sumTo (l2 ft) sx + tw2 ft (30 * sx + 12) := by
  show sumTo (l2 ft) sx + l2 ft sx = _
  rw [l2_e ft hs]
theorem l2_32 (ft : Nat → Int32) {sx : Nat} (hs : 1 ≤ sx) (h3 : sx < 32) : sumTo (l2 ft) sx + tw2 ft (30 * sx + 12) ≤ sumTo (l2 ft) 32 := by
  have := sumTo_s (l2 ft) h3
  rw [l2_e ft hs] at this
  exact this
def lz (ff : Nat → Int32) (sx : Nat) : Nat := if sx = 0 then 0 else (ff sx).toInt.toNat
theorem lz_e {ff : Nat → Int32} {sx jj : Nat} (hs : 1 ≤ sx) (he : ff sx = nI jj) (hj : jj < 2 ^ 31) : lz ff sx = jj := by
  unfold lz
  rw [if_neg (by omega), he, nI_toInt hj]
  rfl
theorem lz_s {ff : Nat → Int32} {sx jj : Nat} (hs : 1 ≤ sx) (he : ff sx = nI jj) (hj : jj < 2 ^ 31) : sumTo (lz ff) (sx + 1) = sumTo (lz ff) sx + jj := by
  show sumTo (lz ff) sx + lz ff sx = _
  rw [lz_e hs he hj]
theorem lz_32 {ff : Nat → Int32} {sx jj : Nat} (hs : 1 ≤ sx) (h3 : sx < 32) (he : ff sx = nI jj) (hj : jj < 2 ^ 31) : sumTo (lz ff) sx + jj ≤ sumTo (lz ff) 32 := by
  have := sumTo_s (lz ff) h3
  rw [lz_e hs he hj] at this
  exact this
theorem lz_sum {ff : Nat → Int32} (hf : rg 32 0 2000 ff) {kx : Nat} (hk : kx ≤ 32) : sumTo (lz ff) kx ≤ 2000 * kx := by
  induction kx with
  | zero => exact Nat.le_refl _
  | succ kx ih =>
    have := ih (by omega)
    have h2 : lz ff kx ≤ 2000 := by
      unfold lz
      by_cases hh : kx = 0
      · rw [if_pos hh]; exact Nat.zero_le _
      · rw [if_neg hh]
        have := (hf kx (by omega)).2
        omega
    show sumTo (lz ff) kx + lz ff kx ≤ _
    omega
theorem upd_at (ff : Nat → Int32) (kx : Nat) (vv : Int32) : upd ff kx vv kx = vv := by simp [upd]
theorem al_s {PP : Nat → Prop} {qq : Nat} (hh : ∀ ss, ss < qq → PP ss) (h1 : PP qq) : ∀ ss, ss < qq + 1 → PP ss := by
  intro ss hs
  by_cases he : ss = qq
  · rw [he]; exact h1
  · exact hh ss (by omega)
theorem al1_s {PP : Nat → Prop} {qq : Nat} (hh : ∀ ss, 1 ≤ ss → ss < qq → PP ss) (h1 : PP qq) : ∀ ss, 1 ≤ ss → ss < qq + 1 → PP ss := by
  intro ss h0 hs
  by_cases he : ss = qq
  · rw [he]; exact h1
  · exact hh ss h0 (by omega)
theorem in128 {aa : Nat} (ha : aa < 256) (hh : 1 ≤ nI aa ∧ nI aa ≤ 128) : 1 ≤ aa ∧ aa ≤ 128 := ⟨nI_le' (a := 1) hh.1 (by decide) (by omega), nI_le' (b := 128) hh.2 (by omega) (by decide)⟩
theorem nI_nlt2' {aa : Nat} (hh : ¬ (2000 : Int32) < nI aa) (ha : aa < 2 ^ 31) : aa ≤ 2000 := nI_nlt2 (a := 2000) hh ha
