theorem tk_0 (tt : Int32) : tt + nI 0 = tt := Int32.add_zero _
theorem tk_s (tt : Int32) (qq : Nat) : tt + nI qq + 1 = tt + nI (qq + 1) := by rw [Int32.add_assoc, nI_1]
def loopG (le : Nat → Int32) (ii aa bb : Int32) : Prop := ∃ ks : Nat, 1 ≤ ks ∧ ks < 32 ∧ ii = nI ks ∧ lfP (le ks) aa bb
theorem lg_has {le : Nat → Int32} {ii aa bb : Int32} (hh : ¬ (1 ≤ ii ∧ ii ≤ 31)) : ¬ loopG le ii aa bb := by
  rintro ⟨ks, h1, h2, h3, -⟩
  exact hh (by rw [h3]; exact ⟨nI_le (a := 1) h1 (by omega), nI_le (b := 31) (by omega) (by decide)⟩)
theorem lg_f {le : Nat → Int32} {kx : Nat} {aa bb : Int32} (hk : kx < 32) (hh : ¬ lfP (le kx) aa bb) : ¬ loopG le (nI kx) aa bb := by
  rintro ⟨ks, h1, h2, h3, h4⟩
  have e1 : kx = ks := (nI_eq (by omega) (by omega)).mp h3
  subst e1
  exact hh h4
def waveG (le : Nat → Int32) (ii jj vv : Int32) : Prop := ∃ ks : Nat, 1 ≤ ks ∧ ks < 32 ∧ ii = nI ks ∧ (0 ≤ jj ∧ jj < le ks) ∧ (-128 ≤ vv ∧ vv ≤ 127)
theorem wg_has {le : Nat → Int32} {ii jj vv : Int32} (hh : ¬ (1 ≤ ii ∧ ii ≤ 31)) : ¬ waveG le ii jj vv := by
  rintro ⟨ks, h1, h2, h3, -⟩
  exact hh (by rw [h3]; exact ⟨nI_le (a := 1) h1 (by omega), nI_le (b := 31) (by omega) (by decide)⟩)
theorem wg_f {le : Nat → Int32} {kx : Nat} {jj vv : Int32} (hk : kx < 32) (hh : ¬ (0 ≤ jj ∧ jj < le kx)) : ¬ waveG le (nI kx) jj vv := by
  rintro ⟨ks, h1, h2, h3, h4, -⟩
  have e1 : kx = ks := (nI_eq (by omega) (by omega)).mp h3
  subst e1
  exact hh h4
theorem wg_v {le : Nat → Int32} {ii jj vv : Int32} (hh : ¬ (-128 ≤ vv ∧ vv ≤ 127)) : ¬ waveG le ii jj vv := by
  rintro ⟨ks, h1, h2, h3, h4, h5⟩
  exact hh h5
def b01 (vv : Int32) : Prop := vv = 0 ∨ vv = 1
theorem fit_fill {f : Nat → Int32} {aa bb : Nat} (hf : sb_Fit f) : sb_Fit (ffill f aa bb 0) := by
  intro jj
  simp only [ffill]
  by_cases hh : aa ≤ jj ∧ jj < bb
  · rw [if_pos hh]; exact sb_fit0 jj
  · rw [if_neg hh]; exact hf jj
theorem fit_upd {f : Nat → Int32} {kx : Nat} {vv : Int32} (hf : sb_Fit f) : sb_Fit (upd f kx vv.toInt8.toInt32) := sb_fitU hf (pk_fb _)
theorem fit_rs {f f2 : Nat → Int32} {aa bb cc lo hi : Nat} (hf : sb_Fit f) (he : f2 = ffill (va_cpy f f aa bb cc) lo hi 0) : sb_Fit f2 := by
  rw [he]
  exact fit_fill (sb_fitC hf hf)
