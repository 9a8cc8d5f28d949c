theorem st_ex {sp kk : Nat} (h1 : 0 < sp) (h2 : 2000 ≤ kk) (h3 : sp ≤ 2147483647) (h4 : kk ≤ 16000) : ∃ st : Nat, st ≤ 116224656 ∧ st = 232449310720 / (sp * kk) ∧ 0 < sp * kk ∧ sp * kk < 2 ^ 63 := by
  have k1 : 2000 ≤ sp * kk := by
    calc 2000 ≤ kk := h2
      _ = 1 * kk := (Nat.one_mul kk).symm
      _ ≤ sp * kk := Nat.mul_le_mul_right kk h1
  have k2 : sp * kk ≤ 2147483647 * 16000 := Nat.mul_le_mul h3 h4
  refine ⟨_, ?_, rfl, by omega, by omega⟩
  calc 232449310720 / (sp * kk) ≤ 232449310720 / 2000 := Nat.div_le_div_left k1 (by decide)
    _ ≤ 116224656 := by decide
theorem lN_ne0 {aa : Nat} (h1 : 0 < aa) (h2 : aa < 2 ^ 63) : lN aa ≠ 0 := fun qv => by
  have := (pk_lEQ (b := 0) h2 (by decide)).mp qv
  omega
theorem nI_0' {aa : Nat} (hh : ¬ nI aa = 0) : 0 < aa := by
  rcases Nat.eq_zero_or_pos aa with qv | qv
  · subst qv; exact absurd rfl hh
  · exact qv
theorem frm_nI {mf : Nat} (hh : mf ≤ 1250) : frm (nI mf) := nI_rg (by omega) (by omega) (by omega)
theorem in400 {xx : Int32} (hh : 0 ≤ xx ∧ xx ≤ 400) : ∃ pp : Nat, pp ≤ 400 ∧ xx = nI pp := by
  obtain ⟨h1, h2⟩ := hh
  obtain ⟨jj, hj, e1, e2⟩ := i_nI h1
  rw [i_le] at h2
  have : (400 : Int32).toInt = 400 := rfl
  exact ⟨jj, by omega, e1⟩
