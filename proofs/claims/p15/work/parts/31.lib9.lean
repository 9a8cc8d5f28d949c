theorem rate_m {p0 ra_ rb_ : Int32} (h1 : ra_ = if p0 < 16000 then p0 else 16000) (h2 : rb_ = if 2000 < ra_ then ra_ else 2000) : ∃ kk : Nat, 2000 ≤ kk ∧ kk ≤ 16000 ∧ rb_ = nI kk := by
  have e1 : (2000 : Int32).toInt = 2000 := rfl
  have e2 : (16000 : Int32).toInt = 16000 := rfl
  have h3 : ra_ ≤ 16000 := by
    rw [h1]
    by_cases hp : p0 < 16000
    · rw [if_pos hp, i_le]; have := i_lt.mp hp; omega
    · rw [if_neg hp, i_le]; exact Int.le_refl _
  by_cases hq : 2000 < ra_
  · rw [if_pos hq] at h2
    have q1 := i_lt.mp hq
    have q2 := i_le.mp h3
    obtain ⟨kk, hk, ek, ik⟩ := i_nI (x := ra_) (by rw [i_le]; have : (0 : Int32).toInt = 0 := rfl; omega)
    exact ⟨kk, by omega, by omega, by rw [h2]; exact ek⟩
  · rw [if_neg hq] at h2
    exact ⟨2000, by omega, by omega, by rw [h2]; rfl⟩
theorem play_0 {xx : Int32} (h1 : 0 ≤ xx ∧ xx ≤ 400) (h2 : xx ≤ 0) : 0 = playF xx := by
  have : xx = 0 := in_00.mp ⟨h1.1, h2⟩
  subst this
  rfl
theorem tick_m {tt : Nat} (h1 : tt < 6) (h2 : nI (tt + 1) < (6 : Int32)) : tt + 1 < 6 := nI_lt' (b := 6) h2 (by omega) (by decide)
theorem nI_ne0' {nn : Nat} (h : 0 < nn) (h2 : nn < 2 ^ 31) : ¬ nI nn = 0 := nI_ne0 h h2
theorem one_le {pp : Nat} (h : ¬ nI pp ≤ 0) : 1 ≤ pp := by
  rcases Nat.eq_zero_or_pos pp with qv | qv
  · subst qv; exact absurd (by decide) h
  · exact qv
