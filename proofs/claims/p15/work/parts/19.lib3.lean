theorem limF_rate (v : Int32) : ∃ k : Nat, 2000 ≤ k ∧ k ≤ 16000 ∧ limF v 2000 16000 = nI k := by
  unfold limF
  by_cases h1 : v < 2000
  · exact ⟨2000, by omega, by omega, by rw [if_pos h1]; rfl⟩
  · rw [if_neg h1]
    by_cases h2 : 16000 < v
    · exact ⟨16000, by omega, by omega, by rw [if_pos h2]; rfl⟩
    · rw [if_neg h2]
      rw [i_lt] at h1 h2
      have e1 : (2000 : Int32).toInt = 2000 := rfl
      have e2 : (16000 : Int32).toInt = 16000 := rfl
      obtain ⟨k, hk, e, hi⟩ := i_nI (x := v) (by rw [i_le]; have : (0 : Int32).toInt = 0 := rfl; omega)
      exact ⟨k, by omega, by omega, e⟩
