theorem tp_in {ii : Int32} {LL : Nat} (hL : LL < 2 ^ 31) : (0 ≤ ii ∧ ii ≤ nI LL - 1) ↔ (0 ≤ ii ∧ ii < nI LL) := by
  have e0 : (0 : Int32).toInt = 0 := rfl
  rcases Nat.eq_zero_or_pos LL with qv | qv
  · subst qv
    have e1 : (nI 0 - 1 : Int32) = -1 := by decide
    have e2 : (-1 : Int32).toInt = -1 := rfl
    have e3 : (nI 0).toInt = 0 := rfl
    rw [e1, i_le, i_le, i_lt, e3]
    omega
  · rw [show (nI LL - 1 : Int32) = nI (LL - 1) from pk_sub qv, i_le, i_le, i_lt, nI_toInt hL, nI_toInt (by omega)]
    omega
theorem in2000 {nn : Int32} (hh : 0 ≤ nn ∧ nn ≤ 2000) : 0 ≤ nn.toInt ∧ nn.toInt ≤ 2000 := by
  have h1 := i_le.mp hh.1
  have h2 := i_le.mp hh.2
  have e1 : (2000 : Int32).toInt = 2000 := rfl
  have e0 : (0 : Int32).toInt = 0 := rfl
  omega
theorem in2000' {nn : Int32} (hh : 0 ≤ nn ∧ nn ≤ 2000) : 0 ≤ nn.toInt ∧ nn.toInt ≤ 131070 := by
  have := in2000 hh
  omega
theorem in7' {nn : Int32} (hh : 0 ≤ nn ∧ nn ≤ 7) : 0 ≤ nn.toInt ∧ nn.toInt ≤ 7 := by
  have h1 := i_le.mp hh.1
  have h2 := i_le.mp hh.2
  have e1 : (7 : Int32).toInt = 7 := rfl
  have e0 : (0 : Int32).toInt = 0 := rfl
  omega
theorem song_p {nn xx : Int32} (hh : songP nn xx) : plc nn ∧ rst xx := by
  obtain ⟨⟨h1, h2⟩, h3, h4⟩ := hh
  rw [i_le] at h1 h2 h3 h4
  have e1 : (1 : Int32).toInt = 1 := rfl
  have e2 : (128 : Int32).toInt = 128 := rfl
  have e3 : (255 : Int32).toInt = 255 := rfl
  have e0 : (0 : Int32).toInt = 0 := rfl
  unfold plc rst
  omega
theorem rg01 {ff : Nat → Int32} {jj : Nat} (hf : rg 4 0 1 ff) (hj : jj < 4) : ff jj = 0 ∨ ff jj = 1 := by
  obtain ⟨kx, hk, ek⟩ := rg_nat (mx := 1) hf hj rfl
  rw [ek]
  rcases (show kx = 0 ∨ kx = 1 by omega) with rfl | rfl
  · exact Or.inl rfl
  · exact Or.inr rfl
theorem b01_rg {vv : Int32} (hh : b01 vv) : 0 ≤ vv.toInt ∧ vv.toInt ≤ 1 := by
  rcases hh with rfl | rfl
  · exact ⟨by decide, by decide⟩
  · exact ⟨by decide, by decide⟩
theorem fr_in {ii fr : Int32} (hf : frm fr) (hh : 0 ≤ ii ∧ ii ≤ fr - 1) : ∃ jj : Nat, jj < 1300 ∧ ii = nI jj := by
  obtain ⟨h1, h2⟩ := hh
  obtain ⟨jj, hj, e1, e2⟩ := i_nI h1
  unfold frm at hf
  rw [i_le, Int32.toInt_sub, show (1 : Int32).toInt = 1 from rfl, Int.bmod_eq_of_le (by first | omega | (push_cast; omega)) (by first | omega | (push_cast; omega))] at h2
  exact ⟨jj, by omega, e1⟩
theorem up_e {aa bb : Nat} (h : aa = bb) : nI aa = nI bb := by rw [h]
