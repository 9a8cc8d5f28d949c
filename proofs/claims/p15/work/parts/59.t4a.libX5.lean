/-! the model's samples, exactly -/
theorem smp_e {ln : Nat → Nat} {kx nx : Nat} (h0 : ln 0 = 0) (hk : kx < 32) (h4 : sumTo ln 32 ≤ 4000) : nx + sumTo (updN ln kx 0) 32 = sumTo ln 32 - ln kx + nx := by
  have h1 := sumTo_gt ln kx 0 32 hk
  have h2 := sumTo_s ln hk
  omega
theorem upn_ne {ln : Nat → Nat} {kx jx : Nat} (hh : ¬ jx = kx) : updN ln kx 0 jx = ln jx := by simp only [updN]; rw [if_neg hh]
theorem upn_eq (ln : Nat → Nat) (kx : Nat) : updN ln kx 0 kx = 0 := by simp [updN]
theorem up0_le (ln : Nat → Nat) {kx jx : Nat} : sumTo (updN ln kx 0) jx ≤ sumTo ln jx := by
  induction jx with
  | zero => exact Nat.le_refl _
  | succ jx ih =>
    simp only [sumTo]
    have : updN ln kx 0 jx ≤ ln jx := by
      simp only [updN]
      by_cases h1 : jx = kx
      · rw [if_pos h1]; exact Nat.zero_le _
      · rw [if_neg h1]; exact Nat.le_refl _
    omega
theorem lp_iff {nn : Nat} {aa bb : Int32} (hn : nn ≤ 2000) (ha : 0 ≤ aa ∧ aa ≤ 2000) (hb : 0 ≤ bb ∧ bb ≤ 2000) (va : aa - aa / 2 * 2 = 0) (vb : bb - bb / 2 * 2 = 0) : lfP (nI nn) aa bb ↔ (if bb ≤ 2 then aa.toInt else aa.toInt + bb.toInt) ≤ nn := by
  unfold lfP
  rw [nI_toInt (show nn < 2 ^ 31 by omega)]
  constructor
  · rintro ⟨-, -, -, -, h5⟩; exact h5
  · intro h5; exact ⟨ha.1, hb.1, va, vb, h5⟩
theorem lp_rng {nn : Nat} {aa bb : Int32} (hn : nn ≤ 2000) (hh : lfP (nI nn) aa bb) : (0 ≤ aa ∧ aa ≤ 2000) ∧ (0 ≤ bb ∧ bb ≤ 2000) ∧ aa - aa / 2 * 2 = 0 ∧ bb - bb / 2 * 2 = 0 := by
  obtain ⟨h1, h2, h3, h4, h5⟩ := hh
  rw [nI_toInt (show nn < 2 ^ 31 by omega)] at h5
  have k1 := i_le.mp h1
  have k2 := i_le.mp h2
  have e0 : (0 : Int32).toInt = 0 := rfl
  have e2 : (2 : Int32).toInt = 2 := rfl
  have e3 : (2000 : Int32).toInt = 2000 := rfl
  refine ⟨⟨h1, ?_⟩, ⟨h2, ?_⟩, h3, h4⟩
  · rw [i_le]
    by_cases hb : bb ≤ 2
    · rw [if_pos hb] at h5; omega
    · rw [if_neg hb] at h5; omega
  · rw [i_le]
    by_cases hb : bb ≤ 2
    · have := i_le.mp hb; omega
    · rw [if_neg hb] at h5; omega
theorem i_sum {aa bb : Int32} (ha : 0 ≤ aa ∧ aa ≤ 2000) (hb : 0 ≤ bb ∧ bb ≤ 2000) : (aa + bb).toInt = aa.toInt + bb.toInt := by
  obtain ⟨ja, h1, e1, i1⟩ := i_nI ha.1
  obtain ⟨jb, h2, e2, i2⟩ := i_nI hb.1
  have k1 := i_le.mp ha.2
  have k2 := i_le.mp hb.2
  have e3 : (2000 : Int32).toInt = 2000 := rfl
  rw [i1, i2, e1, e2, nI_add, nI_toInt (by omega)]
  omega
theorem in2000n {nn : Int32} (hh : 0 ≤ nn ∧ nn ≤ 2000) : ∃ nq : Nat, nq ≤ 2000 ∧ nn = nI nq := by
  have h2 := in2000 hh
  obtain ⟨jj, hj, e1, e2⟩ := i_nI hh.1
  exact ⟨jj, by omega, e1⟩
theorem sgm_n {ln : Nat → Nat} {ii nn tt vv : Int32} (hh : ¬ (0 ≤ nn ∧ nn ≤ 2000)) : ¬ sampG ln ii nn tt vv := by
  rintro ⟨ks, ns, h1, h2, h3, h4, h5, -⟩
  exact hh (by rw [h4]; exact ⟨nI_pos' (by omega), nI_le (b := 2000) h5 (by decide)⟩)
theorem sgm_e {ln : Nat → Nat} {ii tt vv : Int32} {nq : Nat} (hq : nq ≤ 2000) (hh : ¬ nI (nq % 2) = 0) : ¬ sampG ln ii (nI nq) tt vv := by
  rintro ⟨ks, ns, h1, h2, h3, h4, h5, h6, -⟩
  have e1 : nq = ns := (nI_eq (by omega) (by omega)).mp h4
  subst e1
  exact hh (by rw [h6]; rfl)
theorem sgm_s {ln : Nat → Nat} {tt vv : Int32} {kx nq : Nat} (hk : kx < 32) (hq : nq ≤ 2000) (hh : ¬ sumTo ln 32 - ln kx + nq ≤ 4000) : ¬ sampG ln (nI kx) (nI nq) tt vv := by
  rintro ⟨ks, ns, h1, h2, h3, h4, h5, h6, h7, -⟩
  have e1 : nq = ns := (nI_eq (by omega) (by omega)).mp h4
  have e2 : kx = ks := (nI_eq (by omega) (by omega)).mp h3
  subst e1
  subst e2
  exact hh h7
theorem lgm_r {le : Nat → Int32} {ii aa bb : Int32} (hl : ∀ ss, 1 ≤ ss → ss < 32 → ∃ nn : Nat, nn ≤ 2000 ∧ le ss = nI nn) (hh : ¬ ((0 ≤ aa ∧ aa ≤ 2000) ∧ (0 ≤ bb ∧ bb ≤ 2000) ∧ aa - aa / 2 * 2 = 0 ∧ bb - bb / 2 * 2 = 0)) : ¬ loopG le ii aa bb := by
  rintro ⟨ks, h1, h2, -, h4⟩
  obtain ⟨nn, hn, en⟩ := hl ks h1 h2
  rw [en] at h4
  exact hh (lp_rng hn h4)
theorem rg_ex {ff : Nat → Int32} (hf : rg 32 0 2000 ff) : ∀ ss, 1 ≤ ss → ss < 32 → ∃ nn : Nat, nn ≤ 2000 ∧ ff ss = nI nn := fun ss _ h2 => rg_nat (mx := 2000) hf h2 rfl
