/-! safety: numbers -/
theorem fr_ex {kk tp : Nat} (ht : 32 ≤ tp) : ∃ mf : Nat, mf ≤ kk * 5 / 64 ∧ mf = kk * 5 / (2 * tp) := ⟨_, Nat.div_le_div_left (by omega) (by decide), rfl⟩
theorem fr_minG {mf mx : Nat} (hh : mf ≤ mx) (hm : mx < 2 ^ 31) : (if nI mx < nI mf then nI mx else nI mf) = nI mf := by
  rw [if_neg (fun qv => by have := nI_lt' qv (by omega) (by omega); omega)]
theorem nI_npos {aa : Nat} (h0 : 0 < aa) (h1 : aa < 2 ^ 31) : ¬ nI aa ≤ 0 := fun qv => by
  have := nI_le' (b := 0) qv h1 (by decide)
  omega
/-- a row of numbers in a range -/
def rg (nn : Nat) (lo hi : Int) (ff : Nat → Int32) : Prop := ∀ xx, xx < nn → lo ≤ (ff xx).toInt ∧ (ff xx).toInt ≤ hi
theorem rg_upd {nn kx : Nat} {lo hi : Int} {ff : Nat → Int32} {vv : Int32} (hf : rg nn lo hi ff) (h1 : lo ≤ vv.toInt) (h2 : vv.toInt ≤ hi) : rg nn lo hi (upd ff kx vv) := by
  intro xx hx
  simp only [upd]
  by_cases hh : xx = kx
  · rw [if_pos hh]; exact ⟨h1, h2⟩
  · rw [if_neg hh]; exact hf xx hx
theorem rg_nat {nn kx mx : Nat} {hi : Int} {ff : Nat → Int32} (hf : rg nn 0 hi ff) (hk : kx < nn) (hm : hi = mx) : ∃ jj : Nat, jj ≤ mx ∧ ff kx = nI jj := by
  obtain ⟨h1, h2⟩ := hf kx hk
  obtain ⟨jj, hj, e1, e2⟩ := i_nI (x := ff kx) (by rw [i_le]; have : (0 : Int32).toInt = 0 := rfl; omega)
  exact ⟨jj, by omega, e1⟩
theorem rg_z (nn : Nat) (lo hi : Int) (h1 : lo ≤ 0) (h2 : 0 ≤ hi) : rg nn lo hi (fun _ => 0) := fun xx _ => by
  show lo ≤ (0 : Int32).toInt ∧ (0 : Int32).toInt ≤ hi
  have h0 : (0 : Int32).toInt = 0 := rfl
  rw [h0]
  exact ⟨h1, h2⟩
theorem nI_rg {jj : Nat} {lo hi : Int} (hj : jj < 2 ^ 31) (h1 : lo ≤ jj) (h2 : (jj : Int) ≤ hi) : lo ≤ (nI jj).toInt ∧ (nI jj).toInt ≤ hi := by
  rw [nI_toInt hj]
  exact ⟨h1, h2⟩
def rgL (nn : Nat) (lo hi : Int) (ff : Nat → Int64) : Prop := ∀ xx, xx < nn → lo ≤ (ff xx).toInt ∧ (ff xx).toInt ≤ hi
theorem rgL_upd {nn kx : Nat} {lo hi : Int} {ff : Nat → Int64} {vv : Int64} (hf : rgL nn lo hi ff) (h1 : lo ≤ vv.toInt) (h2 : vv.toInt ≤ hi) : rgL nn lo hi (vp_updL ff kx vv) := by
  intro xx hx
  simp only [vp_updL]
  by_cases hh : xx = kx
  · rw [if_pos hh]; exact ⟨h1, h2⟩
  · rw [if_neg hh]; exact hf xx hx
