theorem tick_e {tt : Nat} (h1 : tt < 6) (h2 : ¬ (6 : Int32) ≤ nI (tt + 1)) : tt + 1 < 6 := by
  have := nI_nle' (a := 6) h2 (by omega)
  omega
theorem fr_min {kk : Nat} (h : kk ≤ 16000) : (if nI (kk * 5 / 64) < nI (kk * 5 / 250) then nI (kk * 5 / 64) else nI (kk * 5 / 250)) = nI (kk * 5 / 250) := by
  rw [mn_nI (by omega) (by omega)]
  congr 1
  omega
theorem play_n {x : Int32} (h1 : ¬ x < 0) (h2 : x ≤ 400) : ∃ pp : Nat, pp ≤ 400 ∧ x = nI pp := nI_of2 (M := 400) (n := 400) rfl h1 h2
theorem play_lo {x : Int32} (h : x < 0) : -1 = playF x := by
  unfold playF
  rw [if_neg (fun q => i_nle.mpr h q.1)]
theorem play_hi {x : Int32} (h : ¬ x ≤ 400) : -1 = playF x := by
  unfold playF
  rw [if_neg (fun q => h q.2)]
theorem play_e {pp ii : Nat} {x : Int32} (h : pp ≤ 400) (hx : x = nI pp) (e : ii = pp) : nI ii = playF x := by
  subst e
  subst hx
  unfold playF
  rw [if_pos ⟨nI_pos' (by omega), nI_le (b := 400) h (by decide)⟩]
