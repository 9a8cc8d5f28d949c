theorem clr_s {le fr : Nat → Int32} {qq : Nat} (hh : ∀ xx, xx < qq → le xx = 0 ∧ fr xx = 0) : ∀ xx, xx < qq + 1 → upd le qq 0 xx = 0 ∧ upd fr qq 0 xx = 0 := by
  intro xx hx
  simp only [upd]
  by_cases h1 : xx = qq
  · rw [if_pos h1, if_pos h1]; exact ⟨rfl, rfl⟩
  · rw [if_neg h1, if_neg h1]; exact hh xx (by omega)
theorem sum_0 (kx : Nat) : sumTo (fun _ => 0) kx = 0 := by
  induction kx with
  | zero => rfl
  | succ kx ih => simp only [sumTo, ih]
theorem bk_zero {le fr : Nat → Int32} (hh : ∀ xx, xx < 32 → le xx = 0 ∧ fr xx = 0) : bankOk (fun _ => 0) le fr 0 := by
  refine ⟨fun kx hk => ⟨(hh kx hk).1, Nat.zero_le _, rfl, ?_⟩, rfl, ?_, ?_⟩
  · rw [sum_0]; exact (hh kx hk).2
  · rw [sum_0]; rfl
  · rw [sum_0]; decide
