/-- what sample() asks -/
def sampG (ln : Nat → Nat) (ii nn tt vv : Int32) : Prop := ∃ ks ns : Nat, 1 ≤ ks ∧ ks < 32 ∧ ii = nI ks ∧ nn = nI ns ∧ ns ≤ 2000 ∧ ns % 2 = 0 ∧ sumTo ln 32 - ln ks + ns ≤ 4000 ∧ (-8 ≤ tt ∧ tt ≤ 7) ∧ (0 ≤ vv ∧ vv ≤ 64)
theorem sg_has {ln : Nat → Nat} {ii nn tt vv : Int32} (hh : ¬ (1 ≤ ii ∧ ii ≤ 31)) : ¬ sampG ln ii nn tt vv := by
  rintro ⟨ks, ns, h1, h2, h3, -⟩
  exact hh (by rw [h3]; exact ⟨nI_le (a := 1) h1 (by omega), nI_le (b := 31) (by omega) (by decide)⟩)
theorem sg_len {ln : Nat → Nat} {le fr : Nat → Int32} {us : Int32} (hB : bankOk ln le fr us) {kx : Nat} {nn tt vv : Int32} (hk : kx < 32) (hh : ¬ lenOk nn (us - le kx)) : ¬ sampG ln (nI kx) nn tt vv := by
  rintro ⟨ks, ns, h1, h2, h3, h4, h5, h6, h7, -⟩
  have e1 : kx = ks := (nI_eq (by omega) (by omega)).mp h3
  subst e1
  rw [h4] at hh
  exact hh ((lenOk_iff hB hk (by omega)).mpr ⟨h5, h6, h7⟩)
theorem sg_t {ln : Nat → Nat} {ii nn tt vv : Int32} (hh : ¬ ((-8 ≤ tt ∧ tt ≤ 7) ∧ (0 ≤ vv ∧ vv ≤ 64))) : ¬ sampG ln ii nn tt vv := by
  rintro ⟨ks, ns, h1, h2, h3, h4, h5, h6, h7, h8⟩
  exact hh h8
theorem sg_n {ln : Nat → Nat} {le fr : Nat → Int32} {us : Int32} (hB : bankOk ln le fr us) {kx ns : Nat} (hk : kx < 32) (hn : ns ≤ 2000) (hh : lenOk (nI ns) (us - le kx)) : ns % 2 = 0 ∧ sumTo ln 32 - ln kx + ns ≤ 4000 := ((lenOk_iff hB hk (by omega)).mp hh).2
