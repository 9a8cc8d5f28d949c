/-! general rows: the samples lie one behind the other -/
def sumTo (ln : Nat → Nat) : Nat → Nat
  | 0 => 0
  | kx + 1 => sumTo ln kx + ln kx
def updN (ln : Nat → Nat) (kx nx : Nat) : Nat → Nat := fun jx => if jx = kx then nx else ln jx
theorem sumTo_le (ln : Nat → Nat) (kx nx jx : Nat) (hj : jx ≤ kx) : sumTo (updN ln kx nx) jx = sumTo ln jx := by
  induction jx with
  | zero => rfl
  | succ jx ih =>
    simp only [sumTo]
    rw [ih (by omega), show updN ln kx nx jx = ln jx by simp only [updN]; rw [if_neg (by omega)]]
theorem sumTo_gt (ln : Nat → Nat) (kx nx jx : Nat) (hj : kx < jx) : sumTo (updN ln kx nx) jx + ln kx = sumTo ln jx + nx := by
  induction jx with
  | zero => omega
  | succ jx ih =>
    simp only [sumTo]
    by_cases hh : jx = kx
    · subst hh
      rw [sumTo_le ln jx nx jx (Nat.le_refl jx), show updN ln jx nx jx = nx by simp [updN]]
      omega
    · have := ih (by omega)
      rw [show updN ln kx nx jx = ln jx by simp only [updN]; rw [if_neg hh]]
      omega
theorem sumTo_mono (ln : Nat → Nat) {ax bx : Nat} (hh : ax ≤ bx) : sumTo ln ax ≤ sumTo ln bx := by
  induction bx with
  | zero => rw [show ax = 0 by omega]; exact Nat.le_refl _
  | succ bx ih =>
    by_cases h1 : ax = bx + 1
    · rw [h1]; exact Nat.le_refl _
    · have := ih (by omega)
      simp only [sumTo]
      omega
theorem sumTo_s (ln : Nat → Nat) {ax bx : Nat} (hh : ax < bx) : sumTo ln ax + ln ax ≤ sumTo ln bx := sumTo_mono ln (ax := ax + 1) hh
/-- what the bank's numbers are: lengths, where each begins, how much is used -/
def bankOk (ln : Nat → Nat) (le fr : Nat → Int32) (us : Int32) : Prop := (∀ kx, kx < 32 → le kx = nI (ln kx) ∧ ln kx ≤ 2000 ∧ ln kx % 2 = 0 ∧ fr kx = nI (sumTo ln kx)) ∧ ln 0 = 0 ∧ us = nI (sumTo ln 32) ∧ sumTo ln 32 ≤ 4000
theorem bk_le {ln : Nat → Nat} {le fr : Nat → Int32} {us : Int32} (hB : bankOk ln le fr us) {kx : Nat} (hk : kx < 32) : le kx = nI (ln kx) := (hB.1 kx hk).1
theorem bk_fr {ln : Nat → Nat} {le fr : Nat → Int32} {us : Int32} (hB : bankOk ln le fr us) {kx : Nat} (hk : kx < 32) : fr kx = nI (sumTo ln kx) := (hB.1 kx hk).2.2.2
theorem bk_sum {ln : Nat → Nat} {le fr : Nat → Int32} {us : Int32} (hB : bankOk ln le fr us) {kx : Nat} (hk : kx < 32) : sumTo ln kx + ln kx ≤ sumTo ln 32 ∧ sumTo ln 32 ≤ 4000 := ⟨sumTo_s ln hk, hB.2.2.2⟩
theorem bk_rest {ln : Nat → Nat} {le fr : Nat → Int32} {us : Int32} (hB : bankOk ln le fr us) {kx : Nat} (hk : kx < 32) : us - le kx = nI (sumTo ln 32 - ln kx) := by
  rw [bk_le hB hk, hB.2.2.1]
  have := bk_sum hB hk
  exact pk_sub (by omega)
/-- the question of lengthFits in numbers -/
theorem lenOk_iff {ln : Nat → Nat} {le fr : Nat → Int32} {us : Int32} (hB : bankOk ln le fr us) {kx nx : Nat} (hk : kx < 32) (hn : nx < 2 ^ 30) : lenOk (nI nx) (us - le kx) ↔ (nx ≤ 2000 ∧ nx % 2 = 0 ∧ sumTo ln 32 - ln kx + nx ≤ 4000) := by
  have hs := bk_sum hB hk
  rw [bk_rest hB hk]
  unfold lenOk
  rw [nI_add, show nI nx - nI nx / 2 * 2 = nI (nx % 2) from pk_rem (by omega) (d := 2) (by decide) (by decide)]
  constructor
  · rintro ⟨h1, h2, h3, h4⟩
    refine ⟨nI_le' (b := 2000) h2 (by omega) (by decide), (nI_eq (b := 0) (by omega) (by decide)).mp h3, nI_le' (b := 4000) h4 (by omega) (by decide)⟩
  · rintro ⟨h1, h2, h3⟩
    refine ⟨nI_pos' (by omega), nI_le (b := 2000) h1 (by decide), by rw [h2]; rfl, nI_le (b := 4000) h3 (by decide)⟩
/-- where the samples begin behind a change of the length of one -/
def frUp (fr : Nat → Int32) (mo : Int32) (kx qx : Nat) : Nat → Int32 := fun jx => if kx < jx ∧ jx < qx then fr jx + mo else fr jx
theorem frUp_0 (fr : Nat → Int32) (mo : Int32) (kx : Nat) : frUp fr mo kx (kx + 1) = fr := by
  funext jx
  simp only [frUp]
  rw [if_neg (by omega)]
theorem frUp_s {fr : Nat → Int32} {mo : Int32} {kx qx : Nat} (hh : kx < qx) : upd (frUp fr mo kx qx) qx (frUp fr mo kx qx qx + mo) = frUp fr mo kx (qx + 1) := by
  funext jx
  simp only [frUp, upd]
  by_cases h1 : jx = qx
  · rw [if_pos h1, if_neg (by omega), if_pos (by omega), h1]
  · rw [if_neg h1]
    by_cases h2 : kx < jx ∧ jx < qx
    · rw [if_pos h2, if_pos (by omega)]
    · rw [if_neg h2, if_neg (by omega)]
theorem nI_mv {ax bx cx dx : Nat} (hh : bx + dx = ax + cx) : nI ax + (nI cx - nI dx) = nI bx := by
  rw [Int32.sub_eq_add_neg, ← Int32.add_assoc, nI_add, ← hh, ← Int32.sub_eq_add_neg]
  exact (pk_sub (a := bx + dx) (b := dx) (by omega)).trans (by rw [Nat.add_sub_cancel])
theorem bk_new {ln : Nat → Nat} {le fr : Nat → Int32} {us mo : Int32} {kx nx : Nat} (hB : bankOk ln le fr us) (hk1 : 1 ≤ kx) (hk : kx < 32) (hn : nx ≤ 2000) (hv : nx % 2 = 0) (hs : sumTo ln 32 - ln kx + nx ≤ 4000) (hm : mo = nI nx - le kx) : bankOk (updN ln kx nx) (upd le kx (nI nx)) (frUp fr mo kx 32) (us + mo) := by
  have hq := bk_sum hB hk
  have hm2 : mo = nI nx - nI (ln kx) := by rw [hm, bk_le hB hk]
  refine ⟨fun jx hj => ?_, ?_, ?_, ?_⟩
  · by_cases hh : jx = kx
    · subst hh
      refine ⟨by simp [upd, updN], by simpa [updN] using hn, by simpa [updN] using hv, ?_⟩
      rw [sumTo_le ln jx nx jx (Nat.le_refl jx)]
      simp only [frUp]
      rw [if_neg (by omega)]
      exact bk_fr hB hj
    · refine ⟨?_, ?_, ?_, ?_⟩
      · simp only [upd, updN]; rw [if_neg hh, if_neg hh]; exact bk_le hB hj
      · simp only [updN]; rw [if_neg hh]; exact (hB.1 jx hj).2.1
      · simp only [updN]; rw [if_neg hh]; exact (hB.1 jx hj).2.2.1
      · simp only [frUp]
        by_cases h2 : kx < jx
        · rw [if_pos ⟨h2, hj⟩, bk_fr hB hj, hm2]
          exact nI_mv (sumTo_gt ln kx nx jx h2)
        · rw [if_neg (by omega), sumTo_le ln kx nx jx (by omega)]
          exact bk_fr hB hj
  · simp only [updN]; rw [if_neg (by omega)]; exact hB.2.1
  · rw [hB.2.2.1, hm2]
    exact nI_mv (sumTo_gt ln kx nx 32 hk)
  · have := sumTo_gt ln kx nx 32 hk
    omega
theorem rs_f {f f1 f2 : Nat → Int32} {aa bb cc lo hi : Nat} (hcp : va_cpy f f (nI aa).toNatClampNeg (nI bb).toNatClampNeg (nI cc).toNatClampNeg = f1) (hf : ∀ xx, f2 xx = if lo ≤ xx ∧ xx < hi then (0 : Int32).toInt8.toInt32 else f1 xx) (ha : aa < 2 ^ 31) (hb : bb < 2 ^ 31) (hc : cc < 2 ^ 31) : f2 = ffill (va_cpy f f aa bb cc) lo hi 0 := by
  funext xx
  rw [hf xx, ← hcp, nI_clamp ha, nI_clamp hb, nI_clamp hc]
  rfl
