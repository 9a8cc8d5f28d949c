/-! playing: numbers -/
def pickI : List Int32 → Nat → Int32
  | [], _ => 0
  | xx :: _, 0 => xx
  | _ :: xs, nn + 1 => pickI xs nn
theorem tempo_n {vv : Int32} (hh : 32 ≤ vv &&& 255) : ∃ tq : Nat, 32 ≤ tq ∧ tq ≤ 255 ∧ vv &&& 255 = nI tq := by
  obtain ⟨jj, h1, h2⟩ := pk_andE vv (m := 255) 8 (by decide)
  rw [h2] at hh
  exact ⟨jj, nI_le' (a := 32) hh (by decide) (by omega), by omega, h2⟩
theorem ht_lt {hT qq : Nat} {vv : Int32} (he : hT = vv.toInt.toNat) (hh : ¬ vv ≤ nI qq) (hq : qq < 2147483648) : qq < hT ∧ hT < 2147483648 := by
  rw [i_le, nI_toInt hq] at hh
  have h2 : vv.toInt < 2 ^ 31 := Int32.toInt_lt vv
  omega
theorem ac_ne {hp : Int32} {kk : Nat} (h1 : ¬ hp ≤ 0) (h2 : 1 ≤ kk) (h3 : kk ≤ 16000) : hp.toInt64 * (nI kk).toInt64 ≠ 0 := by
  obtain ⟨jj, hj, e1, e2⟩ := i_nI (x := hp) (by rw [i_le] at h1 ⊢; have : (0 : Int32).toInt = 0 := rfl; omega)
  have h0 : 0 < jj := by
    rw [i_le, e2] at h1
    have : (0 : Int32).toInt = 0 := rfl
    omega
  rw [e1, nI_l hj, nI_l (by omega), lN_mul]
  have h9 : jj * kk < 2 ^ 63 := by
    calc jj * kk ≤ jj * 16000 := Nat.mul_le_mul_left jj h3
      _ < 2 ^ 63 := by omega
  intro hz
  have := (pk_lEQ (b := 0) h9 (by decide)).mp hz
  have := Nat.mul_pos h0 h2
  omega
