/-! writing a module, exactly: S is what the bytes must be -/
def hdB (le tu vo sr lo : Nat → Int32) (ss oo : Nat) : Int32 := if oo = 22 then ((le ss / 2) >>> ((8 : Int32) &&& 31)).toInt8.toInt32 else if oo = 23 then (le ss / 2).toInt8.toInt32 else if oo = 24 then (tu ss &&& 15).toInt8.toInt32 else if oo = 25 then (vo ss).toInt8.toInt32 else if oo = 26 then ((sr ss / 2) >>> ((8 : Int32) &&& 31)).toInt8.toInt32 else if oo = 27 then (sr ss / 2).toInt8.toInt32 else if oo = 28 then ((lo ss / 2) >>> ((8 : Int32) &&& 31)).toInt8.toInt32 else if oo = 29 then (lo ss / 2).toInt8.toInt32 else 0
def ceB (vv : Int32) (oo : Nat) : Int32 := if oo = 0 then ((((vv >>> ((12 : Int32) &&& 31)) &&& 31) &&& 16) ||| ((vv >>> ((17 : Int32) &&& 31)) >>> ((8 : Int32) &&& 31))).toInt8.toInt32 else if oo = 1 then (vv >>> ((17 : Int32) &&& 31)).toInt8.toInt32 else if oo = 2 then (((((vv >>> ((12 : Int32) &&& 31)) &&& 31) &&& 15) <<< ((4 : Int32) &&& 31)) ||| ((vv >>> ((8 : Int32) &&& 31)) &&& 15)).toInt8.toInt32 else vv.toInt8.toInt32
/-- the tape has what it must, but for zeros from T up to the head's end of samples -/
def tpP (SS : Nat → Int32) (TT L : Nat) (ff : Nat → Int32) : Prop := ∀ kx, kx < L → ff kx = if TT ≤ kx ∧ kx < 950 then 0 else SS kx
theorem tp_app {SS ff : Nat → Int32} {TT L : Nat} {vv : Int32} (hh : tpP SS TT L ff) (hL : 950 ≤ L) (hv : vv.toInt8.toInt32 = SS L) : tpP SS TT (L + 1) (fput ff L L vv) := by
  intro kx hk
  simp only [fput]
  by_cases h1 : kx = L
  · rw [if_pos h1, if_neg (by omega), hv, h1]
  · rw [if_neg h1, if_neg (by omega)]; exact hh kx (by omega)
theorem tp_gap {SS ff : Nat → Int32} {TT L jj : Nat} {vv : Int32} (hh : tpP SS TT L ff) (hj : L ≤ jj) (h9 : 950 ≤ jj) (hz : ∀ kx, L ≤ kx → kx < jj → ¬ (TT ≤ kx ∧ kx < 950) → SS kx = 0) (hv : vv.toInt8.toInt32 = SS jj) : tpP SS TT (jj + 1) (fput ff L jj vv) := by
  intro kx hk
  simp only [fput]
  by_cases h1 : kx = jj
  · rw [if_pos h1, if_neg (by omega), hv, h1]
  · rw [if_neg h1]
    by_cases h2 : L ≤ kx ∧ kx < jj
    · rw [if_pos h2]
      by_cases h3 : TT ≤ kx ∧ kx < 950
      · rw [if_pos h3]
      · rw [if_neg h3, hz kx h2.1 h2.2 h3]
    · rw [if_neg h2]; exact hh kx (by omega)
theorem tp_set {SS ff : Nat → Int32} {TT L : Nat} {vv : Int32} (hh : tpP SS TT L ff) (hT : TT < L) (hv : vv.toInt8.toInt32 = SS TT) : tpP SS (TT + 1) L (fput ff L TT vv) := by
  intro kx hk
  simp only [fput]
  by_cases h1 : kx = TT
  · rw [if_pos h1, if_neg (by omega), hv, h1]
  · rw [if_neg h1, if_neg (by omega), hh kx hk]
    by_cases h2 : TT ≤ kx ∧ kx < 950
    · rw [if_pos h2, if_pos (by omega)]
    · rw [if_neg h2, if_neg (by omega)]
theorem tp_skip {SS ff : Nat → Int32} {TT TU L : Nat} (hh : tpP SS TT L ff) (hz : ∀ kx, TT ≤ kx → kx < TU → SS kx = 0) (hT : TT ≤ TU) : tpP SS TU L ff := by
  intro kx hk
  rw [hh kx hk]
  by_cases h2 : TT ≤ kx ∧ kx < 950
  · rw [if_pos h2]
    by_cases h3 : TU ≤ kx ∧ kx < 950
    · rw [if_pos h3]
    · rw [if_neg h3, hz kx h2.1 (by omega)]
  · rw [if_neg h2, if_neg (by omega)]
theorem tp_e {SS ff : Nat → Int32} {TT TU L M : Nat} (hh : tpP SS TT L ff) (h1 : TT = TU) (h2 : L = M) : tpP SS TU M ff := by
  subst h1
  subst h2
  exact hh
/-- what the bytes of a module are -/
def svOk (SS : Nat → Int32) (nn np : Nat) (rs : Int32) (fp fc le tu vo sr lo : Nat → Int32) (ln : Nat → Nat) (ww : Nat → Nat → Int32) : Prop := (∀ kx, kx < 20 → SS kx = 0) ∧ (∀ ss oo, 1 ≤ ss → ss < 32 → oo < 30 → SS (20 + 30 * (ss - 1) + oo) = hdB le tu vo sr lo ss oo) ∧ (SS 950 = (nI nn).toInt8.toInt32 ∧ SS 951 = rs.toInt8.toInt32) ∧ (∀ ii, ii < 128 → SS (952 + ii) = if ii < nn then (fp ii).toInt8.toInt32 else 0) ∧ (∀ ii, ii < 4 → SS (1080 + ii) = (mkv ii).toInt8.toInt32) ∧ (∀ cc oo, cc < 256 * np → oo < 4 → SS (1084 + 4 * cc + oo) = ceB (fc cc) oo) ∧ (∀ ss, 1 ≤ ss → ss < 32 → ∀ ii, ii < ln ss → SS (1084 + 1024 * np + sumTo ln ss + ii) = ww ss ii)
