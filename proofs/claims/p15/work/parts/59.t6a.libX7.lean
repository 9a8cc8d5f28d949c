theorem fb_byte {x : Int32} (h1 : -128 ≤ x.toInt) (h2 : x.toInt < 128) : x.toInt8.toInt32 = x := by
  apply Int32.toInt_inj.1
  rw [Int8.toInt_toInt32, Int32.toInt_toInt8, Int.bmod_eq_of_le (by omega) (by omega)]
theorem fit_b {ff : Nat → Int32} (hf : sb_Fit ff) (jj : Nat) : (ff jj).toInt8.toInt32 = ff jj := by
  have h1 := hf jj
  simp only [fits, Bool.and_eq_true, decide_eq_true_eq] at h1
  have h2 := i_le.mp h1.1
  have h3 := i_le.mp h1.2
  have e1 : (-128 : Int32).toInt = -128 := rfl
  have e2 : (127 : Int32).toInt = 127 := rfl
  exact fb_byte (by omega) (by omega)
theorem hd_z {le tu vo sr lo : Nat → Int32} {ss oo : Nat} (hh : oo < 22) : hdB le tu vo sr lo ss oo = 0 := by
  unfold hdB
  rw [if_neg (by omega), if_neg (by omega), if_neg (by omega), if_neg (by omega), if_neg (by omega), if_neg (by omega), if_neg (by omega), if_neg (by omega)]
