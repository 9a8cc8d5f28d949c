theorem mx0 {a : Nat} (h : a < 2 ^ 31) : (if (0 : Int32) < nI a then nI a else 0) = nI a := by
  rcases Nat.eq_zero_or_pos a with q | q
  · subst q; rfl
  · exact if_pos (show (0 : Int32) < nI a from nI_lt (a := 0) q h)
