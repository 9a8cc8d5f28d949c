def mkv (j : Nat) : Int32 := if j = 0 then 77 else if j = 1 then 46 else if j = 2 then 75 else 46
theorem mkv_v {a : Nat} (h : a < 4) : fMark (nI a).toNatClampNeg = .int (mkv a) := by rw [nI_clamp (by omega)]; rfl
