def tpE (SS : Nat → Int32) (L : Nat) (ff : Nat → Int32) : Prop := ∀ kx, kx < L → ff kx = SS kx
theorem te_s {SS ff : Nat → Int32} {L : Nat} {vv : Int32} (hh : tpE SS L ff) (hv : vv.toInt8.toInt32 = SS L) : tpE SS (L + 1) (fb1 ff L vv) := by
  intro kx hk
  simp only [fb1, upd]
  by_cases h1 : kx = L
  · rw [if_pos h1, hv, h1]
  · rw [if_neg h1]; exact hh kx (by omega)
theorem te_e {SS ff : Nat → Int32} {L M : Nat} (hh : tpE SS L ff) (he : L = M) : tpE SS M ff := he ▸ hh
