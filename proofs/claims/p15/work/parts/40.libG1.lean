/-! general rows: the tape with its bytes -/
def ffeed (f : Nat → Int32) (L : Nat) (xa xb xc xd xe : Int32) : Nat → Int32 := fapp (fapp (fapp (fapp (fapp f L xa) (L + 4) xb) (L + 4 + 4) xc) (L + 4 + 4 + 4) xd) (L + 4 + 4 + 4 + 4) xe
/-- the model's bytes: put one behind the last -/
def fb1 (f : Nat → Int32) (L : Nat) (v : Int32) : Nat → Int32 := upd f L v.toInt8.toInt32
def fb4 (f : Nat → Int32) (L : Nat) (v : Int32) : Nat → Int32 := fb1 (fb1 (fb1 (fb1 f L (v >>> (24 &&& 31))) (L + 1) (v >>> (16 &&& 31))) (L + 1 + 1) (v >>> (8 &&& 31))) (L + 1 + 1 + 1) (v >>> (0 &&& 31))
def fb20 (f : Nat → Int32) (L : Nat) (xa xb xc xd xe : Int32) : Nat → Int32 := fb4 (fb4 (fb4 (fb4 (fb4 f L xa) (L + 4) xb) (L + 4 + 4) xc) (L + 4 + 4 + 4) xd) (L + 4 + 4 + 4 + 4) xe
/-- two tapes are alike: the same bytes below L -/
def likeT (L : Nat) (f g : Nat → Int32) : Prop := ∀ xx, xx < L → f xx = g xx
theorem fput_L (f : Nat → Int32) (L : Nat) (v : Int32) : fput f L L v = fb1 f L v := by
  funext xx
  simp only [fput, fb1, upd]
  by_cases hh : xx = L
  · rw [if_pos hh, if_pos hh]
  · rw [if_neg hh, if_neg hh, if_neg (by omega)]
theorem like_1 {L : Nat} {f g : Nat → Int32} (hl : likeT L f g) (v : Int32) : likeT (L + 1) (fb1 f L v) (fb1 g L v) := by
  intro xx hx
  simp only [fb1, upd]
  by_cases hh : xx = L
  · rw [if_pos hh, if_pos hh]
  · rw [if_neg hh, if_neg hh]; exact hl xx (by omega)
theorem fapp_4 (f : Nat → Int32) (L : Nat) (v : Int32) : fapp f L v = fb4 f L v := by
  simp only [fapp, fb4, fput_L]
theorem like_4 {L : Nat} {f g : Nat → Int32} (hl : likeT L f g) (v : Int32) : likeT (L + 4) (fapp f L v) (fb4 g L v) := by
  rw [fapp_4]
  exact like_1 (like_1 (like_1 (like_1 hl _) _) _) _
theorem like_20 {L : Nat} {f g : Nat → Int32} (hl : likeT L f g) (xa xb xc xd xe : Int32) : likeT (L + 20) (ffeed f L xa xb xc xd xe) (fb20 g L xa xb xc xd xe) := like_4 (like_4 (like_4 (like_4 (like_4 hl xa) xb) xc) xd) xe
theorem like_le {L K : Nat} {f g : Nat → Int32} (hl : likeT L f g) (hk : K ≤ L) : likeT K f g := fun xx hx => hl xx (by omega)
/-- the model's poke: zeros up to it, then the byte -/
def fzb (f : Nat → Int32) (L k : Nat) : Nat → Int32 := fun xx => if L ≤ xx ∧ xx < k then 0 else f xx
theorem fzb_0 (f : Nat → Int32) (L : Nat) : fzb f L L = f := by
  funext xx
  simp only [fzb]
  rw [if_neg (by omega)]
theorem fzb_s {f : Nat → Int32} {L k : Nat} (hh : L ≤ k) : upd (fzb f L k) k 0 = fzb f L (k + 1) := by
  funext xx
  simp only [fzb, upd]
  by_cases h1 : xx = k
  · rw [if_pos h1, if_pos (by omega)]
  · rw [if_neg h1]
    by_cases h2 : L ≤ xx ∧ xx < k
    · rw [if_pos h2, if_pos (by omega)]
    · rw [if_neg h2, if_neg (by omega)]
theorem like_poke {L jp km : Nat} {f g : Nat → Int32} (hl : likeT L f g) (v : Int32) (h1 : jp < km) (h2 : km = L ∨ km = jp + 1) (h3 : L ≤ km) : likeT (max L (jp + 1)) (fput f L jp v) (upd (fzb g L km) jp v.toInt8.toInt32) := by
  intro xx hx
  simp only [fput, upd, fzb]
  by_cases hh : xx = jp
  · rw [if_pos hh, if_pos hh]
  · rw [if_neg hh, if_neg hh]
    by_cases h4 : L ≤ xx ∧ xx < jp
    · rw [if_pos h4, if_pos (by omega)]
    · rw [if_neg h4]
      by_cases h5 : L ≤ xx ∧ xx < km
      · exfalso; omega
      · rw [if_neg h5]; exact hl xx (by omega)
theorem nle_lt {aa : Nat} {xx : Int32} (nn : Nat) (hx : xx = nI nn) (hn : nn < 2 ^ 31) (hh : ¬ nI aa ≤ xx) : nn < aa := nI_nle' (hx ▸ hh) hn
