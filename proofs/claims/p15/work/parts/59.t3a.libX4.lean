/-! load of the model, exactly -/
theorem hdF_lt (ft : Nat → Int32) : hdF ft < 1100 := by
  unfold hdF
  have h1 := hsF_lt ft 31 1 0 (by decide)
  have h2 := sgG_lt ft
  split <;> omega
def wvP (ft : Nat → Int32) (kz qq : Nat) (ww : Nat → Int32) : Prop := ∀ ss, 1 ≤ ss → ss < qq → ∀ ii, ii < tw2 ft (30 * ss + 12) → ww (2000 * ss + ii) = ft (kz + sumTo (l2 ft) ss + ii)
def wvI (ft : Nat → Int32) (kz qq nn : Nat) (ww : Nat → Int32) : Prop := ∀ ii, ii < nn → ii < tw2 ft (30 * qq + 12) → ww (2000 * qq + ii) = ft (kz + sumTo (l2 ft) qq + ii)
theorem wv_keep {ft ww : Nat → Int32} {kz qq nn : Nat} {vv : Int32} (hh : wvP ft kz qq ww) (hw : ∀ ss, 1 ≤ ss → ss < qq → tw2 ft (30 * ss + 12) ≤ 2000) : wvP ft kz qq (upd ww (2000 * qq + nn) vv) := by
  intro ss h1 h2 ii hi
  have := hw ss h1 h2
  simp only [upd]
  rw [if_neg (by omega)]
  exact hh ss h1 h2 ii hi
theorem wvI_s {ft ww : Nat → Int32} {kz qq nn : Nat} {vv : Int32} (hh : wvI ft kz qq nn ww) (hv : nn < tw2 ft (30 * qq + 12) → vv = ft (kz + sumTo (l2 ft) qq + nn)) : wvI ft kz qq (nn + 1) (upd ww (2000 * qq + nn) vv) := by
  intro ii hi ht
  simp only [upd]
  by_cases h1 : ii = nn
  · subst h1
    rw [if_pos rfl]
    exact hv ht
  · rw [if_neg (by omega)]
    exact hh ii (by omega) ht
theorem wv_s {ft ww : Nat → Int32} {kz qq : Nat} (hh : wvP ft kz qq ww) (hi : wvI ft kz qq 2000 ww) (hw : tw2 ft (30 * qq + 12) ≤ 2000) : wvP ft kz (qq + 1) ww := by
  intro ss h1 h2 ii ht
  by_cases he : ss = qq
  · subst he; exact hi ii (by omega) ht
  · exact hh ss h1 (by omega) ii ht
theorem filN_s {NN JJ : Nat} {gg ff : Nat → Int32} {vv : Int32} (hh : filR NN JJ gg ff) (hv : vv = if NN < JJ then gg NN else 0) : filR (NN + 1) JJ gg (upd ff NN vv) := by
  intro jj hj
  simp only [upd]
  by_cases h1 : jj = NN
  · rw [if_pos h1, hv, h1]
  · rw [if_neg h1]; exact hh jj (by omega)
theorem filN_0 {JJ : Nat} {gg ff : Nat → Int32} : filR 0 JJ gg ff := fun jj hj => absurd hj (Nat.not_lt_zero _)
theorem ln_s {ft ff : Nat → Int32} {qq : Nat} (hh : ∀ ss, 1 ≤ ss → ss < qq → ff ss = nI (tw2 ft (30 * ss + 12))) : ∀ ss, 1 ≤ ss → ss < qq + 1 → upd ff qq (nI (tw2 ft (30 * qq + 12))) ss = nI (tw2 ft (30 * ss + 12)) := by
  intro ss h1 h2
  simp only [upd]
  by_cases he : ss = qq
  · rw [if_pos he, he]
  · rw [if_neg he]; exact hh ss h1 (by omega)
theorem smM_s {ft : Nat → Int32} {qq : Nat} {tu vo sr lo : Nat → Int32} (hh : ∀ ss, 1 ≤ ss → ss < qq → smF ft ss tu vo sr lo) : ∀ ss, 1 ≤ ss → ss < qq + 1 → smF ft ss (upd tu qq (tnF (by8 ft (30 * qq + 14)))) (upd vo qq (nI (by8 ft (30 * qq + 15)))) (upd sr qq (nI (tw2 ft (30 * qq + 16)))) (upd lo qq (nI (tw2 ft (30 * qq + 18)))) := by
  intro ss hs1 hs
  by_cases he : ss = qq
  · subst he
    exact ⟨by simp [upd], by simp [upd], by simp [upd], by simp [upd]⟩
  · obtain ⟨k1, k2, k3, k4⟩ := hh ss hs1 (by omega)
    exact ⟨by simp [upd, he, k1], by simp [upd, he, k2], by simp [upd, he, k3], by simp [upd, he, k4]⟩
