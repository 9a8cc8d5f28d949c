/-! cells and samples that are read -/
theorem fa_or' (aa bb : Nat) : nI aa ||| nI bb = nI (aa ||| bb) := by
  apply Int32.toBitVec_inj.1
  show BitVec.ofNat 32 aa ||| BitVec.ofNat 32 bb = BitVec.ofNat 32 (aa ||| bb)
  apply BitVec.eq_of_getLsbD_eq
  intro ii hi
  simp [hi]
theorem or_sum {aa kx : Nat} (bb : Nat) (hh : aa < 2 ^ kx) : nI (2 ^ kx * bb) ||| nI aa = nI (2 ^ kx * bb + aa) := by rw [fa_or', Nat.two_pow_add_eq_or_of_lt hh]
/-- a cell's number, as the model reckons it -/
def clF (ft : Nat → Int32) (kx : Nat) : Int32 := (131072 : Int32) * ((256 : Int32) * (nI (by8 ft kx) &&& 15) + nI (by8 ft (kx + 1))) + (4096 : Int32) * (((nI (by8 ft kx) &&& 240) ||| (nI (by8 ft (kx + 2)) >>> ((4 : Int32) &&& 31))) &&& 31) + (256 : Int32) * (nI (by8 ft (kx + 2)) &&& 15) + nI (by8 ft (kx + 3))
theorem rc_e (ft : Nat → Int32) (kx : Nat) : ((((((nI (by8 ft kx) &&& 15) <<< ((8 : Int32) &&& 31)) ||| nI (by8 ft (kx + 1))) <<< ((17 : Int32) &&& 31)) ||| ((((nI (by8 ft kx) &&& 240) ||| (nI (by8 ft (kx + 2)) >>> ((4 : Int32) &&& 31))) &&& 31) <<< ((12 : Int32) &&& 31))) ||| ((nI (by8 ft (kx + 2)) &&& 15) <<< ((8 : Int32) &&& 31))) ||| nI (by8 ft (kx + 3)) = clF ft kx := by
  have h1 := by8_lt ft (kx + 1)
  have h3 := by8_lt ft (kx + 3)
  obtain ⟨sj, hs, es⟩ := pk_andE ((nI (by8 ft kx) &&& 240) ||| (nI (by8 ft (kx + 2)) >>> ((4 : Int32) &&& 31))) (m := 31) 5 (by decide)
  obtain ⟨aj, ha, ea⟩ := pk_andE (nI (by8 ft kx)) (m := 15) 4 (by decide)
  obtain ⟨ej, he, ee⟩ := pk_andE (nI (by8 ft (kx + 2))) (m := 15) 4 (by decide)
  unfold clF
  rw [es, ea, ee]
  rw [show nI aj <<< ((8 : Int32) &&& 31) = nI (2 ^ 8 * aj) from (pk_shlN _ 8 (by decide) (by omega)).trans (up_e (Nat.mul_comm _ _)), or_sum aj (by omega)]
  rw [show nI (2 ^ 8 * aj + by8 ft (kx + 1)) <<< ((17 : Int32) &&& 31) = nI (2 ^ 17 * (2 ^ 8 * aj + by8 ft (kx + 1))) from (pk_shlN _ 17 (by decide) (by omega)).trans (up_e (Nat.mul_comm _ _))]
  rw [show nI sj <<< ((12 : Int32) &&& 31) = nI (sj * 2 ^ 12) from pk_shlN _ 12 (by decide) (by omega), or_sum _ (by omega)]
  rw [show nI ej <<< ((8 : Int32) &&& 31) = nI (ej * 2 ^ 8) from pk_shlN _ 8 (by decide) (by omega)]
  rw [show 2 ^ 17 * (2 ^ 8 * aj + by8 ft (kx + 1)) + sj * 2 ^ 12 = 2 ^ 12 * (32 * (2 ^ 8 * aj + by8 ft (kx + 1)) + sj) by omega, or_sum _ (by omega)]
  rw [show 2 ^ 12 * (32 * (2 ^ 8 * aj + by8 ft (kx + 1)) + sj) + ej * 2 ^ 8 = 2 ^ 8 * (16 * (32 * (2 ^ 8 * aj + by8 ft (kx + 1)) + sj) + ej) by omega, or_sum _ (by omega)]
  rw [show (256 : Int32) * nI aj = nI (256 * aj) from pk_mul 256 _, nI_add, show (131072 : Int32) * nI (256 * aj + by8 ft (kx + 1)) = nI (131072 * (256 * aj + by8 ft (kx + 1))) from pk_mul 131072 _, show (4096 : Int32) * nI sj = nI (4096 * sj) from pk_mul 4096 _, show (256 : Int32) * nI ej = nI (256 * ej) from pk_mul 256 _, nI_add, nI_add, nI_add]
  exact up_e (by omega)
/-- a row that is filled from below -/
def filR (NN JJ : Nat) (gg ff : Nat → Int32) : Prop := ∀ jj, jj < NN → ff jj = if jj < JJ then gg jj else 0
theorem fil_s {NN JJ : Nat} {gg ff : Nat → Int32} {vv : Int32} (hh : filR NN JJ gg ff) (hv : vv = gg JJ) : filR NN (JJ + 1) gg (upd ff JJ vv) := by
  intro jj hj
  simp only [upd]
  by_cases h1 : jj = JJ
  · rw [if_pos h1, if_pos (by omega), hv, h1]
  · rw [if_neg h1, hh jj hj]
    by_cases h2 : jj < JJ
    · rw [if_pos h2, if_pos (by omega)]
    · rw [if_neg h2, if_neg (by omega)]
theorem fil_0 {NN : Nat} {gg ff : Nat → Int32} (hh : ∀ xx, xx < NN → ff xx = 0) : filR NN 0 gg ff := fun jj hj => by rw [if_neg (Nat.not_lt_zero _), hh jj hj]
theorem fil_j {NN JJ KK : Nat} {gg ff : Nat → Int32} (hh : filR NN JJ gg ff) (he : JJ = KK) : filR NN KK gg ff := he ▸ hh
def pmN (pn : Nat → Nat) : Nat → Nat
  | 0 => 0
  | kx + 1 => max (pmN pn kx) (pn kx + 1)
theorem pmN_pos (pn : Nat → Nat) {kx : Nat} (hk : 1 ≤ kx) : 1 ≤ pmN pn kx := by
  obtain ⟨jj, rfl⟩ : ∃ jj, kx = jj + 1 := ⟨kx - 1, by omega⟩
  simp only [pmN]
  omega
theorem pmN_s {pn : Nat → Nat} {gr qq : Nat} (hh : gr + 1 = max 1 (pmN pn qq)) : max gr (pn qq) + 1 = max 1 (pmN pn (qq + 1)) := by
  simp only [pmN]
  omega
theorem pmN_F (ft : Nat → Int32) (kx : Nat) : pmN (fun jj => by8 ft (952 + jj)) kx = pmF ft kx := by
  induction kx with
  | zero => rfl
  | succ kx ih => simp only [pmN, pmF, ih]
theorem pmN_le {pn : Nat → Nat} {mx kx : Nat} (hh : ∀ jj, jj < kx → pn jj < mx) : pmN pn kx ≤ mx := by
  induction kx with
  | zero => exact Nat.zero_le _
  | succ kx ih =>
    simp only [pmN]
    have h1 := ih (fun jj hj => hh jj (by omega))
    have h2 := hh kx (by omega)
    omega
theorem sgF_8 {ft : Nat → Int32} (nn : Nat) : ∀ ii, sgF ft nn ii = 0 → ∀ jj, ii ≤ jj → jj < ii + nn → by8 ft (952 + jj) < 8 := by
  induction nn with
  | zero => intro ii _ jj h1 h2; omega
  | succ nn ih =>
    intro ii hs jj h1 h2
    simp only [sgF] at hs
    by_cases h8 : 8 ≤ by8 ft (952 + ii)
    · rw [if_pos h8] at hs; omega
    · rw [if_neg h8] at hs
      by_cases he : jj = ii
      · subst he; omega
      · exact ih (ii + 1) hs jj (by omega) (by omega)
theorem sgG_8 {ft : Nat → Int32} (hh : sgG ft = 0) : ∀ jj, jj < by8 ft 950 → by8 ft (952 + jj) < 8 := by
  have hb := sgG_0 hh
  rw [sgG_i (by omega)] at hh
  intro jj hj
  exact sgF_8 _ 0 hh jj (Nat.zero_le _) (by omega)
theorem np_8 {ft : Nat → Int32} (hh : sgG ft = 0) : npF ft ≤ 8 := by
  unfold npF
  rw [← pmN_F]
  exact pmN_le (sgG_8 hh)
/-- what acceptance gives -/
theorem fk_all {L : Nat} {ft : Nat → Int32} (hh : fkF L ft = 0) : 1084 ≤ L ∧ mkF ft = 0 ∧ hdF ft = 0 ∧ needF ft ≤ L := by
  unfold fkF at hh
  by_cases h1 : L < 1084
  · rw [if_pos h1] at hh; exact absurd hh (by decide)
  · rw [if_neg h1] at hh
    by_cases h2 : mkF ft = 0
    · rw [if_neg (show ¬ mkF ft ≠ 0 from fun qv => qv h2)] at hh
      by_cases h3 : hdF ft = 0
      · rw [if_neg (show ¬ hdF ft ≠ 0 from fun qv => qv h3)] at hh
        by_cases h4 : L < needF ft
        · rw [if_pos h4] at hh; exact absurd hh (by decide)
        · exact ⟨by omega, h2, h3, by omega⟩
      · rw [if_pos h3] at hh; exact absurd hh (by decide)
    · rw [if_pos h2] at hh; exact absurd hh (by decide)
theorem hsF_ok {ft : Nat → Int32} (nn : Nat) : ∀ ss ah, hsF ft nn ss ah = 0 → 1 ≤ ss → ∀ jj, ss ≤ jj → jj < ss + nn → tw2 ft (30 * jj + 12) ≤ 2000 ∧ by8 ft (30 * jj + 14) ≤ 15 ∧ by8 ft (30 * jj + 15) ≤ 64 ∧ ¬ tw2 ft (30 * jj + 12) < tw2 ft (30 * jj + 16) + (if 2 < tw2 ft (30 * jj + 18) then tw2 ft (30 * jj + 18) else 0) := by
  induction nn with
  | zero => intro ss ah _ _ jj h1 h2; omega
  | succ nn ih =>
    intro ss ah hs h0 jj h1 h2
    simp only [hsF] at hs
    by_cases k1 : 2000 < tw2 ft (30 * ss + 12) ∨ 4000 < ah + tw2 ft (30 * ss + 12)
    · rw [if_pos k1] at hs; omega
    · rw [if_neg k1] at hs
      by_cases k2 : 15 < by8 ft (30 * ss + 14)
      · rw [if_pos k2] at hs; omega
      · rw [if_neg k2] at hs
        by_cases k3 : 64 < by8 ft (30 * ss + 15)
        · rw [if_pos k3] at hs; omega
        · rw [if_neg k3] at hs
          by_cases k4 : tw2 ft (30 * ss + 12) < tw2 ft (30 * ss + 16) + (if 2 < tw2 ft (30 * ss + 18) then tw2 ft (30 * ss + 18) else 0)
          · rw [if_pos k4] at hs; omega
          · rw [if_neg k4] at hs
            by_cases he : jj = ss
            · subst he; exact ⟨by omega, by omega, by omega, k4⟩
            · exact ih (ss + 1) _ hs (by omega) jj (by omega) (by omega)
theorem hsF_sum {ft : Nat → Int32} (nn : Nat) : ∀ ss ah, hsF ft nn ss ah = 0 → 1 ≤ ss → ah = sumTo (l2 ft) ss → ah ≤ 4000 → sumTo (l2 ft) (ss + nn) ≤ 4000 := by
  induction nn with
  | zero => intro ss ah _ _ he ha; rw [Nat.add_zero, ← he]; exact ha
  | succ nn ih =>
    intro ss ah hs h0 he ha
    simp only [hsF] at hs
    by_cases k1 : 2000 < tw2 ft (30 * ss + 12) ∨ 4000 < ah + tw2 ft (30 * ss + 12)
    · rw [if_pos k1] at hs; omega
    · rw [if_neg k1] at hs
      have k9 : hsF ft nn (ss + 1) (ah + tw2 ft (30 * ss + 12)) = 0 := by
        by_cases k2 : 15 < by8 ft (30 * ss + 14)
        · rw [if_pos k2] at hs; omega
        · rw [if_neg k2] at hs
          by_cases k3 : 64 < by8 ft (30 * ss + 15)
          · rw [if_pos k3] at hs; omega
          · rw [if_neg k3] at hs
            by_cases k4 : tw2 ft (30 * ss + 12) < tw2 ft (30 * ss + 16) + (if 2 < tw2 ft (30 * ss + 18) then tw2 ft (30 * ss + 18) else 0)
            · rw [if_pos k4] at hs; omega
            · rw [if_neg k4] at hs; exact hs
      have := ih (ss + 1) _ k9 (by omega) (by rw [l2_s ft h0, he]) (by omega)
      rw [show ss + (nn + 1) = ss + 1 + nn by omega]
      exact this
theorem fa_byte_low (x : Int32) : (x &&& 255).toInt8 = x.toInt8 := by
  apply Int8.toBitVec_inj.1
  apply BitVec.eq_of_getLsbD_eq
  intro i hi
  have h2 : (255 : Int32).toBitVec.getLsbD i = true := by
    have : ∀ j : Fin 8, (255 : Int32).toBitVec.getLsbD j.val = true := by decide +kernel
    exact this ⟨i, hi⟩
  have h4 : (x &&& 255).toBitVec.getLsbD i = x.toBitVec.getLsbD i := by
    show (x.toBitVec &&& (255 : Int32).toBitVec).getLsbD i = _
    rw [BitVec.getLsbD_and, h2, Bool.and_true]
  have h3 : i < 32 := by omega
  first
    | (show (((x &&& 255).toBitVec).signExtend 8).getLsbD i = (x.toBitVec.signExtend 8).getLsbD i; rw [BitVec.getLsbD_signExtend, BitVec.getLsbD_signExtend, if_pos h3, if_pos h3, h4])
    | (show (((x &&& 255).toBitVec).setWidth 8).getLsbD i = (x.toBitVec.setWidth 8).getLsbD i; rw [BitVec.getLsbD_setWidth, BitVec.getLsbD_setWidth, h4])
    | (simp [hi, h3, h4]; done)
/-- the bytes of a tape are bytes -/
def b8T (L : Nat) (ft : Nat → Int32) : Prop := ∀ kx, kx < L → (ft kx).toInt8.toInt32 = ft kx
theorem b8_e {L : Nat} {ft : Nat → Int32} (hh : b8T L ft) {kx : Nat} (hk : kx < L) : (nI (by8 ft kx)).toInt8.toInt32 = ft kx := by
  rw [← by8_e, fa_byte_low]
  exact hh kx hk
def tnF (bb : Nat) : Int32 := if 7 < bb then nI bb - 16 else nI bb
/-- the lengths of the samples ahead of one -/
def lnq (ft : Nat → Int32) (qq : Nat) : Nat → Nat := fun ss => if ss < qq then l2 ft ss else 0
theorem lnq_s (ft : Nat → Int32) {qq : Nat} (hq : 1 ≤ qq) : updN (lnq ft qq) qq (tw2 ft (30 * qq + 12)) = lnq ft (qq + 1) := by
  funext ss
  simp only [updN, lnq]
  by_cases h1 : ss = qq
  · rw [if_pos h1, if_pos (by omega), h1, l2_e ft hq]
  · rw [if_neg h1]
    by_cases h2 : ss < qq
    · rw [if_pos h2, if_pos (by omega)]
    · rw [if_neg h2, if_neg (by omega)]
theorem lnq_sum (ft : Nat → Int32) {qq kx : Nat} (hk : kx ≤ qq) : sumTo (lnq ft qq) kx = sumTo (l2 ft) kx := sumTo_c (fun ss hs => by simp only [lnq]; rw [if_pos (by omega)])
theorem lnq_32 (ft : Nat → Int32) {qq kx : Nat} (hk : qq ≤ kx) : sumTo (lnq ft qq) kx = sumTo (l2 ft) qq := by
  induction kx with
  | zero => rw [show qq = 0 by omega]; rfl
  | succ kx ih =>
    by_cases h1 : qq = kx + 1
    · subst h1; exact lnq_sum ft (Nat.le_refl _)
    · simp only [sumTo]
      rw [ih (by omega), show lnq ft qq kx = 0 by simp only [lnq]; rw [if_neg (by omega)], Nat.add_zero]
theorem lnq_q (ft : Nat → Int32) (qq : Nat) : lnq ft qq qq = 0 := by simp only [lnq]; rw [if_neg (by omega)]
theorem lnq_1 (ft : Nat → Int32) : lnq ft 1 = fun _ => 0 := by
  funext ss
  simp only [lnq]
  by_cases h1 : ss < 1
  · rw [if_pos h1, show ss = 0 by omega]; rfl
  · rw [if_neg h1]
theorem lnq_e (ft : Nat → Int32) {le fr : Nat → Int32} {us : Int32} (hB : bankOk (lnq ft 32) le fr us) : bankOk (l2 ft) le fr us := by
  refine ⟨fun kx hk => ?_, rfl, ?_, ?_⟩
  · obtain ⟨h1, h2, h3, h4⟩ := hB.1 kx hk
    have e1 : lnq ft 32 kx = l2 ft kx := by simp only [lnq]; rw [if_pos hk]
    rw [e1] at h1 h2 h3
    rw [lnq_sum ft (by omega)] at h4
    exact ⟨h1, h2, h3, h4⟩
  · rw [← lnq_sum ft (Nat.le_refl 32)]; exact hB.2.2.1
  · rw [← lnq_sum ft (Nat.le_refl 32)]; exact hB.2.2.2
/-- a new length at the end: what lay ahead stays -/
theorem rs_keep {f f2 : Nat → Int32} {aa bb cc lo hi : Nat} (he : f2 = ffill (va_cpy f f aa bb cc) lo hi 0) (hc : cc = 0) {jj : Nat} (hj : jj < lo) : f2 jj = f jj := by
  rw [he]
  simp only [ffill, va_cpy]
  rw [if_neg (by omega), if_neg (by omega)]
/-- what is read of a sample beside its bytes -/
def smF (ft : Nat → Int32) (ss : Nat) (tu vo sr lo : Nat → Int32) : Prop := tu ss = tnF (by8 ft (30 * ss + 14)) ∧ vo ss = nI (by8 ft (30 * ss + 15)) ∧ sr ss = nI (tw2 ft (30 * ss + 16)) ∧ lo ss = nI (tw2 ft (30 * ss + 18))
theorem smF_s {ft : Nat → Int32} {qq : Nat} {tu vo sr lo : Nat → Int32} {ta va : Int32} (hh : ∀ ss, 1 ≤ ss → ss < qq → smF ft ss tu vo sr lo) (h1 : ta = tnF (by8 ft (30 * qq + 14))) (h2 : va = nI (by8 ft (30 * qq + 15))) : ∀ ss, 1 ≤ ss → ss < qq + 1 → smF ft ss (upd tu qq ta) (upd vo qq va) (upd (upd sr qq 0) qq (nI (tw2 ft (30 * qq + 16)))) (upd (upd lo qq 0) qq (nI (tw2 ft (30 * qq + 18)))) := by
  intro ss hs1 hs
  by_cases he : ss = qq
  · subst he
    exact ⟨by simp [upd, h1], by simp [upd, h2], by simp [upd], by simp [upd]⟩
  · obtain ⟨k1, k2, k3, k4⟩ := hh ss hs1 (by omega)
    exact ⟨by simp [upd, he, k1], by simp [upd, he, k2], by simp [upd, he, k3], by simp [upd, he, k4]⟩
theorem cp_s {ft ff : Nat → Int32} {kz JJ : Nat} {vv : Int32} (hh : ∀ jj, jj < JJ → ff jj = ft (kz + jj)) (hv : vv = ft (kz + JJ)) : ∀ jj, jj < JJ + 1 → upd ff JJ vv jj = ft (kz + jj) := by
  intro jj hj
  simp only [upd]
  by_cases h1 : jj = JJ
  · rw [if_pos h1, hv, h1]
  · rw [if_neg h1]; exact hh jj (by omega)
