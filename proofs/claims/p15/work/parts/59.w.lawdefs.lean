/-! the law: numbers -/
theorem lw_i {L iq : Nat} (hL : L ≤ 3073) (hi : iq ≤ L + 6) (hh : ¬ nI L - 6 < nI iq) : iq + 6 ≤ L := by
  rw [i_lt, show (nI L - 6 : Int32) = nI L - nI 6 from rfl, pk_sub_toInt (by omega) (by decide), nI_toInt (by omega)] at hh
  omega
theorem rgL_z (nn : Nat) (lo hi : Int) (h1 : lo ≤ 0) (h2 : 0 ≤ hi) : rgL nn lo hi (fun _ => 0) := fun xx _ => by
  show lo ≤ (0 : Int64).toInt ∧ (0 : Int64).toInt ≤ hi
  have h0 : (0 : Int64).toInt = 0 := rfl
  rw [h0]
  exact ⟨h1, h2⟩
def muR (gg : Nat → Int32) (ua ub uc ud : Int32) : Prop := gg 0 = ua ∧ gg 1 = ub ∧ gg 2 = uc ∧ gg 3 = ud
theorem mu_0 {gg : Nat → Int32} {ua ub uc ud zv : Int32} (hh : muR gg ua ub uc ud) : muR (upd gg 0 zv) zv ub uc ud := by
  obtain ⟨h0, h1, h2, h3⟩ := hh
  exact ⟨by simp [upd], by simpa [upd] using h1, by simpa [upd] using h2, by simpa [upd] using h3⟩
theorem mu_1 {gg : Nat → Int32} {ua ub uc ud zv : Int32} (hh : muR gg ua ub uc ud) : muR (upd gg 1 zv) ua zv uc ud := by
  obtain ⟨h0, h1, h2, h3⟩ := hh
  exact ⟨by simpa [upd] using h0, by simp [upd], by simpa [upd] using h2, by simpa [upd] using h3⟩
theorem mu_2 {gg : Nat → Int32} {ua ub uc ud zv : Int32} (hh : muR gg ua ub uc ud) : muR (upd gg 2 zv) ua ub zv ud := by
  obtain ⟨h0, h1, h2, h3⟩ := hh
  exact ⟨by simpa [upd] using h0, by simpa [upd] using h1, by simp [upd], by simpa [upd] using h3⟩
theorem mu_3 {gg : Nat → Int32} {ua ub uc ud zv : Int32} (hh : muR gg ua ub uc ud) : muR (upd gg 3 zv) ua ub uc zv := by
  obtain ⟨h0, h1, h2, h3⟩ := hh
  exact ⟨by simpa [upd] using h0, by simpa [upd] using h1, by simpa [upd] using h2, by simp [upd]⟩
theorem jp_e {jp jj : Nat} {xx : Int32} (hj : jp < 4) (e1 : xx = nI jp) (e2 : xx = nI jj) (h2 : jj < 4) : jp = jj := (nI_eq (by omega) (by omega)).mp (e1.symm.trans e2)
theorem lit_in {jj : Nat} {xx : Int32} (hh : ¬ (0 ≤ xx ∧ xx < 4)) (e2 : xx = nI jj) (h2 : jj < 4) : False := hh (by rw [e2]; exact isin0 h2 (by decide))
theorem cell_t {xa xb xd : Int32} {ca cb cd : Nat} (hca : ca < 8) (hcb : cb < 64) (hcd : cd < 4) (e1 : xa = nI ca) (e2 : xb = nI cb) (e3 : xd = nI cd) : cellsP xa xb xd := ⟨by rw [e1]; exact isin0 hca (by decide), by rw [e2]; exact isin0 hcb (by decide), by rw [e3]; exact isin0 hcd (by decide)⟩
theorem place_t {ii : Int32} {jp : Nat} (hj : jp < 128) (e1 : ii = nI jp) : 0 ≤ ii ∧ ii < 128 := by rw [e1]; exact isin0 hj (by decide)
def va_rest (X : va_W) (isR : List Nat) : va_W := isR.filterMap (fun i => X[i]?)
theorem part2 {D : va_G} {cl : List vw_C} {X F cx : va_W} {H : Heap} (hP : va_P D cl (X ++ F) H) (isC isR : List Nat) (hC : isC.map (fun i => X[i]?) = cx.map some) (hR : isR.map (fun i => X[i]?) = (va_rest X isR).map some) : va_P D cl (cx ++ (va_rest X isR ++ F)) H := by
  rw [← List.append_assoc]
  exact va_P.part hP (isC ++ isR) (by rw [List.map_append, List.map_append, hC, hR])
theorem part2D {A : Nat → Prop} {X F cx : va_W} (hD : va_D A (X ++ F)) (isC isR : List Nat) (hn : va_nd (isC ++ isR) = true) (hC : isC.map (fun i => X[i]?) = cx.map some) (hR : isR.map (fun i => X[i]?) = (va_rest X isR).map some) : va_D A (cx ++ (va_rest X isR ++ F)) := by
  rw [← List.append_assoc]
  exact va_D.part hD (isC ++ isR) hn (by rw [List.map_append, List.map_append, hC, hR])
theorem back2 {D : va_G} {cl : List vw_C} {R F cx Y : va_W} {H : Heap} (hP : va_P D cl (cx ++ (R ++ F)) H) (od : List Nat) (hY : od.map (fun i => (cx ++ R)[i]?) = Y.map some) : va_P D cl (Y ++ F) H := va_P.part (X := cx ++ R) (by rw [List.append_assoc]; exact hP) od hY
theorem back2D {A : Nat → Prop} {R F cx Y : va_W} (hD : va_D A (cx ++ (R ++ F))) (od : List Nat) (hn : va_nd od = true) (hY : od.map (fun i => (cx ++ R)[i]?) = Y.map some) : va_D A (Y ++ F) := va_D.part (X := cx ++ R) (by rw [List.append_assoc]; exact hD) od hn hY
theorem pl_in {pp : Nat} {xx : Int32} (hp : pp ≤ 400) (he : xx = nI pp) : 0 ≤ xx ∧ xx ≤ 400 := by
  rw [he]
  exact ⟨nI_pos' (by omega), nI_le (b := 400) hp (by decide)⟩
/-! the law with the relation of class and model: numbers -/
theorem clF_c {L : Nat} {ff gg : Nat → Int32} (hl : likeT L ff gg) {kx : Nat} (hk : kx + 3 < L) : clF ff kx = clF gg kx := by
  unfold clF
  rw [by8_c hl (show kx < L by omega), by8_c hl (show kx + 1 < L by omega), by8_c hl (show kx + 2 < L by omega), by8_c hl hk]
theorem npF_c {L : Nat} {ff gg : Nat → Int32} (hl : likeT L ff gg) (hL : 1084 ≤ L) (hb : by8 ff 950 ≤ 128) : npF ff = npF gg := by
  unfold npF
  rw [← by8_c hl (show 950 < L by omega)]
  exact pmF_c hl _ (by omega)
theorem l2s_c {L : Nat} {ff gg : Nat → Int32} (hl : likeT L ff gg) (hL : 1084 ≤ L) {kx : Nat} (hk : kx ≤ 32) : sumTo (l2 ff) kx = sumTo (l2 gg) kx := sumTo_c (fun ss hs => l2_c hl hL (by omega))
theorem needF_c {L : Nat} {ff gg : Nat → Int32} (hl : likeT L ff gg) (hL : 1084 ≤ L) (hb : by8 ff 950 ≤ 128) : needF ff = needF gg := by
  unfold needF
  rw [npF_c hl hL hb, l2s_c hl hL (Nat.le_refl 32)]
theorem fk_c {L : Nat} {ff gg : Nat → Int32} (hl : likeT L ff gg) : fkF L ff = fkF L gg ∧ fpF L ff = fpF L gg := by
  unfold fkF fpF
  by_cases h1 : L < 1084
  · rw [if_pos h1, if_pos h1, if_pos h1, if_pos h1]; exact ⟨rfl, rfl⟩
  · rw [if_neg h1, if_neg h1, if_neg h1, if_neg h1, mkF_c hl (by omega), hdF_c hl (by omega)]
    by_cases h3 : hdF gg = 0
    · have h4 : hdF ff = 0 := (hdF_c hl (by omega)).trans h3
      have h5 := sgG_0 (hd_0 h4).2
      rw [needF_c hl (by omega) h5.2]
      exact ⟨rfl, rfl⟩
    · rw [if_pos (show hdF gg ≠ 0 from h3), if_pos (show hdF gg ≠ 0 from h3), if_pos (show hdF gg ≠ 0 from h3), if_pos (show hdF gg ≠ 0 from h3)]
      exact ⟨rfl, rfl⟩
theorem b8_2 (vv : Int32) : vv.toInt8.toInt32.toInt8.toInt32 = vv.toInt8.toInt32 := by simp
theorem b8_put {L : Nat} {ff : Nat → Int32} {vv : Int32} {jj : Nat} (hh : b8T L ff) : b8T (max L (jj + 1)) (fput ff L jj vv) := by
  intro kx hk
  simp only [fput]
  by_cases h1 : kx = jj
  · rw [if_pos h1]; exact b8_2 vv
  · rw [if_neg h1]
    by_cases h2 : L ≤ kx ∧ kx < jj
    · rw [if_pos h2]; rfl
    · rw [if_neg h2]; exact hh kx (by omega)
theorem b8_1 {L : Nat} {ff : Nat → Int32} (hh : b8T L ff) (vv : Int32) : b8T (L + 1) (fput ff L L vv) := by
  have := b8_put (jj := L) (vv := vv) hh
  rw [show max L (L + 1) = L + 1 by omega] at this
  exact this
theorem b8_4 {L : Nat} {ff : Nat → Int32} (hh : b8T L ff) (vv : Int32) : b8T (L + 4) (fapp ff L vv) := b8_1 (b8_1 (b8_1 (b8_1 hh _) _) _) _
theorem b8_20 {L : Nat} {ff : Nat → Int32} (hh : b8T L ff) (xa xb xc xd xe : Int32) : b8T (L + 20) (ffeed ff L xa xb xc xd xe) := b8_4 (b8_4 (b8_4 (b8_4 (b8_4 hh xa) xb) xc) xd) xe
theorem b8_le {L K : Nat} {ff : Nat → Int32} (hh : b8T L ff) (hk : K ≤ L) : b8T K ff := fun kx hx => hh kx (by omega)
theorem b8_l {L : Nat} {ff gg : Nat → Int32} (hh : b8T L ff) (hl : likeT L ff gg) : b8T L gg := fun kx hk => by rw [← hl kx hk]; exact hh kx hk
/-- the bytes of a module, one by one -/
def svF (nn np : Nat) (rs : Int32) (fp fc le tu vo sr lo fk : Nat → Int32) (kx : Nat) : Int32 := if kx < 20 then 0 else if kx < 950 then hdB le tu vo sr lo ((kx - 20) / 30 + 1) ((kx - 20) % 30) else if kx = 950 then (nI nn).toInt8.toInt32 else if kx = 951 then rs.toInt8.toInt32 else if kx < 1080 then (if kx - 952 < nn then (fp (kx - 952)).toInt8.toInt32 else 0) else if kx < 1084 then (mkv (kx - 1080)).toInt8.toInt32 else if kx < 1084 + 1024 * np then ceB (fc ((kx - 1084) / 4)) ((kx - 1084) % 4) else fk (kx - (1084 + 1024 * np))
theorem sv_ok (nn np : Nat) (rs : Int32) (fp fc le tu vo sr lo fk : Nat → Int32) (ln : Nat → Nat) : svOk (svF nn np rs fp fc le tu vo sr lo fk) nn np rs fp fc le tu vo sr lo ln (fun ss ii => fk (sumTo ln ss + ii)) := by
  refine ⟨fun kx hk => ?_, fun ss oo h1 h2 h3 => ?_, ⟨?_, ?_⟩, fun ii hi => ?_, fun ii hi => ?_, fun cc oo h1 h2 => ?_, fun ss h1 h2 ii h3 => ?_⟩
  · unfold svF; rw [if_pos hk]
  · unfold svF
    rw [if_neg (by omega), if_pos (by omega), show (20 + 30 * (ss - 1) + oo - 20) / 30 + 1 = ss by omega, show (20 + 30 * (ss - 1) + oo - 20) % 30 = oo by omega]
  · unfold svF; rw [if_neg (by omega), if_neg (by omega), if_pos rfl]
  · unfold svF; rw [if_neg (by omega), if_neg (by omega), if_neg (by omega), if_pos rfl]
  · unfold svF
    rw [if_neg (by omega), if_neg (by omega), if_neg (by omega), if_neg (by omega), if_pos (by omega), show 952 + ii - 952 = ii by omega]
  · unfold svF
    rw [if_neg (by omega), if_neg (by omega), if_neg (by omega), if_neg (by omega), if_neg (by omega), if_pos (by omega), show 1080 + ii - 1080 = ii by omega]
  · unfold svF
    rw [if_neg (by omega), if_neg (by omega), if_neg (by omega), if_neg (by omega), if_neg (by omega), if_neg (by omega), if_pos (by omega), show (1084 + 4 * cc + oo - 1084) / 4 = cc by omega, show (1084 + 4 * cc + oo - 1084) % 4 = oo by omega]
  · unfold svF
    rw [if_neg (by omega), if_neg (by omega), if_neg (by omega), if_neg (by omega), if_neg (by omega), if_neg (by omega), if_neg (by omega), show 1084 + 1024 * np + sumTo ln ss + ii - (1084 + 1024 * np) = sumTo ln ss + ii by omega]
theorem hd_b8 (le tu vo sr lo : Nat → Int32) (ss oo : Nat) : (hdB le tu vo sr lo ss oo).toInt8.toInt32 = hdB le tu vo sr lo ss oo := by
  unfold hdB
  by_cases h0 : oo = 22
  · rw [if_pos h0]; exact b8_2 _
  · rw [if_neg h0]
    by_cases h1 : oo = 23
    · rw [if_pos h1]; exact b8_2 _
    · rw [if_neg h1]
      by_cases h2 : oo = 24
      · rw [if_pos h2]; exact b8_2 _
      · rw [if_neg h2]
        by_cases h3 : oo = 25
        · rw [if_pos h3]; exact b8_2 _
        · rw [if_neg h3]
          by_cases h4 : oo = 26
          · rw [if_pos h4]; exact b8_2 _
          · rw [if_neg h4]
            by_cases h5 : oo = 27
            · rw [if_pos h5]; exact b8_2 _
            · rw [if_neg h5]
              by_cases h6 : oo = 28
              · rw [if_pos h6]; exact b8_2 _
              · rw [if_neg h6]
                by_cases h7 : oo = 29
                · rw [if_pos h7]; exact b8_2 _
                · rw [if_neg h7]
                  rfl
theorem ce_b8 (vv : Int32) (oo : Nat) : (ceB vv oo).toInt8.toInt32 = ceB vv oo := by
  unfold ceB
  by_cases h0 : oo = 0
  · rw [if_pos h0]; exact b8_2 _
  · rw [if_neg h0]
    by_cases h1 : oo = 1
    · rw [if_pos h1]; exact b8_2 _
    · rw [if_neg h1]
      by_cases h2 : oo = 2
      · rw [if_pos h2]; exact b8_2 _
      · rw [if_neg h2]
        exact b8_2 _
theorem b8_i (aa bb : Nat) (vv : Int32) : (if aa < bb then vv.toInt8.toInt32 else 0 : Int32).toInt8.toInt32 = if aa < bb then vv.toInt8.toInt32 else 0 := by
  by_cases h1 : aa < bb
  · rw [if_pos h1]; exact b8_2 _
  · rw [if_neg h1]; rfl
theorem sv_b8 {nn np : Nat} {rs : Int32} {fp fc le tu vo sr lo fk : Nat → Int32} (hf : sb_Fit fk) (kx : Nat) : (svF nn np rs fp fc le tu vo sr lo fk kx).toInt8.toInt32 = svF nn np rs fp fc le tu vo sr lo fk kx := by
  unfold svF
  by_cases h0 : kx < 20
  · rw [if_pos h0]; rfl
  · rw [if_neg h0]
    by_cases h1 : kx < 950
    · rw [if_pos h1]; exact hd_b8 _ _ _ _ _ _ _
    · rw [if_neg h1]
      by_cases h2 : kx = 950
      · rw [if_pos h2]; exact b8_2 _
      · rw [if_neg h2]
        by_cases h3 : kx = 951
        · rw [if_pos h3]; exact b8_2 _
        · rw [if_neg h3]
          by_cases h4 : kx < 1080
          · rw [if_pos h4]; exact b8_i _ _ _
          · rw [if_neg h4]
            by_cases h5 : kx < 1084
            · rw [if_pos h5]; exact b8_2 _
            · rw [if_neg h5]
              by_cases h6 : kx < 1084 + 1024 * np
              · rw [if_pos h6]; exact ce_b8 _ _
              · rw [if_neg h6]
                exact fit_b hf _
/-- another module with the same numbers has the same bytes -/
theorem sv_eq {SS : Nat → Int32} {nn np : Nat} {rs : Int32} {fp fc le tu vo sr lo fp2 fc2 le2 tu2 vo2 sr2 lo2 : Nat → Int32} {ln : Nat → Nat} {ww ww2 : Nat → Nat → Int32} (hs : svOk SS nn np rs fp fc le tu vo sr lo ln ww) (hn : nn ≤ 128) (hc : 256 * np ≤ 2048) (h1 : ∀ jj, jj < 128 → fp jj = fp2 jj) (h2 : ∀ jj, jj < 2048 → fc jj = fc2 jj) (h3 : ∀ ss, 1 ≤ ss → ss < 32 → le ss = le2 ss ∧ tu ss = tu2 ss ∧ vo ss = vo2 ss ∧ sr ss = sr2 ss ∧ lo ss = lo2 ss) (h4 : ∀ ss, 1 ≤ ss → ss < 32 → ∀ ii, ii < ln ss → ww ss ii = ww2 ss ii) : svOk SS nn np rs fp2 fc2 le2 tu2 vo2 sr2 lo2 ln ww2 := by
  obtain ⟨k0, k1, k2, k3, k4, k5, k6⟩ := hs
  refine ⟨k0, fun ss oo q1 q2 q3 => ?_, k2, fun ii hi => ?_, k4, fun cc oo q1 q2 => ?_, fun ss q1 q2 ii q3 => ?_⟩
  · obtain ⟨e1, e2, e3, e4, e5⟩ := h3 ss q1 q2
    rw [k1 ss oo q1 q2 q3]
    unfold hdB
    rw [e1, e2, e3, e4, e5]
  · rw [k3 ii hi, h1 ii hi]
  · rw [k5 cc oo q1 q2, h2 cc (by omega)]
  · rw [k6 ss q1 q2 ii q3, h4 ss q1 q2 ii q3]
/-- the rows of samples of class and model -/
def qSm (tu vo sr lo a6 a7 a8 a9 : Nat → Int32) : Prop := ∀ ss, 1 ≤ ss → ss < 32 → tu ss = a6 ss ∧ vo ss = a7 ss ∧ sr ss = a8 ss ∧ lo ss = a9 ss
def qLn (ln : Nat → Nat) (a5 : Nat → Int32) : Prop := ∀ ss, 1 ≤ ss → ss < 32 → a5 ss = nI (ln ss)
def qWv (ln : Nat → Nat) (fk a10 : Nat → Int32) : Prop := ∀ ss, 1 ≤ ss → ss < 32 → ∀ ii, ii < ln ss → fk (sumTo ln ss + ii) = a10 (2000 * ss + ii)
def qEq (NN : Nat) (fa fb : Nat → Int32) : Prop := ∀ jj, jj < NN → fa jj = fb jj
theorem qEq_u {NN kx : Nat} {fa fb : Nat → Int32} {vv : Int32} (hh : qEq NN fa fb) : qEq NN (upd fa kx vv) (upd fb kx vv) := by
  intro jj hj
  simp only [upd]
  by_cases h1 : jj = kx
  · rw [if_pos h1, if_pos h1]
  · rw [if_neg h1, if_neg h1]; exact hh jj hj
theorem qLn_u {ln : Nat → Nat} {a5 : Nat → Int32} {kx nx : Nat} (hh : qLn ln a5) : qLn (updN ln kx nx) (upd a5 kx (nI nx)) := by
  intro ss h1 h2
  simp only [upd, updN]
  by_cases he : ss = kx
  · rw [if_pos he, if_pos he]
  · rw [if_neg he, if_neg he]; exact hh ss h1 h2
theorem qSm_u {tu vo sr lo a6 a7 a8 a9 : Nat → Int32} {kx : Nat} {ta va sa la : Int32} (hh : qSm tu vo sr lo a6 a7 a8 a9) : qSm (upd tu kx ta) (upd vo kx va) (upd sr kx sa) (upd lo kx la) (upd a6 kx ta) (upd a7 kx va) (upd a8 kx sa) (upd a9 kx la) := by
  intro ss h1 h2
  obtain ⟨k1, k2, k3, k4⟩ := hh ss h1 h2
  by_cases he : ss = kx
  · subst he; simp [upd]
  · simp [upd, he, k1, k2, k3, k4]
theorem qSm_l {tu vo sr lo a6 a7 a8 a9 : Nat → Int32} {kx : Nat} {sa la : Int32} (hh : qSm tu vo sr lo a6 a7 a8 a9) : qSm tu vo (upd sr kx sa) (upd lo kx la) a6 a7 (upd a8 kx sa) (upd a9 kx la) := by
  intro ss h1 h2
  obtain ⟨k1, k2, k3, k4⟩ := hh ss h1 h2
  by_cases he : ss = kx
  · subst he; simp [upd, k1, k2]
  · simp [upd, he, k1, k2, k3, k4]
/-- a byte of a sample, told on both sides -/
theorem qWv_w {ln : Nat → Nat} {fk a10 : Nat → Int32} {kx jx : Nat} {vv : Int32} (hh : qWv ln fk a10) (hl : ∀ ss, ss < 32 → ln ss ≤ 2000) (h1 : 1 ≤ kx) (h2 : kx < 32) (hj : jx < ln kx) : qWv ln (upd fk (sumTo ln kx + jx) vv) (upd a10 (2000 * kx + jx) vv) := by
  intro ss k1 k2 ii hi
  have hls := hl ss k2
  have hlk := hl kx h2
  simp only [upd]
  by_cases he : ss = kx
  · subst he
    by_cases h3 : ii = jx
    · subst h3; rw [if_pos rfl, if_pos rfl]
    · rw [if_neg (by omega), if_neg (by omega)]; exact hh ss k1 k2 ii hi
  · have hne : ¬ sumTo ln ss + ii = sumTo ln kx + jx := by
      rcases Nat.lt_or_ge ss kx with q1 | q1
      · have := sumTo_mono ln (show ss + 1 ≤ kx by omega)
        simp only [sumTo] at this
        omega
      · have := sumTo_mono ln (show kx + 1 ≤ ss by omega)
        simp only [sumTo] at this
        omega
    rw [if_neg hne, if_neg (by omega)]
    exact hh ss k1 k2 ii hi
/-- a new length on both sides -/
theorem qWv_s {ln : Nat → Nat} {fk f2 a10 : Nat → Int32} {kx nx : Nat} (hh : qWv ln fk a10) (hl : ∀ ss, ss < 32 → ln ss ≤ 2000) (h1 : 1 ≤ kx) (h2 : kx < 32) (hn : nx ≤ 2000) (he : f2 = ffill (va_cpy fk fk (sumTo ln kx + ln kx) (sumTo ln kx + nx) (sumTo ln 32 - (sumTo ln kx + ln kx))) (sumTo ln kx) (sumTo ln kx + nx) 0) : qWv (updN ln kx nx) f2 (ffill a10 (2000 * kx) (2000 * kx + 2000) 0) := by
  intro ss k1 k2 ii hi
  have hls := hl ss k2
  rw [he]
  rcases Nat.lt_trichotomy ss kx with q1 | q1 | q1
  · have e1 : updN ln kx nx ss = ln ss := by simp only [updN]; rw [if_neg (by omega)]
    rw [e1] at hi
    have e2 := sumTo_le ln kx nx ss (by omega)
    have e3 := sumTo_mono ln (show ss + 1 ≤ kx by omega)
    simp only [sumTo] at e3
    simp only [ffill, va_cpy]
    rw [e2, if_neg (by omega), if_neg (by omega), if_neg (by omega)]
    exact hh ss k1 k2 ii hi
  · subst q1
    have e1 : updN ln ss nx ss = nx := by simp [updN]
    rw [e1] at hi
    have e2 := sumTo_le ln ss nx ss (Nat.le_refl _)
    simp only [ffill]
    rw [e2, if_pos (by omega), if_pos (by omega)]
  · have e1 : updN ln kx nx ss = ln ss := by simp only [updN]; rw [if_neg (by omega)]
    rw [e1] at hi
    have e2 := sumTo_gt ln kx nx ss q1
    have e3 := sumTo_mono ln (show kx + 1 ≤ ss by omega)
    have e4 := sumTo_s ln k2
    simp only [sumTo] at e3
    simp only [ffill, va_cpy]
    rw [if_neg (by omega), if_pos (by omega), if_neg (by omega), show sumTo ln kx + ln kx + (sumTo (updN ln kx nx) ss + ii - (sumTo ln kx + nx)) = sumTo ln ss + ii by omega]
    exact hh ss k1 k2 ii hi
/-- what load gives, on both sides -/
theorem qLd_ln {L : Nat} {ff gg k5 : Nat → Int32} (hl : likeT L ff gg) (hL : 1084 ≤ L) (hk : ∀ ss, 1 ≤ ss → ss < 32 → k5 ss = nI (tw2 gg (30 * ss + 12))) : qLn (l2 ff) k5 := by
  intro ss h1 h2
  rw [hk ss h1 h2, l2_e ff h1, tw2_c hl (by omega)]
theorem qLd_sm {L : Nat} {ff gg tu vo sr lo k6 k7 k8 k9 : Nat → Int32} (hl : likeT L ff gg) (hL : 1084 ≤ L) (ha : ∀ ss, 1 ≤ ss → ss < 32 → smF ff ss tu vo sr lo) (hb : ∀ ss, 1 ≤ ss → ss < 32 → smF gg ss k6 k7 k8 k9) : qSm tu vo sr lo k6 k7 k8 k9 := by
  intro ss h1 h2
  obtain ⟨a1, a2, a3, a4⟩ := ha ss h1 h2
  obtain ⟨b1, b2, b3, b4⟩ := hb ss h1 h2
  rw [a1, a2, a3, a4, b1, b2, b3, b4, by8_c hl (show 30 * ss + 14 < L by omega), by8_c hl (show 30 * ss + 15 < L by omega), tw2_c hl (show 30 * ss + 16 + 1 < L by omega), tw2_c hl (show 30 * ss + 18 + 1 < L by omega)]
  exact ⟨rfl, rfl, rfl, rfl⟩
theorem qLd_wv {L : Nat} {ff gg f2 k10 : Nat → Int32} (hl : likeT L ff gg) (hL : 1084 ≤ L) (hb : by8 ff 950 ≤ 128) (hn : needF ff ≤ L) (ha : ∀ jj, jj < sumTo (l2 ff) 32 → f2 jj = ff (1084 + 1024 * npF ff + jj)) (hk : wvP gg (1084 + 1024 * npF gg) 32 k10) : qWv (l2 ff) f2 k10 := by
  intro ss h1 h2 ii hi
  have e1 := l2_e ff h1
  have e2 := sumTo_s (l2 ff) h2
  unfold needF at hn
  rw [ha _ (by omega), hk ss h1 h2 ii (by rw [← tw2_c hl (by omega), ← e1]; exact hi), ← npF_c hl hL hb, ← l2s_c hl hL (show ss ≤ 32 by omega), ← Nat.add_assoc]
  exact hl _ (by omega)
theorem qLd_fil {NN JA JB : Nat} {ga gb fa fb : Nat → Int32} (ha : filR NN JA ga fa) (hb : filR NN JB gb fb) (hj : JA = JB) (hg : ∀ jj, jj < NN → jj < JA → ga jj = gb jj) : qEq NN fa fb := by
  intro jj h1
  rw [ha jj h1, hb jj h1, ← hj]
  by_cases h2 : jj < JA
  · rw [if_pos h2, if_pos h2, hg jj h1 h2]
  · rw [if_neg h2, if_neg h2]
theorem pn_e {aa : Nat → Int32} (hh : rg 128 0 7 aa) {jj : Nat} (hj : jj < 128) : aa jj = nI (aa jj).toInt.toNat := by
  obtain ⟨kx, hk, ek⟩ := rg_nat (mx := 7) hh hj rfl
  rw [ek, nI_toInt (by omega)]
  rfl
theorem pn_b {aa : Nat → Int32} (hh : rg 128 0 7 aa) {jj : Nat} (hj : jj < 128) : (aa jj).toInt.toNat < 8 := by
  have := hh jj hj
  omega
theorem end_t {nn : Int32} {jn L : Nat} (hj : jn ≤ L) (he : nn = nI jn) (hL : L ≤ 9000) : 0 ≤ nn ∧ nn ≤ nI L := by
  rw [he]
  exact ⟨nI_pos' (by omega), nI_le hj (by omega)⟩
theorem pk_t {ii : Int32} {jp : Nat} (hj : jp < 9000) (he : ii = nI jp) : 0 ≤ ii ∧ ii < 9000 := by
  rw [he]
  exact isin0 hj (by decide)
theorem tp_t {ii : Int32} {kx L : Nat} (hk : kx < L) (he : ii = nI kx) (hL : L ≤ 9000) : 0 ≤ ii ∧ ii < nI L := by
  rw [he]
  exact isin0 hk (by omega)
def LI (p : Program) (l : Launch) (e : Env) (s : State) (m : MethodId) (below : List Frame) (meth : Method) (c : Code) (b : Nat) (A : Nat → Prop) (dC : Nat → ClassId) (dI : Nat → Nat → Nat) (aT_9 : Nat) (tb_9 : Nat) (aB_9 : Nat) (sa_9 : Nat) (bb_9 : Nat) (aS_9 : Nat) (ce_9 : Nat) (pl_9 : Nat) (aR_9 : Nat) (aF_9 : Nat) (be_9 : Nat) (aX_9 : Nat) (le_9 : Nat) (ri_9 : Nat) (aC_9 : Nat) (c0_9 : Nat) (c1_9 : Nat) (c2_9 : Nat) (c3_9 : Nat) (v0_9 : Nat) (v1_9 : Nat) (v2_9 : Nat) (v3_9 : Nat) (w0_9 : Nat) (w1_9 : Nat) (w2_9 : Nat) (w3_9 : Nat) (ad_9 : Nat → Nat) (cB_9 : ClassId) (cS_9 : ClassId) (cI_9 : ClassId) (cJ_9 : ClassId) (cC_9 : ClassId) (g_9 : Nat → Option Nat) (gc_9 : Nat → Option Nat) (k_9 : Nat) (qa_22 : Nat → Nat) (kk_22 : Nat) (cZ_22 : ClassId) (q_0 : Nat) (q_13 : Nat) (iq : Nat) : Prop := ∀ (zL : Nat) (zft : Nat → Int32) (zus : Int32) (zfk : Nat → Int32) (zsn : Int32) (zrs : Int32) (zfc : Nat → Int32) (zfp : Nat → Int32) (zr0 : Int32) (zr1 : Int32) (zwf : Nat → Int32) (ztp : Nat) (ztk : Int32) (zfb : Nat → Int64) (zmf : Nat) (zsm : Int32) (zml : Nat → Int32) (zmr : Nat → Int32) (zc0 : Nat → Int32) (zl0 : Int64) (zu0 : Int32) (zv0 : Nat → Int32) (zy0 : Nat → Int32) (zc1 : Nat → Int32) (zl1 : Int64) (zu1 : Int32) (zv1 : Nat → Int32) (zy1 : Nat → Int32) (zc2 : Nat → Int32) (zl2 : Int64) (zu2 : Int32) (zv2 : Nat → Int32) (zy2 : Nat → Int32) (zc3 : Nat → Int32) (zl3 : Int64) (zu3 : Int32) (zv3 : Nat → Int32) (zy3 : Nat → Int32) (zle : Nat → Int32) (ztu : Nat → Int32) (zvo : Nat → Int32) (zsr : Nat → Int32) (zlo : Nat → Int32) (zfr : Nat → Int32) (zln : Nat → Nat) (zLL : Nat) (mi3 : Int32) (mi4 : Int32) (mi13 : Int32) (mi14 : Int32) (mi15 : Int32) (mi16 : Int32) (mi17 : Int32) (mi18 : Int32) (mi19 : Int32) (mi20 : Int32) (mi21 : Int32) (mi22 : Int32) (mi23 : Int32) (mi24 : Int32) (mi26 : Int32) (mi27 : Int32) (mi28 : Int32) (ma1 : Nat → Int32) (ma5 : Nat → Int32) (ma6 : Nat → Int32) (ma7 : Nat → Int32) (ma8 : Nat → Int32) (ma9 : Nat → Int32) (ma10 : Nat → Int32) (ma11 : Nat → Int32) (ma12 : Nat → Int32) (ma25 : Nat → Int32) (ma29 : Nat → Int32) (ma30 : Nat → Int32) (ma31 : Nat → Int32) (ma32 : Nat → Int32) (ma33 : Nat → Int32) (ma34 : Nat → Int32) (ma35 : Nat → Int32) (ma36 : Nat → Int32) (ma37 : Nat → Int32) (ma38 : Nat → Int32) (ma39 : Nat → Int32) (ma40 : Nat → Int32) (ma41 : Nat → Int32) (ma42 : Nat → Int32) (ma43 : Nat → Int32) (ma44 : Nat → Int32) (ma45 : Nat → Int32) (ma46 : Nat → Int32) (ma47 : Nat → Int32) (ma48 : Nat → Int32) (ma49 : Nat → Int32) (ma50 : Nat → Int64) (ma51 : Nat → Int32) (ma52 : Nat → Int32) (hzL : zL ≤ 9000) (hB : bankOk zln zle zfr zus) (hfit : sb_Fit zfk) (htp1 : 32 ≤ ztp) (htp2 : ztp ≤ 255) (hzm : zmf ≤ k_9 * 5 / 64) (hu0 : b01 zu0) (hu1 : b01 zu1) (hu2 : b01 zu2) (hu3 : b01 zu3) (hzLL : zLL ≤ 9000) (r_ma5 : rg 32 0 2000 ma5) (r_ma8 : rg 32 0 131070 ma8) (r_ma9 : rg 32 0 131070 ma9) (r_ma12 : rg 128 0 7 ma12) (r_ma31 : rg 4 0 31 ma31) (r_ma34 : rg 4 0 856 ma34) (r_ma36 : rg 4 0 856 ma36) (r_ma37 : rg 4 0 255 ma37) (r_ma44 : rg 4 0 255 ma44) (r_ma45 : rg 4 0 63 ma45) (r_ma48 : rg 4 0 2147483647 ma48) (r_ma50 : rgL 4 0 1099511627776 ma50) (r_ma52 : rg 4 0 1 ma52) (h_mi13 : plc mi13) (h_mi14 : rst mi14) (h_mi16 : tmo mi16) (h_mi24 : frm mi24) (hpr : prOk mi23 mi17 mi18 mi26 mi27 mi28) (hmr : muR ma52 zu0 zu1 zu2 zu3) (qL : zL = zLL) (qT : likeT zL zft ma1) (qb : b8T zL zft) (qf0 : zr0 = mi3) (qf1 : zr1 = mi4) (qln : qLn zln ma5) (qsm : qSm ztu zvo zsr zlo ma6 ma7 ma8 ma9) (qwv : qWv zln zfk ma10) (qce : qEq 2048 zfc ma11) (qpl : qEq 128 zfp ma12) (qsn : zsn = mi13) (qrs : zrs = mi14) (qtk : ztk = mi23) (H : Heap) (locs : List Loc), va_P (dC, dI) vwCl (([(q_0, .inr (9, [.ref aT_9, .ref aB_9, .ref aS_9, .ref aR_9, .ref aF_9, .ref aC_9, .ref aX_9])), (aT_9, .inr (7, [.ref tb_9, .int (nI zL)])), (tb_9, .inl (cB_9, 9000, .inl zft)), (aB_9, .inr (0, [.ref sa_9, .ref bb_9, .int zus])), (sa_9, .inl (cS_9, 32, .inr (.inr (.inr (.inr g_9))))), (bb_9, .inl (cB_9, 4000, .inl zfk)), (aS_9, .inr (6, [.ref ce_9, .ref pl_9, .int zsn, .int zrs])), (ce_9, .inl (cI_9, 2048, .inl zfc)), (pl_9, .inl (cI_9, 128, .inl zfp)), (aR_9, .inr (4, [.int zr0, .int zr1])), (aF_9, .inr (2, [.ref aS_9, .ref be_9, .int (zwf 2), .int (nI ztp), .int (zwf 4), .int (zwf 5), .int (zwf 6), .int ztk, .int (zwf 8), .int (zwf 9), .int (zwf 10), .int (zwf 11), .int (zwf 12)])), (be_9, .inl (cJ_9, 128, .inr (.inl zfb))), (aX_9, .inr (3, [.int (nI k_9), .ref le_9, .ref ri_9, .int (nI zmf), .int zsm])), (le_9, .inl (cI_9, (k_9 * 5 / 64), .inl zml)), (ri_9, .inl (cI_9, (k_9 * 5 / 64), .inl zmr)), (aC_9, .inl (cC_9, 4, .inr (.inr (.inr (.inr gc_9))))), (c0_9, .inr (1, [.ref aB_9, .ref v0_9, .ref w0_9, .int (zc0 3), .int (zc0 4), .int (zc0 5), .int (zc0 6), .int (zc0 7), .int (zc0 8), .int (zc0 9), .int (zc0 10), .int (zc0 11), .int (zc0 12), .int (zc0 13), .int (zc0 14), .int (zc0 15), .long zl0, .int (zc0 17), .int zu0])), (c1_9, .inr (1, [.ref aB_9, .ref v1_9, .ref w1_9, .int (zc1 3), .int (zc1 4), .int (zc1 5), .int (zc1 6), .int (zc1 7), .int (zc1 8), .int (zc1 9), .int (zc1 10), .int (zc1 11), .int (zc1 12), .int (zc1 13), .int (zc1 14), .int (zc1 15), .long zl1, .int (zc1 17), .int zu1])), (c2_9, .inr (1, [.ref aB_9, .ref v2_9, .ref w2_9, .int (zc2 3), .int (zc2 4), .int (zc2 5), .int (zc2 6), .int (zc2 7), .int (zc2 8), .int (zc2 9), .int (zc2 10), .int (zc2 11), .int (zc2 12), .int (zc2 13), .int (zc2 14), .int (zc2 15), .long zl2, .int (zc2 17), .int zu2])), (c3_9, .inr (1, [.ref aB_9, .ref v3_9, .ref w3_9, .int (zc3 3), .int (zc3 4), .int (zc3 5), .int (zc3 6), .int (zc3 7), .int (zc3 8), .int (zc3 9), .int (zc3 10), .int (zc3 11), .int (zc3 12), .int (zc3 13), .int (zc3 14), .int (zc3 15), .long zl3, .int (zc3 17), .int zu3])), (v0_9, .inr (8, [.int (zv0 0), .int (zv0 1), .int (zv0 2), .int (zv0 3)])), (v1_9, .inr (8, [.int (zv1 0), .int (zv1 1), .int (zv1 2), .int (zv1 3)])), (v2_9, .inr (8, [.int (zv2 0), .int (zv2 1), .int (zv2 2), .int (zv2 3)])), (v3_9, .inr (8, [.int (zv3 0), .int (zv3 1), .int (zv3 2), .int (zv3 3)])), (w0_9, .inr (8, [.int (zy0 0), .int (zy0 1), .int (zy0 2), .int (zy0 3)])), (w1_9, .inr (8, [.int (zy1 0), .int (zy1 1), .int (zy1 2), .int (zy1 3)])), (w2_9, .inr (8, [.int (zy2 0), .int (zy2 1), .int (zy2 2), .int (zy2 3)])), (w3_9, .inr (8, [.int (zy3 0), .int (zy3 1), .int (zy3 2), .int (zy3 3)])), (q_13, .inr (10, mdF qa_22 (nI kk_22) (nI zLL) mi3 mi4 mi13 mi14 mi15 mi16 mi17 mi18 mi19 mi20 mi21 mi22 mi23 mi24 mi26 mi27 mi28)), (qa_22 1, .inl (cB_9, 9000, .inl ma1)), (qa_22 5, .inl (cI_9, 32, .inl ma5)), (qa_22 6, .inl (cI_9, 32, .inl ma6)), (qa_22 7, .inl (cI_9, 32, .inl ma7)), (qa_22 8, .inl (cI_9, 32, .inl ma8)), (qa_22 9, .inl (cI_9, 32, .inl ma9)), (qa_22 10, .inl (cB_9, 64000, .inl ma10)), (qa_22 11, .inl (cI_9, 2048, .inl ma11)), (qa_22 12, .inl (cI_9, 128, .inl ma12)), (qa_22 25, .inl (cZ_22, 8192, .inl ma25)), (qa_22 29, .inl (cI_9, 1300, .inl ma29)), (qa_22 30, .inl (cI_9, 1300, .inl ma30)), (qa_22 31, .inl (cI_9, 4, .inl ma31)), (qa_22 32, .inl (cI_9, 4, .inl ma32)), (qa_22 33, .inl (cI_9, 4, .inl ma33)), (qa_22 34, .inl (cI_9, 4, .inl ma34)), (qa_22 35, .inl (cI_9, 4, .inl ma35)), (qa_22 36, .inl (cI_9, 4, .inl ma36)), (qa_22 37, .inl (cI_9, 4, .inl ma37)), (qa_22 38, .inl (cI_9, 4, .inl ma38)), (qa_22 39, .inl (cI_9, 4, .inl ma39)), (qa_22 40, .inl (cI_9, 4, .inl ma40)), (qa_22 41, .inl (cI_9, 4, .inl ma41)), (qa_22 42, .inl (cI_9, 4, .inl ma42)), (qa_22 43, .inl (cI_9, 4, .inl ma43)), (qa_22 44, .inl (cI_9, 4, .inl ma44)), (qa_22 45, .inl (cI_9, 4, .inl ma45)), (qa_22 46, .inl (cI_9, 4, .inl ma46)), (qa_22 47, .inl (cI_9, 4, .inl ma47)), (qa_22 48, .inl (cI_9, 4, .inl ma48)), (qa_22 49, .inl (cI_9, 4, .inl ma49)), (qa_22 50, .inl (cJ_9, 4, .inr (.inl ma50))), (qa_22 51, .inl (cZ_22, 4, .inl ma51)), (qa_22 52, .inl (cZ_22, 4, .inl ma52))] : va_W) ++ famN 32 ad_9 zle ztu zvo zsr zlo zfr) H → va_D A (([(q_0, .inr (9, [.ref aT_9, .ref aB_9, .ref aS_9, .ref aR_9, .ref aF_9, .ref aC_9, .ref aX_9])), (aT_9, .inr (7, [.ref tb_9, .int (nI zL)])), (tb_9, .inl (cB_9, 9000, .inl zft)), (aB_9, .inr (0, [.ref sa_9, .ref bb_9, .int zus])), (sa_9, .inl (cS_9, 32, .inr (.inr (.inr (.inr g_9))))), (bb_9, .inl (cB_9, 4000, .inl zfk)), (aS_9, .inr (6, [.ref ce_9, .ref pl_9, .int zsn, .int zrs])), (ce_9, .inl (cI_9, 2048, .inl zfc)), (pl_9, .inl (cI_9, 128, .inl zfp)), (aR_9, .inr (4, [.int zr0, .int zr1])), (aF_9, .inr (2, [.ref aS_9, .ref be_9, .int (zwf 2), .int (nI ztp), .int (zwf 4), .int (zwf 5), .int (zwf 6), .int ztk, .int (zwf 8), .int (zwf 9), .int (zwf 10), .int (zwf 11), .int (zwf 12)])), (be_9, .inl (cJ_9, 128, .inr (.inl zfb))), (aX_9, .inr (3, [.int (nI k_9), .ref le_9, .ref ri_9, .int (nI zmf), .int zsm])), (le_9, .inl (cI_9, (k_9 * 5 / 64), .inl zml)), (ri_9, .inl (cI_9, (k_9 * 5 / 64), .inl zmr)), (aC_9, .inl (cC_9, 4, .inr (.inr (.inr (.inr gc_9))))), (c0_9, .inr (1, [.ref aB_9, .ref v0_9, .ref w0_9, .int (zc0 3), .int (zc0 4), .int (zc0 5), .int (zc0 6), .int (zc0 7), .int (zc0 8), .int (zc0 9), .int (zc0 10), .int (zc0 11), .int (zc0 12), .int (zc0 13), .int (zc0 14), .int (zc0 15), .long zl0, .int (zc0 17), .int zu0])), (c1_9, .inr (1, [.ref aB_9, .ref v1_9, .ref w1_9, .int (zc1 3), .int (zc1 4), .int (zc1 5), .int (zc1 6), .int (zc1 7), .int (zc1 8), .int (zc1 9), .int (zc1 10), .int (zc1 11), .int (zc1 12), .int (zc1 13), .int (zc1 14), .int (zc1 15), .long zl1, .int (zc1 17), .int zu1])), (c2_9, .inr (1, [.ref aB_9, .ref v2_9, .ref w2_9, .int (zc2 3), .int (zc2 4), .int (zc2 5), .int (zc2 6), .int (zc2 7), .int (zc2 8), .int (zc2 9), .int (zc2 10), .int (zc2 11), .int (zc2 12), .int (zc2 13), .int (zc2 14), .int (zc2 15), .long zl2, .int (zc2 17), .int zu2])), (c3_9, .inr (1, [.ref aB_9, .ref v3_9, .ref w3_9, .int (zc3 3), .int (zc3 4), .int (zc3 5), .int (zc3 6), .int (zc3 7), .int (zc3 8), .int (zc3 9), .int (zc3 10), .int (zc3 11), .int (zc3 12), .int (zc3 13), .int (zc3 14), .int (zc3 15), .long zl3, .int (zc3 17), .int zu3])), (v0_9, .inr (8, [.int (zv0 0), .int (zv0 1), .int (zv0 2), .int (zv0 3)])), (v1_9, .inr (8, [.int (zv1 0), .int (zv1 1), .int (zv1 2), .int (zv1 3)])), (v2_9, .inr (8, [.int (zv2 0), .int (zv2 1), .int (zv2 2), .int (zv2 3)])), (v3_9, .inr (8, [.int (zv3 0), .int (zv3 1), .int (zv3 2), .int (zv3 3)])), (w0_9, .inr (8, [.int (zy0 0), .int (zy0 1), .int (zy0 2), .int (zy0 3)])), (w1_9, .inr (8, [.int (zy1 0), .int (zy1 1), .int (zy1 2), .int (zy1 3)])), (w2_9, .inr (8, [.int (zy2 0), .int (zy2 1), .int (zy2 2), .int (zy2 3)])), (w3_9, .inr (8, [.int (zy3 0), .int (zy3 1), .int (zy3 2), .int (zy3 3)])), (q_13, .inr (10, mdF qa_22 (nI kk_22) (nI zLL) mi3 mi4 mi13 mi14 mi15 mi16 mi17 mi18 mi19 mi20 mi21 mi22 mi23 mi24 mi26 mi27 mi28)), (qa_22 1, .inl (cB_9, 9000, .inl ma1)), (qa_22 5, .inl (cI_9, 32, .inl ma5)), (qa_22 6, .inl (cI_9, 32, .inl ma6)), (qa_22 7, .inl (cI_9, 32, .inl ma7)), (qa_22 8, .inl (cI_9, 32, .inl ma8)), (qa_22 9, .inl (cI_9, 32, .inl ma9)), (qa_22 10, .inl (cB_9, 64000, .inl ma10)), (qa_22 11, .inl (cI_9, 2048, .inl ma11)), (qa_22 12, .inl (cI_9, 128, .inl ma12)), (qa_22 25, .inl (cZ_22, 8192, .inl ma25)), (qa_22 29, .inl (cI_9, 1300, .inl ma29)), (qa_22 30, .inl (cI_9, 1300, .inl ma30)), (qa_22 31, .inl (cI_9, 4, .inl ma31)), (qa_22 32, .inl (cI_9, 4, .inl ma32)), (qa_22 33, .inl (cI_9, 4, .inl ma33)), (qa_22 34, .inl (cI_9, 4, .inl ma34)), (qa_22 35, .inl (cI_9, 4, .inl ma35)), (qa_22 36, .inl (cI_9, 4, .inl ma36)), (qa_22 37, .inl (cI_9, 4, .inl ma37)), (qa_22 38, .inl (cI_9, 4, .inl ma38)), (qa_22 39, .inl (cI_9, 4, .inl ma39)), (qa_22 40, .inl (cI_9, 4, .inl ma40)), (qa_22 41, .inl (cI_9, 4, .inl ma41)), (qa_22 42, .inl (cI_9, 4, .inl ma42)), (qa_22 43, .inl (cI_9, 4, .inl ma43)), (qa_22 44, .inl (cI_9, 4, .inl ma44)), (qa_22 45, .inl (cI_9, 4, .inl ma45)), (qa_22 46, .inl (cI_9, 4, .inl ma46)), (qa_22 47, .inl (cI_9, 4, .inl ma47)), (qa_22 48, .inl (cI_9, 4, .inl ma48)), (qa_22 49, .inl (cI_9, 4, .inl ma49)), (qa_22 50, .inl (cJ_9, 4, .inr (.inl ma50))), (qa_22 51, .inl (cZ_22, 4, .inl ma51)), (qa_22 52, .inl (cZ_22, 4, .inl ma52))] : va_W) ++ famN 32 ad_9 zle ztu zvo zsr zlo zfr) → va_S A s.heap H locs → ∀ ls : Array Slot, lv_has ls 4 [(3, .int (nI iq)), (2, .ref q_13), (1, .ref q_0), (0, .ref b)] → W p l e room_1 s m #[Value.ref b] below meth c H locs (95) (104445) (lw_Z below #[Value.ref b] s) (F0 m 28 ls [])
