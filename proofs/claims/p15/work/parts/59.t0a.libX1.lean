/-! reading a module, exactly: what the head says -/
def hsF (ft : Nat → Int32) : Nat → Nat → Nat → Nat
  | 0, _, _ => 0
  | nn + 1, ss, ah => if 2000 < tw2 ft (30 * ss + 12) ∨ 4000 < ah + tw2 ft (30 * ss + 12) then 30 * ss + 12 else if 15 < by8 ft (30 * ss + 14) then 30 * ss + 14 else if 64 < by8 ft (30 * ss + 15) then 30 * ss + 15 else if tw2 ft (30 * ss + 12) < tw2 ft (30 * ss + 16) + (if 2 < tw2 ft (30 * ss + 18) then tw2 ft (30 * ss + 18) else 0) then 30 * ss + 16 else hsF ft nn (ss + 1) (ah + tw2 ft (30 * ss + 12))
theorem hs_u (ft : Nat → Int32) {qq : Nat} (ah : Nat) (hq : qq < 32) : hsF ft (32 - qq) qq ah = if 2000 < tw2 ft (30 * qq + 12) ∨ 4000 < ah + tw2 ft (30 * qq + 12) then 30 * qq + 12 else if 15 < by8 ft (30 * qq + 14) then 30 * qq + 14 else if 64 < by8 ft (30 * qq + 15) then 30 * qq + 15 else if tw2 ft (30 * qq + 12) < tw2 ft (30 * qq + 16) + (if 2 < tw2 ft (30 * qq + 18) then tw2 ft (30 * qq + 18) else 0) then 30 * qq + 16 else hsF ft (32 - (qq + 1)) (qq + 1) (ah + tw2 ft (30 * qq + 12)) := by
  rw [show 32 - qq = (32 - (qq + 1)) + 1 by omega]
  rfl
theorem hs_a {ft : Nat → Int32} {qq ah hv : Nat} (he : hsF ft (32 - qq) qq ah = hv) (hq : qq < 32) (h1 : 2000 < tw2 ft (30 * qq + 12) ∨ 4000 < ah + tw2 ft (30 * qq + 12)) : hv = 30 * qq + 12 := by
  rw [← he, hs_u ft ah hq, if_pos h1]
theorem hs_b {ft : Nat → Int32} {qq ah hv : Nat} (he : hsF ft (32 - qq) qq ah = hv) (hq : qq < 32) (h1 : ¬ (2000 < tw2 ft (30 * qq + 12) ∨ 4000 < ah + tw2 ft (30 * qq + 12))) (h2 : 15 < by8 ft (30 * qq + 14)) : hv = 30 * qq + 14 := by
  rw [← he, hs_u ft ah hq, if_neg h1, if_pos h2]
theorem hs_c {ft : Nat → Int32} {qq ah hv : Nat} (he : hsF ft (32 - qq) qq ah = hv) (hq : qq < 32) (h1 : ¬ (2000 < tw2 ft (30 * qq + 12) ∨ 4000 < ah + tw2 ft (30 * qq + 12))) (h2 : ¬ 15 < by8 ft (30 * qq + 14)) (h3 : 64 < by8 ft (30 * qq + 15)) : hv = 30 * qq + 15 := by
  rw [← he, hs_u ft ah hq, if_neg h1, if_neg h2, if_pos h3]
theorem hs_d {ft : Nat → Int32} {qq ah hv : Nat} (he : hsF ft (32 - qq) qq ah = hv) (hq : qq < 32) (h1 : ¬ (2000 < tw2 ft (30 * qq + 12) ∨ 4000 < ah + tw2 ft (30 * qq + 12))) (h2 : ¬ 15 < by8 ft (30 * qq + 14)) (h3 : ¬ 64 < by8 ft (30 * qq + 15)) (h4 : tw2 ft (30 * qq + 12) < tw2 ft (30 * qq + 16) + (if 2 < tw2 ft (30 * qq + 18) then tw2 ft (30 * qq + 18) else 0)) : hv = 30 * qq + 16 := by
  rw [← he, hs_u ft ah hq, if_neg h1, if_neg h2, if_neg h3, if_pos h4]
theorem hs_n {ft : Nat → Int32} {qq ah hv : Nat} (he : hsF ft (32 - qq) qq ah = hv) (hq : qq < 32) (h1 : ¬ (2000 < tw2 ft (30 * qq + 12) ∨ 4000 < ah + tw2 ft (30 * qq + 12))) (h2 : ¬ 15 < by8 ft (30 * qq + 14)) (h3 : ¬ 64 < by8 ft (30 * qq + 15)) (h4 : ¬ tw2 ft (30 * qq + 12) < tw2 ft (30 * qq + 16) + (if 2 < tw2 ft (30 * qq + 18) then tw2 ft (30 * qq + 18) else 0)) : hsF ft (32 - (qq + 1)) (qq + 1) (ah + tw2 ft (30 * qq + 12)) = hv := by
  rw [← he, hs_u ft ah hq, if_neg h1, if_neg h2, if_neg h3, if_neg h4]
def sgF (ft : Nat → Int32) : Nat → Nat → Nat
  | 0, _ => 0
  | nn + 1, ii => if 8 ≤ by8 ft (952 + ii) then 952 + ii else sgF ft nn (ii + 1)
theorem sg_u (ft : Nat → Int32) {mx ii : Nat} (hi : ii < mx) : sgF ft (mx - ii) ii = if 8 ≤ by8 ft (952 + ii) then 952 + ii else sgF ft (mx - (ii + 1)) (ii + 1) := by
  rw [show mx - ii = (mx - (ii + 1)) + 1 by omega]
  rfl
theorem sg_a {ft : Nat → Int32} {mx ii hv : Nat} (he : sgF ft (mx - ii) ii = hv) (hi : ii < mx) (h1 : 8 ≤ by8 ft (952 + ii)) : hv = 952 + ii := by
  rw [← he, sg_u ft hi, if_pos h1]
theorem sg_n' {ft : Nat → Int32} {mx ii hv : Nat} (he : sgF ft (mx - ii) ii = hv) (hi : ii < mx) (h1 : ¬ 8 ≤ by8 ft (952 + ii)) : sgF ft (mx - (ii + 1)) (ii + 1) = hv := by
  rw [← he, sg_u ft hi, if_neg h1]
def sgG (ft : Nat → Int32) : Nat := if by8 ft 950 < 1 ∨ 128 < by8 ft 950 then 950 else sgF ft (by8 ft 950) 0
def hdF (ft : Nat → Int32) : Nat := if hsF ft 31 1 0 = 0 then sgG ft else hsF ft 31 1 0
def wI (nn : Nat) : Int32 := if nn = 0 then -1 else nI nn
theorem wI_0 {nn : Nat} (hh : nn = 0) : (-1 : Int32) = wI nn := by rw [wI, if_pos hh]
theorem wI_p {nn kx : Nat} (hh : nn = kx) (h0 : 0 < kx) : nI kx = wI nn := by rw [wI, if_neg (by omega), hh]
def mkF (ft : Nat → Int32) : Nat := if by8 ft 1080 ≠ 77 then 1080 else if by8 ft 1081 ≠ 46 then 1081 else if by8 ft 1082 ≠ 75 then 1082 else if by8 ft 1083 ≠ 46 then 1083 else 0
def pmF (ft : Nat → Int32) : Nat → Nat
  | 0 => 0
  | kx + 1 => max (pmF ft kx) (by8 ft (952 + kx) + 1)
def npF (ft : Nat → Int32) : Nat := pmF ft (by8 ft 950)
def needF (ft : Nat → Int32) : Nat := 1084 + 1024 * npF ft + sumTo (l2 ft) 32
def fkF (L : Nat) (ft : Nat → Int32) : Nat := if L < 1084 then 1 else if mkF ft ≠ 0 then 2 else if hdF ft ≠ 0 then 3 else if L < needF ft then 4 else 0
def fpF (L : Nat) (ft : Nat → Int32) : Int32 := if L < 1084 then nI L else if mkF ft ≠ 0 then nI (mkF ft) else if hdF ft ≠ 0 then nI (hdF ft) else if L < needF ft then nI L else -1
/-- the numbers of two tapes that are alike -/
theorem by8_c {L : Nat} {ff gg : Nat → Int32} (hl : likeT L ff gg) {kx : Nat} (hk : kx < L) : by8 ff kx = by8 gg kx := by
  unfold by8
  rw [hl kx hk]
theorem tw2_c {L : Nat} {ff gg : Nat → Int32} (hl : likeT L ff gg) {kx : Nat} (hk : kx + 1 < L) : tw2 ff kx = tw2 gg kx := by
  unfold tw2
  rw [by8_c hl (by omega), by8_c hl hk]
theorem hsF_c {L : Nat} {ff gg : Nat → Int32} (hl : likeT L ff gg) (hL : 1084 ≤ L) (nn : Nat) : ∀ ss ah, nn + ss ≤ 32 → hsF ff nn ss ah = hsF gg nn ss ah := by
  induction nn with
  | zero => intro ss ah _; rfl
  | succ nn ih =>
    intro ss ah hs
    simp only [hsF]
    rw [tw2_c hl (show 30 * ss + 12 + 1 < L by omega), by8_c hl (show 30 * ss + 14 < L by omega), by8_c hl (show 30 * ss + 15 < L by omega), tw2_c hl (show 30 * ss + 16 + 1 < L by omega), tw2_c hl (show 30 * ss + 18 + 1 < L by omega), ih (ss + 1) _ (by omega)]
theorem sgF_c {L : Nat} {ff gg : Nat → Int32} (hl : likeT L ff gg) (hL : 1084 ≤ L) (nn : Nat) : ∀ ii, nn + ii ≤ 128 → sgF ff nn ii = sgF gg nn ii := by
  induction nn with
  | zero => intro ii _; rfl
  | succ nn ih =>
    intro ii hs
    simp only [sgF]
    rw [by8_c hl (show 952 + ii < L by omega), ih (ii + 1) (by omega)]
theorem sgG_c {L : Nat} {ff gg : Nat → Int32} (hl : likeT L ff gg) (hL : 1084 ≤ L) : sgG ff = sgG gg := by
  unfold sgG
  rw [by8_c hl (show 950 < L by omega)]
  by_cases hh : by8 gg 950 < 1 ∨ 128 < by8 gg 950
  · rw [if_pos hh, if_pos hh]
  · rw [if_neg hh, if_neg hh, sgF_c hl hL _ 0 (by omega)]
theorem hdF_c {L : Nat} {ff gg : Nat → Int32} (hl : likeT L ff gg) (hL : 1084 ≤ L) : hdF ff = hdF gg := by
  unfold hdF
  rw [hsF_c hl hL 31 1 0 (by omega), sgG_c hl hL]
theorem mkF_c {L : Nat} {ff gg : Nat → Int32} (hl : likeT L ff gg) (hL : 1084 ≤ L) : mkF ff = mkF gg := by
  unfold mkF
  rw [by8_c hl (show 1080 < L by omega), by8_c hl (show 1081 < L by omega), by8_c hl (show 1082 < L by omega), by8_c hl (show 1083 < L by omega)]
theorem pmF_c {L : Nat} {ff gg : Nat → Int32} (hl : likeT L ff gg) (kx : Nat) (hk : 952 + kx ≤ L) : pmF ff kx = pmF gg kx := by
  induction kx with
  | zero => rfl
  | succ kx ih =>
    simp only [pmF]
    rw [ih (by omega), by8_c hl (show 952 + kx < L by omega)]
theorem l2_c {L : Nat} {ff gg : Nat → Int32} (hl : likeT L ff gg) (hL : 1084 ≤ L) {ss : Nat} (hs : ss < 32) : l2 ff ss = l2 gg ss := by
  unfold l2
  by_cases hh : ss = 0
  · rw [if_pos hh, if_pos hh]
  · rw [if_neg hh, if_neg hh, tw2_c hl (by omega)]
theorem sumTo_c {fa fb : Nat → Nat} {kx : Nat} (hh : ∀ ss, ss < kx → fa ss = fb ss) : sumTo fa kx = sumTo fb kx := by
  induction kx with
  | zero => rfl
  | succ kx ih =>
    simp only [sumTo]
    rw [ih (fun ss hs => hh ss (by omega)), hh kx (by omega)]
theorem lo_iff {tt ah : Nat} (ht : tt ≤ 131070) (ha : ah ≤ 4000) : lenOk (nI tt) (nI ah) ↔ (tt ≤ 2000 ∧ tt % 2 = 0 ∧ ah + tt ≤ 4000) := by
  unfold lenOk
  rw [nI_add, show nI tt - nI tt / 2 * 2 = nI (tt % 2) from pk_rem (by omega) (d := 2) (by decide) (by decide)]
  constructor
  · rintro ⟨h1, h2, h3, h4⟩
    exact ⟨nI_le' (b := 2000) h2 (by omega) (by decide), (nI_eq (b := 0) (by omega) (by decide)).mp h3, nI_le' (b := 4000) h4 (by omega) (by decide)⟩
  · rintro ⟨h1, h2, h3⟩
    exact ⟨nI_pos' (by omega), nI_le (b := 2000) h1 (by decide), by rw [h2]; rfl, nI_le (b := 4000) h3 (by decide)⟩
theorem tw2_ev (ft : Nat → Int32) (kx : Nat) : tw2 ft kx % 2 = 0 := by
  unfold tw2
  omega
theorem lo_f {tt ah : Nat} (ht : tt ≤ 131070) (ha : ah ≤ 4000) (hv : tt % 2 = 0) (hh : ¬ lenOk (nI tt) (nI ah)) : 2000 < tt ∨ 4000 < ah + tt := by
  rw [lo_iff ht ha] at hh
  omega
/-- whether a loop fits, in natural numbers -/
theorem lf_iff {nn aa bb : Nat} (hn : nn ≤ 131070) (ha : aa ≤ 131070) (hb : bb ≤ 131070) (va : aa % 2 = 0) (vb : bb % 2 = 0) : lfP (nI nn) (nI aa) (nI bb) ↔ ¬ nn < aa + (if 2 < bb then bb else 0) := by
  unfold lfP
  rw [show nI aa - nI aa / 2 * 2 = nI (aa % 2) from pk_rem (by omega) (d := 2) (by decide) (by decide), show nI bb - nI bb / 2 * 2 = nI (bb % 2) from pk_rem (by omega) (d := 2) (by decide) (by decide), va, vb, nI_toInt (show aa < 2 ^ 31 by omega), nI_toInt (show bb < 2 ^ 31 by omega), nI_toInt (show nn < 2 ^ 31 by omega)]
  have hq : nI bb ≤ 2 ↔ bb ≤ 2 := nI_leI (b := 2) (by omega) (by decide)
  by_cases h2 : 2 < bb
  · rw [if_neg (fun qv => by have := hq.mp qv; omega), if_pos h2]
    constructor
    · rintro ⟨-, -, -, -, h5⟩; omega
    · intro h5; exact ⟨nI_pos' (by omega), nI_pos' (by omega), rfl, rfl, by omega⟩
  · rw [if_pos (hq.mpr (by omega)), if_neg h2]
    constructor
    · rintro ⟨-, -, -, -, h5⟩; omega
    · intro h5; exact ⟨nI_pos' (by omega), nI_pos' (by omega), rfl, rfl, by omega⟩
theorem lf_f {nn aa bb : Nat} (hn : nn ≤ 131070) (ha : aa ≤ 131070) (hb : bb ≤ 131070) (va : aa % 2 = 0) (vb : bb % 2 = 0) (hh : ¬ lfP (nI nn) (nI aa) (nI bb)) : nn < aa + (if 2 < bb then bb else 0) := by
  rw [lf_iff hn ha hb va vb] at hh
  exact Decidable.not_not.mp hh
theorem lf_t {nn aa bb : Nat} (hn : nn ≤ 131070) (ha : aa ≤ 131070) (hb : bb ≤ 131070) (va : aa % 2 = 0) (vb : bb % 2 = 0) (hh : lfP (nI nn) (nI aa) (nI bb)) : ¬ nn < aa + (if 2 < bb then bb else 0) := (lf_iff hn ha hb va vb).mp hh
theorem mkq {bb kx : Nat} (hb : bb < 256) (hk : kx < 256) (hh : nI bb = nI kx) : bb = kx := (nI_eq (by omega) (by omega)).mp hh
theorem mk_0 {ft : Nat → Int32} (h0 : ¬ nI (by8 ft 1080) = mkv 0) : mkF ft = 1080 := by
  unfold mkF
  rw [if_pos (fun qv => h0 (by rw [qv]; rfl))]
theorem mk_1 {ft : Nat → Int32} (h0 : nI (by8 ft 1080) = mkv 0) (h1 : ¬ nI (by8 ft 1081) = mkv 1) : mkF ft = 1081 := by
  have e0 := mkq (kx := 77) (by8_lt ft 1080) (by decide) h0
  unfold mkF
  rw [if_neg (fun qv => qv e0), if_pos (fun qv => h1 (by rw [qv]; rfl))]
theorem mk_2 {ft : Nat → Int32} (h0 : nI (by8 ft 1080) = mkv 0) (h1 : nI (by8 ft 1081) = mkv 1) (h2 : ¬ nI (by8 ft 1082) = mkv 2) : mkF ft = 1082 := by
  have e0 := mkq (kx := 77) (by8_lt ft 1080) (by decide) h0
  have e1 := mkq (kx := 46) (by8_lt ft 1081) (by decide) h1
  unfold mkF
  rw [if_neg (fun qv => qv e0), if_neg (fun qv => qv e1), if_pos (fun qv => h2 (by rw [qv]; rfl))]
theorem mk_3 {ft : Nat → Int32} (h0 : nI (by8 ft 1080) = mkv 0) (h1 : nI (by8 ft 1081) = mkv 1) (h2 : nI (by8 ft 1082) = mkv 2) (h3 : ¬ nI (by8 ft 1083) = mkv 3) : mkF ft = 1083 := by
  have e0 := mkq (kx := 77) (by8_lt ft 1080) (by decide) h0
  have e1 := mkq (kx := 46) (by8_lt ft 1081) (by decide) h1
  have e2 := mkq (kx := 75) (by8_lt ft 1082) (by decide) h2
  unfold mkF
  rw [if_neg (fun qv => qv e0), if_neg (fun qv => qv e1), if_neg (fun qv => qv e2), if_pos (fun qv => h3 (by rw [qv]; rfl))]
theorem mk_4 {ft : Nat → Int32} (h0 : nI (by8 ft 1080) = mkv 0) (h1 : nI (by8 ft 1081) = mkv 1) (h2 : nI (by8 ft 1082) = mkv 2) (h3 : nI (by8 ft 1083) = mkv 3) : mkF ft = 0 := by
  have e0 := mkq (kx := 77) (by8_lt ft 1080) (by decide) h0
  have e1 := mkq (kx := 46) (by8_lt ft 1081) (by decide) h1
  have e2 := mkq (kx := 75) (by8_lt ft 1082) (by decide) h2
  have e3 := mkq (kx := 46) (by8_lt ft 1083) (by decide) h3
  unfold mkF
  rw [if_neg (fun qv => qv e0), if_neg (fun qv => qv e1), if_neg (fun qv => qv e2), if_neg (fun qv => qv e3)]
theorem sgG_o {ft : Nat → Int32} (hh : by8 ft 950 < 1 ∨ 128 < by8 ft 950) : sgG ft = 950 := by rw [sgG, if_pos hh]
theorem sgG_i {ft : Nat → Int32} (hh : ¬ (by8 ft 950 < 1 ∨ 128 < by8 ft 950)) : sgG ft = sgF ft (by8 ft 950) 0 := by rw [sgG, if_neg hh]
theorem gr_s {ft : Nat → Int32} {gr qq : Nat} (hh : gr + 1 = max 1 (pmF ft qq)) : max gr (by8 ft (952 + qq)) + 1 = max 1 (pmF ft (qq + 1)) := by
  simp only [pmF]
  omega
theorem pm_pos (ft : Nat → Int32) {kx : Nat} (hk : 1 ≤ kx) : 1 ≤ pmF ft kx := by
  obtain ⟨jj, rfl⟩ : ∃ jj, kx = jj + 1 := ⟨kx - 1, by omega⟩
  simp only [pmF]
  omega
theorem pm_le (ft : Nat → Int32) (kx : Nat) : pmF ft kx ≤ 256 := by
  induction kx with
  | zero => exact Nat.zero_le _
  | succ kx ih =>
    simp only [pmF]
    have := by8_lt ft (952 + kx)
    omega
theorem wI_ne {nn : Nat} (hh : ¬ wI nn = -1) : nn ≠ 0 := fun qv => hh (wI_0 qv).symm
theorem wI_nz {nn : Nat} (hh : nn ≠ 0) : wI nn = nI nn := by rw [wI, if_neg hh]
theorem wI_m1 {nn : Nat} (hb : nn < 2 ^ 31) (hh : wI nn = -1) : nn = 0 := by
  rcases Nat.eq_zero_or_pos nn with qv | qv
  · exact qv
  · rw [wI, if_neg (by omega)] at hh
    exact absurd hh (nI_ne1 hb)
theorem hsF_lt (ft : Nat → Int32) (nn : Nat) : ∀ ss ah, nn + ss ≤ 32 → hsF ft nn ss ah < 1000 := by
  induction nn with
  | zero => intro ss ah _; show (0 : Nat) < 1000; omega
  | succ nn ih =>
    intro ss ah hs
    simp only [hsF]
    have h9 := ih (ss + 1) (ah + tw2 ft (30 * ss + 12)) (by omega)
    (repeat' split) <;> omega
theorem sgF_lt (ft : Nat → Int32) (nn : Nat) : ∀ ii, nn + ii ≤ 128 → sgF ft nn ii < 1100 := by
  induction nn with
  | zero => intro ii _; show (0 : Nat) < 1100; omega
  | succ nn ih =>
    intro ii hs
    simp only [sgF]
    have h9 := ih (ii + 1) (by omega)
    split
    · omega
    · exact h9
theorem sgG_lt (ft : Nat → Int32) : sgG ft < 1100 := by
  unfold sgG
  split
  · decide
  · exact sgF_lt ft _ 0 (by omega)
theorem mkF_lt (ft : Nat → Int32) : mkF ft < 1100 := by
  unfold mkF
  split
  · decide
  · split
    · decide
    · split
      · decide
      · split
        · decide
        · decide
theorem fk_1 {L : Nat} {ft : Nat → Int32} (h1 : L < 1084) : (1 : Int32) = nI (fkF L ft) ∧ nI L = fpF L ft ∧ ¬ fkF L ft = 0 := by
  have e1 : fkF L ft = 1 := by rw [fkF, if_pos h1]
  have e2 : fpF L ft = nI L := by rw [fpF, if_pos h1]
  exact ⟨by rw [e1]; rfl, by rw [e2], by rw [e1]; decide⟩
theorem fk_2 {L : Nat} {ft : Nat → Int32} (h1 : ¬ L < 1084) (h2 : mkF ft ≠ 0) : (2 : Int32) = nI (fkF L ft) ∧ wI (mkF ft) = fpF L ft ∧ ¬ fkF L ft = 0 := by
  have e1 : fkF L ft = 2 := by rw [fkF, if_neg h1, if_pos h2]
  have e2 : fpF L ft = nI (mkF ft) := by rw [fpF, if_neg h1, if_pos h2]
  exact ⟨by rw [e1]; rfl, by rw [e2]; exact wI_nz h2, by rw [e1]; decide⟩
theorem fk_3 {L : Nat} {ft : Nat → Int32} (h1 : ¬ L < 1084) (h2 : mkF ft = 0) (h3 : hdF ft ≠ 0) : (3 : Int32) = nI (fkF L ft) ∧ wI (hdF ft) = fpF L ft ∧ ¬ fkF L ft = 0 := by
  have e1 : fkF L ft = 3 := by rw [fkF, if_neg h1, if_neg (show ¬ mkF ft ≠ 0 from fun qv => qv h2), if_pos h3]
  have e2 : fpF L ft = nI (hdF ft) := by rw [fpF, if_neg h1, if_neg (show ¬ mkF ft ≠ 0 from fun qv => qv h2), if_pos h3]
  exact ⟨by rw [e1]; rfl, by rw [e2]; exact wI_nz h3, by rw [e1]; decide⟩
theorem fk_4 {L : Nat} {ft : Nat → Int32} (h1 : ¬ L < 1084) (h2 : mkF ft = 0) (h3 : hdF ft = 0) (h4 : L < needF ft) : (4 : Int32) = nI (fkF L ft) ∧ nI L = fpF L ft ∧ ¬ fkF L ft = 0 := by
  have e1 : fkF L ft = 4 := by rw [fkF, if_neg h1, if_neg (show ¬ mkF ft ≠ 0 from fun qv => qv h2), if_neg (show ¬ hdF ft ≠ 0 from fun qv => qv h3), if_pos h4]
  have e2 : fpF L ft = nI L := by rw [fpF, if_neg h1, if_neg (show ¬ mkF ft ≠ 0 from fun qv => qv h2), if_neg (show ¬ hdF ft ≠ 0 from fun qv => qv h3), if_pos h4]
  exact ⟨by rw [e1]; rfl, by rw [e2], by rw [e1]; decide⟩
theorem fk_0 {L : Nat} {ft : Nat → Int32} (h1 : ¬ L < 1084) (h2 : mkF ft = 0) (h3 : hdF ft = 0) (h4 : ¬ L < needF ft) : fkF L ft = 0 := by
  unfold fkF
  rw [if_neg h1, if_neg (show ¬ mkF ft ≠ 0 from fun qv => qv h2), if_neg (show ¬ hdF ft ≠ 0 from fun qv => qv h3), if_neg h4]
theorem hd_s {ft : Nat → Int32} (h1 : hsF ft 31 1 0 ≠ 0) : hdF ft = hsF ft 31 1 0 := by rw [hdF, if_neg h1]
theorem hd_g {ft : Nat → Int32} (h1 : hsF ft 31 1 0 = 0) : hdF ft = sgG ft := by rw [hdF, if_pos h1]
theorem hd_0 {ft : Nat → Int32} (hh : hdF ft = 0) : hsF ft 31 1 0 = 0 ∧ sgG ft = 0 := by
  by_cases h1 : hsF ft 31 1 0 = 0
  · exact ⟨h1, (hd_g h1).symm.trans hh⟩
  · exact absurd ((hd_s h1).symm.trans hh) h1
theorem sgG_0 {ft : Nat → Int32} (hh : sgG ft = 0) : 1 ≤ by8 ft 950 ∧ by8 ft 950 ≤ 128 := by
  by_cases h1 : by8 ft 950 < 1 ∨ 128 < by8 ft 950
  · rw [sgG_o h1] at hh; exact absurd hh (by decide)
  · omega
theorem need_lt (ft : Nat → Int32) : needF ft < 2 ^ 30 := by
  have h1 := pm_le ft (by8 ft 950)
  have h2 := l2_sum ft (kx := 32) (Nat.le_refl _)
  unfold needF npF
  omega
theorem hd_p {ft : Nat → Int32} {kx : Nat} (h1 : hsF ft 31 1 0 = kx) (h0 : 0 < kx) : hdF ft = kx := by rw [hd_s (by omega), h1]
theorem in128' {aa : Nat} (ha : aa < 256) (hh : ¬ (aa < 1 ∨ 128 < aa)) : 1 ≤ nI aa ∧ nI aa ≤ 128 := ⟨nI_le (a := 1) (by omega) (by omega), nI_le (b := 128) (by omega) (by decide)⟩
