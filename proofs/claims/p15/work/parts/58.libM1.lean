/-! the model: ranges -/
def rg1 (lo hi : Int) (vv : Int32) : Prop := lo ≤ vv.toInt ∧ vv.toInt ≤ hi
def plc (vv : Int32) : Prop := 1 ≤ vv.toInt ∧ vv.toInt ≤ 128
def rst (vv : Int32) : Prop := 0 ≤ vv.toInt ∧ vv.toInt ≤ 255
def tmo (vv : Int32) : Prop := 32 ≤ vv.toInt ∧ vv.toInt ≤ 255
def frm (vv : Int32) : Prop := -1 ≤ vv.toInt ∧ vv.toInt ≤ 1300
def jmp (vv : Int32) : Prop := -1 ≤ vv.toInt
def stp (vv : Int32) : Prop := -1 ≤ vv.toInt ∧ vv.toInt ≤ 63
/-- where the model is: either nothing was played, or all is in its range -/
def prOk (tt pp rr jj ss ll : Int32) : Prop := tt = 0 ∨ (rg1 0 127 pp ∧ rg1 0 63 rr ∧ jmp jj ∧ stp ss ∧ stp ll)
theorem rg_upd2 {nn kx : Nat} {lo hi : Int} {ff : Nat → Int32} {vv : Int32} (hf : rg nn lo hi ff) (hh : lo ≤ vv.toInt ∧ vv.toInt ≤ hi) : rg nn lo hi (upd ff kx vv) := rg_upd hf hh.1 hh.2
theorem rgL_upd2 {nn kx : Nat} {lo hi : Int} {ff : Nat → Int64} {vv : Int64} (hf : rgL nn lo hi ff) (hh : lo ≤ vv.toInt ∧ vv.toInt ≤ hi) : rgL nn lo hi (vp_updL ff kx vv) := rgL_upd hf hh.1 hh.2
theorem rgL_nat {nn kx mx : Nat} {hi : Int} {ff : Nat → Int64} (hf : rgL nn 0 hi ff) (hk : kx < nn) (hm : hi = mx) : ∃ jj : Nat, jj ≤ mx ∧ ff kx = lN jj := by
  obtain ⟨h1, h2⟩ := hf kx hk
  obtain ⟨jj, hj, e1⟩ := pk_lOf (x := ff kx) (by rw [Int64.lt_iff_toInt_lt]; have : (0 : Int64).toInt = 0 := rfl; omega)
  refine ⟨jj, ?_, e1⟩
  rw [e1, pk_lT hj] at h2
  omega
theorem rg1_nat {mx : Nat} {hi : Int} {vv : Int32} (hf : rg1 0 hi vv) (hm : hi = mx) : ∃ jj : Nat, jj ≤ mx ∧ vv = nI jj := by
  obtain ⟨h1, h2⟩ := hf
  obtain ⟨jj, hj, e1, e2⟩ := i_nI (x := vv) (by rw [i_le]; have : (0 : Int32).toInt = 0 := rfl; omega)
  exact ⟨jj, by omega, e1⟩
theorem tmo_nat {vv : Int32} (hf : tmo vv) : ∃ jj : Nat, 32 ≤ jj ∧ jj ≤ 255 ∧ vv = nI jj := by
  obtain ⟨h1, h2⟩ := hf
  obtain ⟨jj, hj, e1, e2⟩ := i_nI (x := vv) (by rw [i_le]; have : (0 : Int32).toInt = 0 := rfl; omega)
  exact ⟨jj, by omega, by omega, e1⟩
theorem plc_nat {vv : Int32} (hf : plc vv) : ∃ jj : Nat, 1 ≤ jj ∧ jj ≤ 128 ∧ vv = nI jj := by
  obtain ⟨h1, h2⟩ := hf
  obtain ⟨jj, hj, e1, e2⟩ := i_nI (x := vv) (by rw [i_le]; have : (0 : Int32).toInt = 0 := rfl; omega)
  exact ⟨jj, by omega, by omega, e1⟩
theorem ne_m1 {vv : Int32} (hh : ¬ vv = -1) : vv.toInt ≠ -1 := by
  intro qv
  exact hh (Int32.toInt_inj.mp qv)
theorem stp_n {vv : Int32} (hf : stp vv) (hn : ¬ vv = -1) : rg1 0 63 vv := by
  have := ne_m1 hn
  unfold stp at hf
  unfold rg1
  omega
theorem jmp_n {vv pp : Int32} (hf : jmp vv) (hn : ¬ vv = -1) (hp : plc pp) (hl : vv < pp) : rg1 0 127 vv := by
  have := ne_m1 hn
  rw [i_lt] at hl
  unfold jmp at hf
  unfold plc at hp
  unfold rg1
  omega
theorem lt_127 {vv pp : Int32} (h0 : 0 ≤ vv.toInt) (hp : plc pp) (hl : vv < pp) : rg1 0 127 vv := by
  rw [i_lt] at hl
  unfold plc at hp
  unfold rg1
  omega
theorem rg1_s {vv : Int32} (hf : rg1 0 127 vv) : 0 ≤ (vv + 1).toInt := by
  obtain ⟨jj, hj, e1⟩ := rg1_nat (mx := 127) hf rfl
  rw [e1, nI_1, nI_toInt (by omega)]
  omega
theorem rg1_r {vv tv : Int32} (hf : rg1 0 63 vv) (hl : vv < 63) (he : tv = vv + 1) : rg1 0 63 tv := by
  obtain ⟨jj, hj, e1⟩ := rg1_nat (mx := 63) hf rfl
  rw [e1] at hl
  have := nI_lt' (b := 63) hl (by omega) (by decide)
  rw [he, e1, nI_1]
  exact nI_rg (by omega) (by omega) (by omega)
def wthn (lo hi rr : Int32) : Prop := lo ≤ hi → lo.toInt ≤ rr.toInt ∧ rr.toInt ≤ hi.toInt
theorem wthn_p {vv lo hi t3 t6 : Int32} (h3 : t3 = if vv < hi then vv else hi) (h6 : t6 = if lo < t3 then t3 else lo) : wthn lo hi t6 := by
  intro hh
  rw [i_le] at hh
  have k3 : t3.toInt ≤ hi.toInt := by
    rw [h3]
    by_cases hq : vv < hi
    · rw [if_pos hq]; have := i_lt.mp hq; omega
    · rw [if_neg hq]; omega
  by_cases hq : lo < t3
  · rw [h6, if_pos hq]; have := i_lt.mp hq; omega
  · rw [h6, if_neg hq]; omega
theorem wthn_t {rr : Int32} (hh : wthn 113 856 rr) : 113 ≤ rr.toInt ∧ rr.toInt ≤ 856 := hh (by decide)
theorem wthn_p0 {rr : Int32} (hh : wthn 113 856 rr) : 0 ≤ rr.toInt ∧ rr.toInt ≤ 856 := by have := wthn_t hh; omega
theorem mn_rg {tt ss rr : Int32} (he : rr = if ss < tt then ss else tt) (ht : 0 ≤ tt.toInt ∧ tt.toInt ≤ 856) (hs : 0 ≤ ss.toInt) : 0 ≤ rr.toInt ∧ rr.toInt ≤ 856 := by
  by_cases hq : ss < tt
  · rw [he, if_pos hq]; have := i_lt.mp hq; omega
  · rw [he, if_neg hq]; omega
theorem mx_rg {tt ss rr : Int32} (he : rr = if tt < ss then ss else tt) (ht : 0 ≤ tt.toInt ∧ tt.toInt ≤ 856) (hs : ss.toInt ≤ 856) : 0 ≤ rr.toInt ∧ rr.toInt ≤ 856 := by
  by_cases hq : tt < ss
  · rw [he, if_pos hq]; have := i_lt.mp hq; omega
  · rw [he, if_neg hq]; omega
theorem sub_le {aa bb : Nat} (ha : aa < 2 ^ 30) (hb : bb < 2 ^ 30) : (nI aa - nI bb).toInt ≤ aa := by
  rw [Int32.toInt_sub, nI_toInt (by omega), nI_toInt (by omega), Int.bmod_eq_of_le (by first | omega | (push_cast; omega)) (by first | omega | (push_cast; omega))]
  omega
theorem mx54 {ss rr : Int32} (he : rr = if 54 < ss then ss else 54) : 0 ≤ rr.toInt ∧ rr.toInt ≤ 2147483647 := by
  have e0 : (54 : Int32).toInt = 54 := rfl
  have hu : rr.toInt < 2 ^ 31 := Int32.toInt_lt rr
  refine ⟨?_, by omega⟩
  by_cases hq : 54 < ss
  · rw [he, if_pos hq]; have := i_lt.mp hq; omega
  · rw [he, if_neg hq]; omega
theorem at_off {oj : Nat} (hh : oj ≤ 255) : 0 ≤ (16777216 * (nI oj).toInt64).toInt ∧ (16777216 * (nI oj).toInt64).toInt ≤ 1099511627776 := by
  rw [nI_l (by omega), show (16777216 : Int64) * lN oj = lN (16777216 * oj) from lN_mul 16777216 oj, pk_lT (by omega)]
  omega
theorem lN_rg {jj : Nat} {lo hi : Int} (hj : jj < 2 ^ 63) (h1 : lo ≤ jj) (h2 : (jj : Int) ≤ hi) : lo ≤ (lN jj).toInt ∧ (lN jj).toInt ≤ hi := by
  rw [pk_lT hj]
  exact ⟨h1, h2⟩
theorem br_e {nn t1 t2 t3 t4 : Int32} (h1 : t1 = (10 : Int32) * ((nn >>> ((4 : Int32) &&& 31)) &&& 15)) (h2 : t2 = t1 + (nn &&& 15)) (h3 : t3 = (10 : Int32) * ((nn >>> ((4 : Int32) &&& 31)) &&& 15)) (h4 : t4 = t3 + (nn &&& 15)) (hl : t2 ≤ 63) : stp t4 := by
  obtain ⟨aa, ha, ea⟩ := pk_andE (nn >>> ((4 : Int32) &&& 31)) (m := 15) 4 (by decide)
  obtain ⟨bb, hb, eb⟩ := pk_andE nn (m := 15) 4 (by decide)
  have e2 : t2 = nI (10 * aa + bb) := by rw [h2, h1, ea, eb, show (10 : Int32) * nI aa = nI (10 * aa) from pk_mul 10 aa, nI_add]
  have e4 : t4 = t2 := by rw [h4, h3, h2, h1]
  rw [e2] at hl
  have := nI_le' (b := 63) hl (by omega) (by decide)
  rw [e4, e2]
  exact nI_rg (by omega) (by omega) (by omega)
theorem lcmp_lt {aa bb : Nat} (ha : aa < 2 ^ 63) (hb : bb < 2 ^ 63) (hh : lg_cmp (lN aa) (lN bb) < 0) : aa < bb := (pk_lLT ha hb).mp ((lg_cmp_lt _ _).mp hh)
theorem lcmp_nlt {aa bb : Nat} (ha : aa < 2 ^ 63) (hb : bb < 2 ^ 63) (hh : ¬ lg_cmp (lN aa) (lN bb) < 0) : bb ≤ aa := by
  have h1 : ¬ lN aa < lN bb := fun qv => hh ((lg_cmp_lt _ _).mpr qv)
  rw [pk_lLT ha hb] at h1
  omega
theorem updL_self (ff : Nat → Int64) (kx : Nat) (vv : Int64) : vp_updL ff kx vv kx = vv := by simp [vp_updL]
