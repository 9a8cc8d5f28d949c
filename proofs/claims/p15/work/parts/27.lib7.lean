def mdF (qa : Nat → Nat) (x0 x2 x3 x4 x13 x14 x15 x16 x17 x18 x19 x20 x21 x22 x23 x24 x26 x27 x28 : Int32) : List Value := [.int x0, .ref (qa 1), .int x2, .int x3, .int x4, .ref (qa 5), .ref (qa 6), .ref (qa 7), .ref (qa 8), .ref (qa 9), .ref (qa 10), .ref (qa 11), .ref (qa 12), .int x13, .int x14, .int x15, .int x16, .int x17, .int x18, .int x19, .int x20, .int x21, .int x22, .int x23, .int x24, .ref (qa 25), .int x26, .int x27, .int x28, .ref (qa 29), .ref (qa 30), .ref (qa 31), .ref (qa 32), .ref (qa 33), .ref (qa 34), .ref (qa 35), .ref (qa 36), .ref (qa 37), .ref (qa 38), .ref (qa 39), .ref (qa 40), .ref (qa 41), .ref (qa 42), .ref (qa 43), .ref (qa 44), .ref (qa 45), .ref (qa 46), .ref (qa 47), .ref (qa 48), .ref (qa 49), .ref (qa 50), .ref (qa 51), .ref (qa 52)]
def pickA (ll : List Nat) (kk : Nat) : Nat := ll.getD kk 0
theorem upd_z (kk : Nat) : upd (fun _ => 0) kk 0 = fun _ => 0 := by funext jj; simp [upd]
theorem updL_z (kk : Nat) : vp_updL (fun _ => 0) kk 0 = fun _ => 0 := by funext jj; simp [vp_updL]
theorem in3_4 {xx : Int32} : (0 ≤ xx ∧ xx ≤ 3) ↔ (0 ≤ xx ∧ xx < 4) := by
  rw [i_le, i_le, i_lt]
  have e1 : (3 : Int32).toInt = 3 := rfl
  have e2 : (4 : Int32).toInt = 4 := rfl
  omega
theorem in7_8 {xx : Int32} : (0 ≤ xx ∧ xx ≤ 7) ↔ (0 ≤ xx ∧ xx < 8) := by
  rw [i_le, i_le, i_lt]
  have e1 : (7 : Int32).toInt = 7 := rfl
  have e2 : (8 : Int32).toInt = 8 := rfl
  omega
theorem in63 {xx : Int32} : (0 ≤ xx ∧ xx ≤ 63) ↔ (0 ≤ xx ∧ xx < 64) := by
  rw [i_le, i_le, i_lt]
  have e1 : (63 : Int32).toInt = 63 := rfl
  have e2 : (64 : Int32).toInt = 64 := rfl
  omega
theorem in127 {xx : Int32} : (0 ≤ xx ∧ xx ≤ 127) ↔ (0 ≤ xx ∧ xx < 128) := by
  rw [i_le, i_le, i_lt]
  have e1 : (127 : Int32).toInt = 127 := rfl
  have e2 : (128 : Int32).toInt = 128 := rfl
  omega
theorem in8999 {xx : Int32} : (0 ≤ xx ∧ xx ≤ 8999) ↔ (0 ≤ xx ∧ xx < 9000) := by
  rw [i_le, i_le, i_lt]
  have e1 : (8999 : Int32).toInt = 8999 := rfl
  have e2 : (9000 : Int32).toInt = 9000 := rfl
  omega
theorem in_m1 {xx : Int32} (hh : 0 ≤ xx ∧ xx ≤ -1) : False := by
  have h1 := i_le.mp hh.1
  have h2 := i_le.mp hh.2
  have e1 : (0 : Int32).toInt = 0 := rfl
  have e2 : (-1 : Int32).toInt = -1 := rfl
  omega
theorem in_m2 {xx : Int32} (hh : 0 ≤ xx ∧ xx ≤ -2) : False := by
  have h1 := i_le.mp hh.1
  have h2 := i_le.mp hh.2
  have e1 : (0 : Int32).toInt = 0 := rfl
  have e2 : (-2 : Int32).toInt = -2 := rfl
  omega
theorem in_00 {xx : Int32} : (0 ≤ xx ∧ xx ≤ 0) ↔ xx = 0 := by
  rw [i_le, i_le, i_eq]
  omega
theorem le_4000 {xx : Int32} (hh : xx ≤ 2000) : xx ≤ 4000 := by
  rw [i_le] at hh ⊢
  have e1 : (2000 : Int32).toInt = 2000 := rfl
  have e2 : (4000 : Int32).toInt = 4000 := rfl
  omega
theorem lp_z {aa bb : Int32} (h1 : 0 ≤ aa) (h2 : 0 ≤ bb) (h3 : bb - bb / 2 * 2 = 0) (h4 : bb ≤ 2) (h5 : aa + 0 ≤ 0) : aa = 0 ∧ (bb = 0 ∨ bb = 2) := by
  refine ⟨?_, rem2_cases h2 h4 h3⟩
  rw [Int32.add_zero] at h5
  exact in_00.mp ⟨h1, h5⟩
theorem lp_n {aa bb : Int32} (h1 : 0 ≤ aa) (h1' : aa ≤ 2000) (h2' : bb ≤ 2000) (h4 : ¬ bb ≤ 2) : ¬ aa + bb ≤ 0 := by
  intro hh
  obtain ⟨a0, ha, ea, ia⟩ := i_nI h1
  have hb0 : 0 ≤ bb := by
    have := i_lt.mp (i_nle.mp h4)
    rw [i_le]
    have e1 : (0 : Int32).toInt = 0 := rfl
    have e2 : (2 : Int32).toInt = 2 := rfl
    omega
  obtain ⟨b0, hb, eb, ib⟩ := i_nI hb0
  have h4' := i_lt.mp (i_nle.mp h4)
  have e2 : (2 : Int32).toInt = 2 := rfl
  have k1 := i_le.mp h1'
  have k2 := i_le.mp h2'
  have e3 : (2000 : Int32).toInt = 2000 := rfl
  rw [ea, eb, nI_add] at hh
  have := nI_le' (b := 0) hh (by omega) (by decide)
  omega
