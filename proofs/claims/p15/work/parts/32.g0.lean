set_option maxHeartbeats 400000 in
set_option maxRecDepth 100000 in
/-- loopFits -/
theorem c_loopFits (l : Launch) (dC : Nat → ClassId) (dI : Nat → Nat → Nat) (sz : Nat) (n a b : Int32) : Met l yX5_loopFits (wsG (.code yX5_loopFits cX5_loopFits 5 (some .boolean))) ({ frames := 1, cells := 0, slots := 0, locals := 20 }) (va_Pc [.int n, .int a, .int b] (gP (dC, dI) [] [] sz)) (va_Qi (fun (r : Int32) (u : va_W × gT) => (u = ([], []) ∧ r = 1 ∧ lfP n a b) ∨ (u = ([], []) ∧ r = 0 ∧ ¬ lfP n a b)) (gB (dC, dI) (va_A [] sz)) (va_A [] sz)) 0 0 (va_A [] sz) := by
  refine Met.ofW (cc := cX5_loopFits) (maxL := 5) (ret := (some .boolean)) (by decide) rfl ?_
  intro p e s m args below meth c s₁ B hml hv
  obtain ⟨rfl, hsz, hP, hK, hD0, hN, hZ⟩ := hv
  have hx := B.exec
  have hb := B.bytes
  have hr := B.returns
  have hts := atoms_spec (ws := (wsG (.code yX5_loopFits cX5_loopFits 5 (some .boolean)))) B.pre
  have hown : s.vm.findClass RX5 = some m.cls := findClass_of_methodNamed B.named
  have hlocks := B.notSynchronized
  subst hsz
  have hD := hD0.self (sz := s.heap.size)
  generalize hAe : va_A [] s.heap.size = A at hD hZ ⊢
  have hA : ∀ q : Nat, s.heap.size ≤ q → A q := fun q h => by rw [← hAe]; exact Or.inr h
  have hl := lv_entry ([.int n, .int a, .int b]) (n := 5) (Nat.le_of_ble_eq_true rfl)
  rw [lg_entry_eq]
  generalize (lg_sl ([.int n, .int a, .int b]) ++ List.replicate (5 - (lg_sl ([.int n, .int a, .int b])).length) Slot.unset).toArray = ls at hl ⊢
  have hl : lv_has ls 5 [(0, .int n), (1, .int a), (2, .int b)] := hl
  refine g_start (A := A) hP (fun H locs hP hS => ?_)
  refine lv_iload_n hx hb dX5_loopFits_0 rfl (lv_at hl 1 rfl) ?_
  refine lv_if_lt (tgt := 20) hx hb dX5_loopFits_1 (by decide) (fun c_1 => ?_) (fun c_1 => ?_)
  · refine lv_iconst (v := 0) hx hb dX5_loopFits_20 (by decide) ?_
    have hP9 := hP
    have hD9 := hD
    have hK9 := hK.sub (tys' := []) [] rfl
    exact W.zret (v := 0) hx hb hr (by decide) (fun t ht hW => ⟨⟨0, ([], []), rfl, (Or.inr ⟨rfl, rfl, (fun q => i_nle.mpr c_1 q.1)⟩), by rw [ht]; exact hP9, va_K.moved hW.alike hK9, hD9⟩, hS.F ht⟩) hS.2.2 dX5_loopFits_21
  refine lv_iload_n hx hb dX5_loopFits_4 rfl (lv_at hl 2 rfl) ?_
  refine lv_if_lt (tgt := 20) hx hb dX5_loopFits_5 (by decide) (fun c_5 => ?_) (fun c_5 => ?_)
  · refine lv_iconst (v := 0) hx hb dX5_loopFits_20 (by decide) ?_
    have hP9 := hP
    have hD9 := hD
    have hK9 := hK.sub (tys' := []) [] rfl
    exact W.zret (v := 0) hx hb hr (by decide) (fun t ht hW => ⟨⟨0, ([], []), rfl, (Or.inr ⟨rfl, rfl, (fun q => i_nle.mpr c_5 q.2.1)⟩), by rw [ht]; exact hP9, va_K.moved hW.alike hK9, hD9⟩, hS.F ht⟩) hS.2.2 dX5_loopFits_21
  refine lv_iload_n hx hb dX5_loopFits_8 rfl (lv_at hl 1 rfl) ?_
  refine lv_iconst (v := 2) hx hb dX5_loopFits_9 (by decide) ?_
  refine lv_irem hx hb dX5_loopFits_10 (by decide) ?_
  refine lv_if_ne (tgt := 20) hx hb dX5_loopFits_11 (by decide) (fun c_11 => ?_) (fun c_11 => ?_)
  · refine lv_iconst (v := 0) hx hb dX5_loopFits_20 (by decide) ?_
    have hP9 := hP
    have hD9 := hD
    have hK9 := hK.sub (tys' := []) [] rfl
    exact W.zret (v := 0) hx hb hr (by decide) (fun t ht hW => ⟨⟨0, ([], []), rfl, (Or.inr ⟨rfl, rfl, (fun q => c_11 q.2.2.1)⟩), by rw [ht]; exact hP9, va_K.moved hW.alike hK9, hD9⟩, hS.F ht⟩) hS.2.2 dX5_loopFits_21
  refine lv_iload_n hx hb dX5_loopFits_14 rfl (lv_at hl 2 rfl) ?_
  refine lv_iconst (v := 2) hx hb dX5_loopFits_15 (by decide) ?_
  refine lv_irem hx hb dX5_loopFits_16 (by decide) ?_
  refine lv_if_eq (tgt := 22) hx hb dX5_loopFits_17 (by decide) (fun c_17 => ?_) (fun c_17 => ?_)
  · refine lv_iload_n hx hb dX5_loopFits_22 rfl (lv_at hl 2 rfl) ?_
    refine g_calli (wr := []) (va_runS (As := [.int b]) (rest := []) ⟨hx, hb, hml, hown, hts⟩ (c_loops l dC dI H.size b ) (va_cwS 1 hts (gG_S kw_320 kw_321 kw_57 kw_322) rfl rfl rfl (by decide +kernel) ⟨Nat.le_of_ble_eq_true rfl, Nat.le_of_ble_eq_true rfl⟩) (g_preS hP hD hK hS hA hN hZ [] (by decide) rfl [] rfl) rfl rfl hl.1 rfl (lv_room (Nat.le_of_ble_eq_true rfl)) dX5_loopFits_23 ⟨Nat.le_of_ble_eq_true rfl, Nat.le_of_ble_eq_true rfl⟩) hP hD hK hS hA [] [] rfl rfl (by decide +kernel) (by decide +kernel) (fun r_23 w ty1 H locs hw_23 hP hD _ hS => ?_)
    rcases hw_23 with ⟨hu, hr_23, h_23⟩ | ⟨hu, hr_23, h_23⟩
    · cases hu
      have hP : va_P (dC, dI) vwCl [] H := hP
      have hD : va_D A [] := hD
      refine g_topi (y := 1) hr_23 ?_
      refine lv_if_eq (tgt := 37) hx hb dX5_loopFits_26 (by decide) (fun c_26 => absurd c_26 (by decide)) (fun c_26 => ?_)
      refine lv_iload_n hx hb dX5_loopFits_29 rfl (lv_at hl 1 rfl) ?_
      refine lv_i2l (v := a.toInt64) hx hb dX5_loopFits_30 rfl ?_
      refine lv_iload_n hx hb dX5_loopFits_31 rfl (lv_at hl 2 rfl) ?_
      refine lv_i2l (v := b.toInt64) hx hb dX5_loopFits_32 rfl ?_
      refine lv_ladd hx hb dX5_loopFits_33 ?_
      refine lv_goto (tgt := 39) hx hb dX5_loopFits_34 (by decide) ?_
      refine lv_lstore_n (lv' := [(3, .long (a.toInt64 + b.toInt64)), (0, .int n), (1, .int a), (2, .int b)]) hx hb dX5_loopFits_39 rfl hl (by decide) rfl (fun ls hl => ?_)
      refine lv_lload_n hx hb dX5_loopFits_40 rfl (lv_at hl 0 rfl) ?_
      refine lv_iload_n hx hb dX5_loopFits_41 rfl (lv_at hl 1 rfl) ?_
      refine lv_i2l (v := n.toInt64) hx hb dX5_loopFits_42 rfl ?_
      refine W.lcmp hx hb dX5_loopFits_43 ?_
      refine lv_if_gt (tgt := 51) hx hb dX5_loopFits_44 (by decide) (fun c_44 => ?_) (fun c_44 => ?_)
      · refine lv_iconst (v := 0) hx hb dX5_loopFits_51 (by decide) ?_
        have hP9 := hP
        have hD9 := hD
        have hK9 := hK.sub (tys' := []) [] rfl
        exact W.zret (v := 0) hx hb hr (by decide) (fun t ht hW => ⟨⟨0, ([], []), rfl, (Or.inr ⟨rfl, rfl, (fun q => lf3 h_23 c_44 q.2.2.2.2)⟩), by rw [ht]; exact hP9, va_K.moved hW.alike hK9, hD9⟩, hS.F ht⟩) hS.2.2 dX5_loopFits_52
      refine lv_iconst (v := 1) hx hb dX5_loopFits_47 (by decide) ?_
      refine lv_goto (tgt := 52) hx hb dX5_loopFits_48 (by decide) ?_
      have hP9 := hP
      have hD9 := hD
      have hK9 := hK.sub (tys' := []) [] rfl
      exact W.zret (v := 1) hx hb hr (by decide) (fun t ht hW => ⟨⟨1, ([], []), rfl, (Or.inl ⟨rfl, rfl, (⟨i_nlt.mp c_1, i_nlt.mp c_5, c_11, c_17, lf1 h_23 c_44⟩)⟩), by rw [ht]; exact hP9, va_K.moved hW.alike hK9, hD9⟩, hS.F ht⟩) hS.2.2 dX5_loopFits_52
    cases hu
    have hP : va_P (dC, dI) vwCl [] H := hP
    have hD : va_D A [] := hD
    refine g_topi (y := 0) hr_23 ?_
    refine lv_if_eq (tgt := 37) hx hb dX5_loopFits_26 (by decide) (fun c_26 => ?_) (fun c_26 => absurd c_26 (by decide))
    refine lv_iload_n hx hb dX5_loopFits_37 rfl (lv_at hl 1 rfl) ?_
    refine lv_i2l (v := a.toInt64) hx hb dX5_loopFits_38 rfl ?_
    refine lv_lstore_n (lv' := [(3, .long a.toInt64), (0, .int n), (1, .int a), (2, .int b)]) hx hb dX5_loopFits_39 rfl hl (by decide) rfl (fun ls hl => ?_)
    refine lv_lload_n hx hb dX5_loopFits_40 rfl (lv_at hl 0 rfl) ?_
    refine lv_iload_n hx hb dX5_loopFits_41 rfl (lv_at hl 1 rfl) ?_
    refine lv_i2l (v := n.toInt64) hx hb dX5_loopFits_42 rfl ?_
    refine W.lcmp hx hb dX5_loopFits_43 ?_
    refine lv_if_gt (tgt := 51) hx hb dX5_loopFits_44 (by decide) (fun c_44 => ?_) (fun c_44 => ?_)
    · refine lv_iconst (v := 0) hx hb dX5_loopFits_51 (by decide) ?_
      have hP9 := hP
      have hD9 := hD
      have hK9 := hK.sub (tys' := []) [] rfl
      exact W.zret (v := 0) hx hb hr (by decide) (fun t ht hW => ⟨⟨0, ([], []), rfl, (Or.inr ⟨rfl, rfl, (fun q => lf4 h_23 c_44 q.2.2.2.2)⟩), by rw [ht]; exact hP9, va_K.moved hW.alike hK9, hD9⟩, hS.F ht⟩) hS.2.2 dX5_loopFits_52
    refine lv_iconst (v := 1) hx hb dX5_loopFits_47 (by decide) ?_
    refine lv_goto (tgt := 52) hx hb dX5_loopFits_48 (by decide) ?_
    have hP9 := hP
    have hD9 := hD
    have hK9 := hK.sub (tys' := []) [] rfl
    exact W.zret (v := 1) hx hb hr (by decide) (fun t ht hW => ⟨⟨1, ([], []), rfl, (Or.inl ⟨rfl, rfl, (⟨i_nlt.mp c_1, i_nlt.mp c_5, c_11, c_17, lf2 h_23 c_44⟩)⟩), by rw [ht]; exact hP9, va_K.moved hW.alike hK9, hD9⟩, hS.F ht⟩) hS.2.2 dX5_loopFits_52
  refine lv_iconst (v := 0) hx hb dX5_loopFits_20 (by decide) ?_
  have hP9 := hP
  have hD9 := hD
  have hK9 := hK.sub (tys' := []) [] rfl
  exact W.zret (v := 0) hx hb hr (by decide) (fun t ht hW => ⟨⟨0, ([], []), rfl, (Or.inr ⟨rfl, rfl, (fun q => c_17 q.2.2.2.1)⟩), by rw [ht]; exact hP9, va_K.moved hW.alike hK9, hD9⟩, hS.F ht⟩) hS.2.2 dX5_loopFits_21

set_option maxHeartbeats 400000 in
set_option maxRecDepth 100000 in
/-- hasCell -/
theorem c_hasCell (l : Launch) (dC : Nat → ClassId) (dI : Nat → Nat → Nat) (sz : Nat) (x y z : Int32) : Met l yX6_hasCell (wsG (.code yX6_hasCell cX6_hasCell 3 (some .boolean))) ({ frames := 1, cells := 0, slots := 0, locals := 21 }) (va_Pc [.int x, .int y, .int z] (gP (dC, dI) [] [] sz)) (va_Qi (fun (r : Int32) (u : va_W × gT) => (u = ([], []) ∧ r = 1 ∧ cellsP x y z) ∨ (u = ([], []) ∧ r = 0 ∧ ¬ cellsP x y z)) (gB (dC, dI) (va_A [] sz)) (va_A [] sz)) 0 0 (va_A [] sz) := by
  refine Met.ofW (cc := cX6_hasCell) (maxL := 3) (ret := (some .boolean)) (by decide) rfl ?_
  intro p e s m args below meth c s₁ B hml hv
  obtain ⟨rfl, hsz, hP, hK, hD0, hN, hZ⟩ := hv
  have hx := B.exec
  have hb := B.bytes
  have hr := B.returns
  have hts := atoms_spec (ws := (wsG (.code yX6_hasCell cX6_hasCell 3 (some .boolean)))) B.pre
  have hown : s.vm.findClass RX6 = some m.cls := findClass_of_methodNamed B.named
  have hlocks := B.notSynchronized
  subst hsz
  have hD := hD0.self (sz := s.heap.size)
  generalize hAe : va_A [] s.heap.size = A at hD hZ ⊢
  have hA : ∀ q : Nat, s.heap.size ≤ q → A q := fun q h => by rw [← hAe]; exact Or.inr h
  have hl := lv_entry ([.int x, .int y, .int z]) (n := 3) (Nat.le_of_ble_eq_true rfl)
  rw [lg_entry_eq]
  generalize (lg_sl ([.int x, .int y, .int z]) ++ List.replicate (3 - (lg_sl ([.int x, .int y, .int z])).length) Slot.unset).toArray = ls at hl ⊢
  have hl : lv_has ls 3 [(0, .int x), (1, .int y), (2, .int z)] := hl
  refine g_start (A := A) hP (fun H locs hP hS => ?_)
  refine lv_iload_n hx hb dX6_hasCell_0 rfl (lv_at hl 0 rfl) ?_
  refine lv_bipush (v := 8) hx hb dX6_hasCell_1 (by decide) ?_
  refine g_calli (wr := []) (va_runSN (As := [.int x, .int 8]) (rest := []) ⟨hx, hb, hml, hown, hts⟩ (c_isIn l dC dI H.size x 8 ) ⟨va_cnB 2 hts (wsG_good kw_248) rfl rfl rfl (hN.1 (.methodLinkNest RX6 22 yX10_isIn RX10) (by decide +kernel)) (hts (.initialized RX10) (List.mem_cons_of_mem _ kw_2)) (by decide +kernel) ⟨Nat.le_of_ble_eq_true rfl, Nat.le_of_ble_eq_true rfl⟩, (hts (.static yX10_isIn) (List.mem_cons_of_mem _ kw_247)), trivial⟩ (g_preS hP hD hK hS hA hN hZ [] (by decide) rfl [] rfl) rfl rfl hl.1 rfl (lv_room (Nat.le_of_ble_eq_true rfl)) dX6_hasCell_3 ⟨Nat.le_of_ble_eq_true rfl, Nat.le_of_ble_eq_true rfl⟩) hP hD hK hS hA [] [] rfl rfl (by decide +kernel) (by decide +kernel) (fun r_3 w ty1 H locs hw_3 hP hD _ hS => ?_)
  rcases hw_3 with ⟨hu, hr_3, h_3⟩ | ⟨hu, hr_3, h_3⟩
  · cases hu
    have hP : va_P (dC, dI) vwCl [] H := hP
    have hD : va_D A [] := hD
    refine g_topi (y := 1) hr_3 ?_
    refine lv_if_eq (tgt := 30) hx hb dX6_hasCell_6 (by decide) (fun c_6 => absurd c_6 (by decide)) (fun c_6 => ?_)
    refine lv_iload_n hx hb dX6_hasCell_9 rfl (lv_at hl 1 rfl) ?_
    refine lv_bipush (v := 64) hx hb dX6_hasCell_10 (by decide) ?_
    refine g_calli (wr := []) (va_runSN (As := [.int y, .int 64]) (rest := []) ⟨hx, hb, hml, hown, hts⟩ (c_isIn l dC dI H.size y 64 ) ⟨va_cnB 2 hts (wsG_good kw_248) rfl rfl rfl (hN.1 (.methodLinkNest RX6 22 yX10_isIn RX10) (by decide +kernel)) (hts (.initialized RX10) (List.mem_cons_of_mem _ kw_2)) (by decide +kernel) ⟨Nat.le_of_ble_eq_true rfl, Nat.le_of_ble_eq_true rfl⟩, (hts (.static yX10_isIn) (List.mem_cons_of_mem _ kw_247)), trivial⟩ (g_preS hP hD hK hS hA hN hZ [] (by decide) rfl [] rfl) rfl rfl hl.1 rfl (lv_room (Nat.le_of_ble_eq_true rfl)) dX6_hasCell_12 ⟨Nat.le_of_ble_eq_true rfl, Nat.le_of_ble_eq_true rfl⟩) hP hD hK hS hA [] [] rfl rfl (by decide +kernel) (by decide +kernel) (fun r_12 w ty1 H locs hw_12 hP hD _ hS => ?_)
    rcases hw_12 with ⟨hu, hr_12, h_12⟩ | ⟨hu, hr_12, h_12⟩
    · cases hu
      have hP : va_P (dC, dI) vwCl [] H := hP
      have hD : va_D A [] := hD
      refine g_topi (y := 1) hr_12 ?_
      refine lv_if_eq (tgt := 30) hx hb dX6_hasCell_15 (by decide) (fun c_15 => absurd c_15 (by decide)) (fun c_15 => ?_)
      refine lv_iload_n hx hb dX6_hasCell_18 rfl (lv_at hl 2 rfl) ?_
      refine lv_iconst (v := 4) hx hb dX6_hasCell_19 (by decide) ?_
      refine g_calli (wr := []) (va_runSN (As := [.int z, .int 4]) (rest := []) ⟨hx, hb, hml, hown, hts⟩ (c_isIn l dC dI H.size z 4 ) ⟨va_cnB 2 hts (wsG_good kw_248) rfl rfl rfl (hN.1 (.methodLinkNest RX6 22 yX10_isIn RX10) (by decide +kernel)) (hts (.initialized RX10) (List.mem_cons_of_mem _ kw_2)) (by decide +kernel) ⟨Nat.le_of_ble_eq_true rfl, Nat.le_of_ble_eq_true rfl⟩, (hts (.static yX10_isIn) (List.mem_cons_of_mem _ kw_247)), trivial⟩ (g_preS hP hD hK hS hA hN hZ [] (by decide) rfl [] rfl) rfl rfl hl.1 rfl (lv_room (Nat.le_of_ble_eq_true rfl)) dX6_hasCell_20 ⟨Nat.le_of_ble_eq_true rfl, Nat.le_of_ble_eq_true rfl⟩) hP hD hK hS hA [] [] rfl rfl (by decide +kernel) (by decide +kernel) (fun r_20 w ty1 H locs hw_20 hP hD _ hS => ?_)
      rcases hw_20 with ⟨hu, hr_20, h_20⟩ | ⟨hu, hr_20, h_20⟩
      · cases hu
        have hP : va_P (dC, dI) vwCl [] H := hP
        have hD : va_D A [] := hD
        refine g_topi (y := 1) hr_20 ?_
        refine lv_if_eq (tgt := 30) hx hb dX6_hasCell_23 (by decide) (fun c_23 => absurd c_23 (by decide)) (fun c_23 => ?_)
        refine lv_iconst (v := 1) hx hb dX6_hasCell_26 (by decide) ?_
        refine lv_goto (tgt := 31) hx hb dX6_hasCell_27 (by decide) ?_
        have hP9 := hP
        have hD9 := hD
        have hK9 := hK.sub (tys' := []) [] rfl
        exact W.zret (v := 1) hx hb hr (by decide) (fun t ht hW => ⟨⟨1, ([], []), rfl, (Or.inl ⟨rfl, rfl, (⟨h_3, h_12, h_20⟩)⟩), by rw [ht]; exact hP9, va_K.moved hW.alike hK9, hD9⟩, hS.F ht⟩) hS.2.2 dX6_hasCell_31
      cases hu
      have hP : va_P (dC, dI) vwCl [] H := hP
      have hD : va_D A [] := hD
      refine g_topi (y := 0) hr_20 ?_
      refine lv_if_eq (tgt := 30) hx hb dX6_hasCell_23 (by decide) (fun c_23 => ?_) (fun c_23 => absurd c_23 (by decide))
      refine lv_iconst (v := 0) hx hb dX6_hasCell_30 (by decide) ?_
      have hP9 := hP
      have hD9 := hD
      have hK9 := hK.sub (tys' := []) [] rfl
      exact W.zret (v := 0) hx hb hr (by decide) (fun t ht hW => ⟨⟨0, ([], []), rfl, (Or.inr ⟨rfl, rfl, (fun q => h_20 q.2.2)⟩), by rw [ht]; exact hP9, va_K.moved hW.alike hK9, hD9⟩, hS.F ht⟩) hS.2.2 dX6_hasCell_31
    cases hu
    have hP : va_P (dC, dI) vwCl [] H := hP
    have hD : va_D A [] := hD
    refine g_topi (y := 0) hr_12 ?_
    refine lv_if_eq (tgt := 30) hx hb dX6_hasCell_15 (by decide) (fun c_15 => ?_) (fun c_15 => absurd c_15 (by decide))
    refine lv_iconst (v := 0) hx hb dX6_hasCell_30 (by decide) ?_
    have hP9 := hP
    have hD9 := hD
    have hK9 := hK.sub (tys' := []) [] rfl
    exact W.zret (v := 0) hx hb hr (by decide) (fun t ht hW => ⟨⟨0, ([], []), rfl, (Or.inr ⟨rfl, rfl, (fun q => h_12 q.2.1)⟩), by rw [ht]; exact hP9, va_K.moved hW.alike hK9, hD9⟩, hS.F ht⟩) hS.2.2 dX6_hasCell_31
  cases hu
  have hP : va_P (dC, dI) vwCl [] H := hP
  have hD : va_D A [] := hD
  refine g_topi (y := 0) hr_3 ?_
  refine lv_if_eq (tgt := 30) hx hb dX6_hasCell_6 (by decide) (fun c_6 => ?_) (fun c_6 => absurd c_6 (by decide))
  refine lv_iconst (v := 0) hx hb dX6_hasCell_30 (by decide) ?_
  have hP9 := hP
  have hD9 := hD
  have hK9 := hK.sub (tys' := []) [] rfl
  exact W.zret (v := 0) hx hb hr (by decide) (fun t ht hW => ⟨⟨0, ([], []), rfl, (Or.inr ⟨rfl, rfl, (fun q => h_3 q.1)⟩), by rw [ht]; exact hP9, va_K.moved hW.alike hK9, hD9⟩, hS.F ht⟩) hS.2.2 dX6_hasCell_31

set_option maxHeartbeats 400000 in
set_option maxRecDepth 100000 in
/-- indexOf -/
theorem c_indexOf (l : Launch) (dC : Nat → ClassId) (dI : Nat → Nat → Nat) (sz : Nat) (a b d : Nat) : Met l yX6_indexOf (wsG (.code yX6_indexOf cX6_indexOf 3 (some .int))) ({ frames := 0, cells := 0, slots := 0, locals := 0 }) (va_Pc [.int (nI a), .int (nI b), .int (nI d)] (gP (dC, dI) [] [] sz)) (va_Qi (fun (r : Int32) (u : va_W × gT) => u = ([], []) ∧ r = nI ((a * 64 + b) * 4 + d)) (gB (dC, dI) (va_A [] sz)) (va_A [] sz)) 0 0 (va_A [] sz) := by
  refine Met.ofW (cc := cX6_indexOf) (maxL := 3) (ret := (some .int)) (by decide) rfl ?_
  intro p e s m args below meth c s₁ B hml hv
  obtain ⟨rfl, hsz, hP, hK, hD0, hN, hZ⟩ := hv
  have hx := B.exec
  have hb := B.bytes
  have hr := B.returns
  have hts := atoms_spec (ws := (wsG (.code yX6_indexOf cX6_indexOf 3 (some .int)))) B.pre
  have hown : s.vm.findClass RX6 = some m.cls := findClass_of_methodNamed B.named
  have hlocks := B.notSynchronized
  subst hsz
  have hD := hD0.self (sz := s.heap.size)
  generalize hAe : va_A [] s.heap.size = A at hD hZ ⊢
  have hA : ∀ q : Nat, s.heap.size ≤ q → A q := fun q h => by rw [← hAe]; exact Or.inr h
  have hl := lv_entry ([.int (nI a), .int (nI b), .int (nI d)]) (n := 3) (Nat.le_of_ble_eq_true rfl)
  rw [lg_entry_eq]
  generalize (lg_sl ([.int (nI a), .int (nI b), .int (nI d)]) ++ List.replicate (3 - (lg_sl ([.int (nI a), .int (nI b), .int (nI d)])).length) Slot.unset).toArray = ls at hl ⊢
  have hl : lv_has ls 3 [(0, .int (nI a)), (1, .int (nI b)), (2, .int (nI d))] := hl
  refine g_start (A := A) hP (fun H locs hP hS => ?_)
  refine lv_iload_n hx hb dX6_indexOf_0 rfl (lv_at hl 0 rfl) ?_
  refine lv_bipush (v := 64) hx hb dX6_indexOf_1 (by decide) ?_
  refine lv_imul hx hb dX6_indexOf_3 ?_
  refine g_topi (y := nI (a * 64)) (pk_mul a 64) ?_
  refine lv_iload_n hx hb dX6_indexOf_4 rfl (lv_at hl 1 rfl) ?_
  refine lv_iadd hx hb dX6_indexOf_5 ?_
  refine g_topi (y := nI (a * 64 + b)) (nI_add _ _) ?_
  refine lv_iconst (v := 4) hx hb dX6_indexOf_6 (by decide) ?_
  refine lv_imul hx hb dX6_indexOf_7 ?_
  refine g_topi (y := nI ((a * 64 + b) * 4)) (pk_mul _ 4) ?_
  refine lv_iload_n hx hb dX6_indexOf_8 rfl (lv_at hl 2 rfl) ?_
  refine lv_iadd hx hb dX6_indexOf_9 ?_
  refine g_topi (y := nI ((a * 64 + b) * 4 + d)) (nI_add _ _) ?_
  have hP9 := hP
  have hD9 := hD
  have hK9 := hK.sub (tys' := []) [] rfl
  exact W.iret (v := nI ((a * 64 + b) * 4 + d)) hx hb hr (fun t ht hW => ⟨⟨nI ((a * 64 + b) * 4 + d), ([], []), rfl, ⟨rfl, rfl⟩, by rw [ht]; exact hP9, va_K.moved hW.alike hK9, hD9⟩, hS.F ht⟩) hS.2.2 dX6_indexOf_10

set_option maxHeartbeats 400000 in
set_option maxRecDepth 100000 in
/-- getCell -/
theorem c_getCell (l : Launch) (dC : Nat → ClassId) (dI : Nat → Nat → Nat) (sz : Nat) (h ce pl : Nat) (x2 x3 : Int32) (cI : ClassId) (f : Nat → Int32) (a b d : Nat) (ha : a < 8) (hb0 : b < 64) (hd : d < 4) : Met l yX6_getCell (wsG (.code yX6_getCell cX6_getCell 4 (some .int))) ({ frames := 2, cells := 0, slots := 0, locals := 43 }) (va_Pc [.ref h, .int (nI a), .int (nI b), .int (nI d)] (gP (dC, dI) [(cI, .int)] [(h, .inr (6, [.ref ce, .ref pl, .int x2, .int x3])), (ce, .inl (cI, 2048, .inl f))] sz)) (va_Qi (fun (r : Int32) (u : va_W × gT) => u = ([(h, .inr (6, [.ref ce, .ref pl, .int x2, .int x3])), (ce, .inl (cI, 2048, .inl f))], []) ∧ r = f ((a * 64 + b) * 4 + d)) (gB (dC, dI) (va_A [(h, .inr (6, [.ref ce, .ref pl, .int x2, .int x3])), (ce, .inl (cI, 2048, .inl f))] sz)) (va_A [(h, .inr (6, [.ref ce, .ref pl, .int x2, .int x3])), (ce, .inl (cI, 2048, .inl f))] sz)) 0 0 (va_A [(h, .inr (6, [.ref ce, .ref pl, .int x2, .int x3])), (ce, .inl (cI, 2048, .inl f))] sz) := by
  refine Met.ofW (cc := cX6_getCell) (maxL := 4) (ret := (some .int)) (by decide) rfl ?_
  intro p e s m args below meth c s₁ B hml hv
  obtain ⟨rfl, hsz, hP, hK, hD0, hN, hZ⟩ := hv
  have hx := B.exec
  have hb := B.bytes
  have hr := B.returns
  have hts := atoms_spec (ws := (wsG (.code yX6_getCell cX6_getCell 4 (some .int)))) B.pre
  have hown : s.vm.findClass RX6 = some m.cls := findClass_of_methodNamed B.named
  have hlocks := B.notSynchronized
  subst hsz
  have hD := hD0.self (sz := s.heap.size)
  generalize hAe : va_A [(h, .inr (6, [.ref ce, .ref pl, .int x2, .int x3])), (ce, .inl (cI, 2048, .inl f))] s.heap.size = A at hD hZ ⊢
  have hA : ∀ q : Nat, s.heap.size ≤ q → A q := fun q h => by rw [← hAe]; exact Or.inr h
  have hl := lv_entry ([.ref h, .int (nI a), .int (nI b), .int (nI d)]) (n := 4) (Nat.le_of_ble_eq_true rfl)
  rw [lg_entry_eq]
  generalize (lg_sl ([.ref h, .int (nI a), .int (nI b), .int (nI d)]) ++ List.replicate (4 - (lg_sl ([.ref h, .int (nI a), .int (nI b), .int (nI d)])).length) Slot.unset).toArray = ls at hl ⊢
  have hl : lv_has ls 4 [(0, .ref h), (1, .int (nI a)), (2, .int (nI b)), (3, .int (nI d))] := hl
  refine g_start (A := A) hP (fun H locs hP hS => ?_)
  refine lv_iload_n hx hb dX6_getCell_0 rfl (lv_at hl 1 rfl) ?_
  refine lv_iload_n hx hb dX6_getCell_1 rfl (lv_at hl 2 rfl) ?_
  refine lv_iload_n hx hb dX6_getCell_2 rfl (lv_at hl 3 rfl) ?_
  refine g_calli (wr := [(h, .inr (6, [.ref ce, .ref pl, .int x2, .int x3])), (ce, .inl (cI, 2048, .inl f))]) (va_runS (As := [.int (nI a), .int (nI b), .int (nI d)]) (rest := []) ⟨hx, hb, hml, hown, hts⟩ (c_hasCell l dC dI H.size (nI a) (nI b) (nI d) ) (va_cwS 3 hts (gG_S kw_364 kw_365 kw_26 kw_366) rfl rfl rfl (by decide +kernel) ⟨Nat.le_of_ble_eq_true rfl, Nat.le_of_ble_eq_true rfl⟩) (g_preS hP hD hK hS hA hN hZ [] (by decide) rfl [] rfl) rfl rfl hl.1 rfl (lv_room (Nat.le_of_ble_eq_true rfl)) dX6_getCell_3 ⟨Nat.le_of_ble_eq_true rfl, Nat.le_of_ble_eq_true rfl⟩) hP hD hK hS hA [] [0, 1] rfl rfl (by decide +kernel) (by decide +kernel) (fun r_3 w ty1 H locs hw_3 hP hD _ hS => ?_)
  rcases hw_3 with ⟨hu, hr_3, hh_3⟩ | ⟨hu, hr_3, hh_3⟩
  · cases hu
    have hP : va_P (dC, dI) vwCl [(h, .inr (6, [.ref ce, .ref pl, .int x2, .int x3])), (ce, .inl (cI, 2048, .inl f))] H := hP
    have hD : va_D A [(h, .inr (6, [.ref ce, .ref pl, .int x2, .int x3])), (ce, .inl (cI, 2048, .inl f))] := hD
    refine g_topi (y := 1) hr_3 ?_
    refine lv_if_eq (tgt := 23) hx hb dX6_getCell_6 (by decide) (fun c_6 => absurd c_6 (by decide)) (fun c_6 => ?_)
    refine lv_aload_n hx hb dX6_getCell_9 rfl (lv_at hl 0 rfl) ?_
    refine va_get (D := (dC, dI)) (ci := 6) (v := .ref ce) (C := RX6) (T := TX6) (N := 4) hx hb hts iwX6 hown hK hP 0 rfl rfl 0 (by decide) (hts (.fieldLink RX6 9 "ModulePlayer$Score" "cells" "[I") (List.mem_cons_of_mem _ kw_65)) (fun _ h9 => h9) rfl dX6_getCell_10 ?_
    refine lv_iload_n hx hb dX6_getCell_13 rfl (lv_at hl 1 rfl) ?_
    refine lv_iload_n hx hb dX6_getCell_14 rfl (lv_at hl 2 rfl) ?_
    refine lv_iload_n hx hb dX6_getCell_15 rfl (lv_at hl 3 rfl) ?_
    refine g_calli (wr := [(h, .inr (6, [.ref ce, .ref pl, .int x2, .int x3])), (ce, .inl (cI, 2048, .inl f))]) (va_runS (As := [.int (nI a), .int (nI b), .int (nI d)]) (rest := [.ref ce]) ⟨hx, hb, hml, hown, hts⟩ (c_indexOf l dC dI H.size a b d ) (va_cwS 3 hts (gG_S kw_367 kw_368 kw_26 kw_369) rfl rfl rfl (by decide +kernel) ⟨Nat.le_of_ble_eq_true rfl, Nat.le_of_ble_eq_true rfl⟩) (g_preS hP hD hK hS hA hN hZ [] (by decide) rfl [] rfl) rfl rfl hl.1 rfl (lv_room (Nat.le_of_ble_eq_true rfl)) dX6_getCell_16 ⟨Nat.le_of_ble_eq_true rfl, Nat.le_of_ble_eq_true rfl⟩) hP hD hK hS hA [] [0, 1] rfl rfl (by decide +kernel) (by decide +kernel) (fun r_16 w ty1 H locs hw_16 hP hD _ hS => ?_)
    rcases hw_16 with ⟨hu, hr_16⟩
    cases hu
    have hP : va_P (dC, dI) vwCl [(h, .inr (6, [.ref ce, .ref pl, .int x2, .int x3])), (ce, .inl (cI, 2048, .inl f))] H := hP
    have hD : va_D A [(h, .inr (6, [.ref ce, .ref pl, .int x2, .int x3])), (ce, .inl (cI, 2048, .inl f))] := hD
    refine g_topi (y := nI ((a * 64 + b) * 4 + d)) hr_16 ?_
    refine g_iald hx hb hK hP 1 0 rfl rfl ((a * 64 + b) * 4 + d) (nI_clamp (Nat.lt_trans (show (a * 64 + b) * 4 + d < 2048 from by omega) (by decide))) (vp_in_nI (by omega) (by decide)) dX6_getCell_19 ?_
    refine lv_goto (tgt := 24) hx hb dX6_getCell_20 (by decide) ?_
    have hP9 := hP
    have hD9 := hD
    have hK9 := hK.sub (tys' := []) [] rfl
    exact W.iret (v := f ((a * 64 + b) * 4 + d)) hx hb hr (fun t ht hW => ⟨⟨f ((a * 64 + b) * 4 + d), ([(h, .inr (6, [.ref ce, .ref pl, .int x2, .int x3])), (ce, .inl (cI, 2048, .inl f))], []), rfl, ⟨rfl, rfl⟩, by rw [ht]; exact hP9, va_K.moved hW.alike hK9, hD9⟩, hS.F ht⟩) hS.2.2 dX6_getCell_24
  exact False.elim (hh_3 ⟨isin0 ha (by decide), isin0 hb0 (by decide), isin0 hd (by decide)⟩)

set_option maxHeartbeats 400000 in
set_option maxRecDepth 100000 in
/-- putCell -/
theorem c_putCell (l : Launch) (dC : Nat → ClassId) (dI : Nat → Nat → Nat) (sz : Nat) (h ce pl : Nat) (x2 x3 : Int32) (cI : ClassId) (f : Nat → Int32) (a b d : Nat) (v : Int32) (ha : a < 8) (hb0 : b < 64) (hd : d < 4) : Met l yX6_putCell (wsG (.code yX6_putCell cX6_putCell 5 none)) ({ frames := 2, cells := 0, slots := 0, locals := 43 }) (va_Pc [.ref h, .int (nI a), .int (nI b), .int (nI d), .int v] (gP (dC, dI) [(cI, .int)] [(h, .inr (6, [.ref ce, .ref pl, .int x2, .int x3])), (ce, .inl (cI, 2048, .inl f))] sz)) (va_Qv (fun u : va_W × gT => u = ([(h, .inr (6, [.ref ce, .ref pl, .int x2, .int x3])), (ce, .inl (cI, 2048, .inl (upd f ((a * 64 + b) * 4 + d) v)))], [])) (gB (dC, dI) (va_A [(h, .inr (6, [.ref ce, .ref pl, .int x2, .int x3])), (ce, .inl (cI, 2048, .inl f))] sz)) (va_A [(h, .inr (6, [.ref ce, .ref pl, .int x2, .int x3])), (ce, .inl (cI, 2048, .inl f))] sz)) 0 0 (va_A [(h, .inr (6, [.ref ce, .ref pl, .int x2, .int x3])), (ce, .inl (cI, 2048, .inl f))] sz) := by
  refine Met.ofW (cc := cX6_putCell) (maxL := 5) (ret := none) (by decide) rfl ?_
  intro p e s m args below meth c s₁ B hml hv
  obtain ⟨rfl, hsz, hP, hK, hD0, hN, hZ⟩ := hv
  have hx := B.exec
  have hb := B.bytes
  have hr := B.returns
  have hts := atoms_spec (ws := (wsG (.code yX6_putCell cX6_putCell 5 none))) B.pre
  have hown : s.vm.findClass RX6 = some m.cls := findClass_of_methodNamed B.named
  have hlocks := B.notSynchronized
  subst hsz
  have hD := hD0.self (sz := s.heap.size)
  generalize hAe : va_A [(h, .inr (6, [.ref ce, .ref pl, .int x2, .int x3])), (ce, .inl (cI, 2048, .inl f))] s.heap.size = A at hD hZ ⊢
  have hA : ∀ q : Nat, s.heap.size ≤ q → A q := fun q h => by rw [← hAe]; exact Or.inr h
  have hl := lv_entry ([.ref h, .int (nI a), .int (nI b), .int (nI d), .int v]) (n := 5) (Nat.le_of_ble_eq_true rfl)
  rw [lg_entry_eq]
  generalize (lg_sl ([.ref h, .int (nI a), .int (nI b), .int (nI d), .int v]) ++ List.replicate (5 - (lg_sl ([.ref h, .int (nI a), .int (nI b), .int (nI d), .int v])).length) Slot.unset).toArray = ls at hl ⊢
  have hl : lv_has ls 5 [(0, .ref h), (1, .int (nI a)), (2, .int (nI b)), (3, .int (nI d)), (4, .int v)] := hl
  refine g_start (A := A) hP (fun H locs hP hS => ?_)
  refine lv_iload_n hx hb dX6_putCell_0 rfl (lv_at hl 1 rfl) ?_
  refine lv_iload_n hx hb dX6_putCell_1 rfl (lv_at hl 2 rfl) ?_
  refine lv_iload_n hx hb dX6_putCell_2 rfl (lv_at hl 3 rfl) ?_
  refine g_calli (wr := [(h, .inr (6, [.ref ce, .ref pl, .int x2, .int x3])), (ce, .inl (cI, 2048, .inl f))]) (va_runS (As := [.int (nI a), .int (nI b), .int (nI d)]) (rest := []) ⟨hx, hb, hml, hown, hts⟩ (c_hasCell l dC dI H.size (nI a) (nI b) (nI d) ) (va_cwS 3 hts (gG_S kw_364 kw_365 kw_26 kw_366) rfl rfl rfl (by decide +kernel) ⟨Nat.le_of_ble_eq_true rfl, Nat.le_of_ble_eq_true rfl⟩) (g_preS hP hD hK hS hA hN hZ [] (by decide) rfl [] rfl) rfl rfl hl.1 rfl (lv_room (Nat.le_of_ble_eq_true rfl)) dX6_putCell_3 ⟨Nat.le_of_ble_eq_true rfl, Nat.le_of_ble_eq_true rfl⟩) hP hD hK hS hA [] [0, 1] rfl rfl (by decide +kernel) (by decide +kernel) (fun r_3 w ty1 H locs hw_3 hP hD _ hS => ?_)
  rcases hw_3 with ⟨hu, hr_3, hh_3⟩ | ⟨hu, hr_3, hh_3⟩
  · cases hu
    have hP : va_P (dC, dI) vwCl [(h, .inr (6, [.ref ce, .ref pl, .int x2, .int x3])), (ce, .inl (cI, 2048, .inl f))] H := hP
    have hD : va_D A [(h, .inr (6, [.ref ce, .ref pl, .int x2, .int x3])), (ce, .inl (cI, 2048, .inl f))] := hD
    refine g_topi (y := 1) hr_3 ?_
    refine lv_if_eq (tgt := 22) hx hb dX6_putCell_6 (by decide) (fun c_6 => absurd c_6 (by decide)) (fun c_6 => ?_)
    refine lv_aload_n hx hb dX6_putCell_9 rfl (lv_at hl 0 rfl) ?_
    refine va_get (D := (dC, dI)) (ci := 6) (v := .ref ce) (C := RX6) (T := TX6) (N := 4) hx hb hts iwX6 hown hK hP 0 rfl rfl 0 (by decide) (hts (.fieldLink RX6 9 "ModulePlayer$Score" "cells" "[I") (List.mem_cons_of_mem _ kw_65)) (fun _ h9 => h9) rfl dX6_putCell_10 ?_
    refine lv_iload_n hx hb dX6_putCell_13 rfl (lv_at hl 1 rfl) ?_
    refine lv_iload_n hx hb dX6_putCell_14 rfl (lv_at hl 2 rfl) ?_
    refine lv_iload_n hx hb dX6_putCell_15 rfl (lv_at hl 3 rfl) ?_
    refine g_calli (wr := [(h, .inr (6, [.ref ce, .ref pl, .int x2, .int x3])), (ce, .inl (cI, 2048, .inl f))]) (va_runS (As := [.int (nI a), .int (nI b), .int (nI d)]) (rest := [.ref ce]) ⟨hx, hb, hml, hown, hts⟩ (c_indexOf l dC dI H.size a b d ) (va_cwS 3 hts (gG_S kw_367 kw_368 kw_26 kw_369) rfl rfl rfl (by decide +kernel) ⟨Nat.le_of_ble_eq_true rfl, Nat.le_of_ble_eq_true rfl⟩) (g_preS hP hD hK hS hA hN hZ [] (by decide) rfl [] rfl) rfl rfl hl.1 rfl (lv_room (Nat.le_of_ble_eq_true rfl)) dX6_putCell_16 ⟨Nat.le_of_ble_eq_true rfl, Nat.le_of_ble_eq_true rfl⟩) hP hD hK hS hA [] [0, 1] rfl rfl (by decide +kernel) (by decide +kernel) (fun r_16 w ty1 H locs hw_16 hP hD _ hS => ?_)
    rcases hw_16 with ⟨hu, hr_16⟩
    cases hu
    have hP : va_P (dC, dI) vwCl [(h, .inr (6, [.ref ce, .ref pl, .int x2, .int x3])), (ce, .inl (cI, 2048, .inl f))] H := hP
    have hD : va_D A [(h, .inr (6, [.ref ce, .ref pl, .int x2, .int x3])), (ce, .inl (cI, 2048, .inl f))] := hD
    refine g_topi (y := nI ((a * 64 + b) * 4 + d)) hr_16 ?_
    refine lv_iload hx hb dX6_putCell_19 (lv_at hl 4 rfl) ?_
    refine g_iast hx hb hK hP hD hS 1 0 rfl rfl ((a * 64 + b) * 4 + d) (nI_clamp (Nat.lt_trans (show (a * 64 + b) * 4 + d < 2048 from by omega) (by decide))) (vp_in_nI (by omega) (by decide)) dX6_putCell_21 (fun H locs hP hD hS => ?_)
    have hP : va_P (dC, dI) vwCl [(h, .inr (6, [.ref ce, .ref pl, .int x2, .int x3])), (ce, .inl (cI, 2048, .inl (upd f ((a * 64 + b) * 4 + d) v)))] H := hP
    have hD : va_D A [(h, .inr (6, [.ref ce, .ref pl, .int x2, .int x3])), (ce, .inl (cI, 2048, .inl (upd f ((a * 64 + b) * 4 + d) v)))] := hD
    have hP9 := hP
    have hD9 := hD
    have hK9 := hK.sub (tys' := []) [] rfl
    exact W.vret hx hb hr (fun t ht hW => ⟨⟨([(h, .inr (6, [.ref ce, .ref pl, .int x2, .int x3])), (ce, .inl (cI, 2048, .inl (upd f ((a * 64 + b) * 4 + d) v)))], []), rfl, rfl, by rw [ht]; exact hP9, va_K.moved hW.alike hK9, hD9⟩, hS.F ht⟩) hS.2.2 dX6_putCell_22
  exact False.elim (hh_3 ⟨isin0 ha (by decide), isin0 hb0 (by decide), isin0 hd (by decide)⟩)

set_option maxHeartbeats 400000 in
set_option maxRecDepth 100000 in
/-- refuse -/
theorem c_refuse (l : Launch) (dC : Nat → ClassId) (dI : Nat → Nat → Nat) (sz : Nat) (h : Nat) (x0 x1 a b : Int32) : Met l yX4_refuse (wsG (.code yX4_refuse cX4_refuse 3 (some .boolean))) ({ frames := 0, cells := 0, slots := 0, locals := 0 }) (va_Pc [.ref h, .int a, .int b] (gP (dC, dI) [] [(h, .inr (4, [.int x0, .int x1]))] sz)) (va_Qi (fun (r : Int32) (u : va_W × gT) => u = ([(h, .inr (4, [.int a, .int b]))], []) ∧ r = 0) (gB (dC, dI) (va_A [(h, .inr (4, [.int x0, .int x1]))] sz)) (va_A [(h, .inr (4, [.int x0, .int x1]))] sz)) 0 0 (va_A [(h, .inr (4, [.int x0, .int x1]))] sz) := by
  refine Met.ofW (cc := cX4_refuse) (maxL := 3) (ret := (some .boolean)) (by decide) rfl ?_
  intro p e s m args below meth c s₁ B hml hv
  obtain ⟨rfl, hsz, hP, hK, hD0, hN, hZ⟩ := hv
  have hx := B.exec
  have hb := B.bytes
  have hr := B.returns
  have hts := atoms_spec (ws := (wsG (.code yX4_refuse cX4_refuse 3 (some .boolean)))) B.pre
  have hown : s.vm.findClass RX4 = some m.cls := findClass_of_methodNamed B.named
  have hlocks := B.notSynchronized
  subst hsz
  have hD := hD0.self (sz := s.heap.size)
  generalize hAe : va_A [(h, .inr (4, [.int x0, .int x1]))] s.heap.size = A at hD hZ ⊢
  have hA : ∀ q : Nat, s.heap.size ≤ q → A q := fun q h => by rw [← hAe]; exact Or.inr h
  have hl := lv_entry ([.ref h, .int a, .int b]) (n := 3) (Nat.le_of_ble_eq_true rfl)
  rw [lg_entry_eq]
  generalize (lg_sl ([.ref h, .int a, .int b]) ++ List.replicate (3 - (lg_sl ([.ref h, .int a, .int b])).length) Slot.unset).toArray = ls at hl ⊢
  have hl : lv_has ls 3 [(0, .ref h), (1, .int a), (2, .int b)] := hl
  refine g_start (A := A) hP (fun H locs hP hS => ?_)
  refine lv_aload_n hx hb dX4_refuse_0 rfl (lv_at hl 0 rfl) ?_
  refine lv_iload_n hx hb dX4_refuse_1 rfl (lv_at hl 1 rfl) ?_
  refine va_put (D := (dC, dI)) (ci := 4) (v := .int a) (ty := tyX4 0) (C := RX4) (T := TX4) (N := 2) hx hb hts iwX4 tyX4 tyX4_ok nmX4 hown hK hP hD hS 0 rfl rfl 0 (by decide) (hts (.fieldLink RX4 11 "ModulePlayer$Reader" "fault" "I") (List.mem_cons_of_mem _ kw_71)) (fun _ h9 => h9) rfl (by decide +kernel) (rfl) (rfl) (Nat.le_of_ble_eq_true rfl) dX4_refuse_2 (fun H locs hP hD hS => ?_)
  have hP : va_P (dC, dI) vwCl [(h, .inr (4, [.int a, .int x1]))] H := hP
  have hD : va_D A [(h, .inr (4, [.int a, .int x1]))] := hD
  refine lv_aload_n hx hb dX4_refuse_5 rfl (lv_at hl 0 rfl) ?_
  refine lv_iload_n hx hb dX4_refuse_6 rfl (lv_at hl 2 rfl) ?_
  refine va_put (D := (dC, dI)) (ci := 4) (v := .int b) (ty := tyX4 1) (C := RX4) (T := TX4) (N := 2) hx hb hts iwX4 tyX4 tyX4_ok nmX4 hown hK hP hD hS 0 rfl rfl 1 (by decide) (hts (.fieldLink RX4 15 "ModulePlayer$Reader" "faultPlace" "I") (List.mem_cons_of_mem _ kw_72)) (fun _ h9 => h9) rfl (by decide +kernel) (rfl) (rfl) (Nat.le_of_ble_eq_true rfl) dX4_refuse_7 (fun H locs hP hD hS => ?_)
  have hP : va_P (dC, dI) vwCl [(h, .inr (4, [.int a, .int b]))] H := hP
  have hD : va_D A [(h, .inr (4, [.int a, .int b]))] := hD
  refine lv_iconst (v := 0) hx hb dX4_refuse_10 (by decide) ?_
  have hP9 := hP
  have hD9 := hD
  have hK9 := hK.sub (tys' := []) [] rfl
  exact W.zret (v := 0) hx hb hr (by decide) (fun t ht hW => ⟨⟨0, ([(h, .inr (4, [.int a, .int b]))], []), rfl, ⟨rfl, rfl⟩, by rw [ht]; exact hP9, va_K.moved hW.alike hK9, hD9⟩, hS.F ht⟩) hS.2.2 dX4_refuse_11

set_option maxHeartbeats 400000 in
set_option maxRecDepth 100000 in
/-- sampleAt -/
theorem c_sampleAt (l : Launch) (dC : Nat → ClassId) (dI : Nat → Nat → Nat) (sz : Nat) (q : Nat) (hq : 1 ≤ q) : Met l yX4_sampleAt (wsG (.code yX4_sampleAt cX4_sampleAt 1 (some .int))) ({ frames := 0, cells := 0, slots := 0, locals := 0 }) (va_Pc [.int (nI q)] (gP (dC, dI) [] [] sz)) (va_Qi (fun (r : Int32) (u : va_W × gT) => u = ([], []) ∧ r = nI (20 + 30 * (q - 1))) (gB (dC, dI) (va_A [] sz)) (va_A [] sz)) 0 0 (va_A [] sz) := by
  refine Met.ofW (cc := cX4_sampleAt) (maxL := 1) (ret := (some .int)) (by decide) rfl ?_
  intro p e s m args below meth c s₁ B hml hv
  obtain ⟨rfl, hsz, hP, hK, hD0, hN, hZ⟩ := hv
  have hx := B.exec
  have hb := B.bytes
  have hr := B.returns
  have hts := atoms_spec (ws := (wsG (.code yX4_sampleAt cX4_sampleAt 1 (some .int)))) B.pre
  have hown : s.vm.findClass RX4 = some m.cls := findClass_of_methodNamed B.named
  have hlocks := B.notSynchronized
  subst hsz
  have hD := hD0.self (sz := s.heap.size)
  generalize hAe : va_A [] s.heap.size = A at hD hZ ⊢
  have hA : ∀ q : Nat, s.heap.size ≤ q → A q := fun q h => by rw [← hAe]; exact Or.inr h
  have hl := lv_entry ([.int (nI q)]) (n := 1) (Nat.le_of_ble_eq_true rfl)
  rw [lg_entry_eq]
  generalize (lg_sl ([.int (nI q)]) ++ List.replicate (1 - (lg_sl ([.int (nI q)])).length) Slot.unset).toArray = ls at hl ⊢
  have hl : lv_has ls 1 [(0, .int (nI q))] := hl
  refine g_start (A := A) hP (fun H locs hP hS => ?_)
  refine lv_bipush (v := 20) hx hb dX4_sampleAt_0 (by decide) ?_
  refine lv_bipush (v := 30) hx hb dX4_sampleAt_2 (by decide) ?_
  refine lv_iload_n hx hb dX4_sampleAt_4 rfl (lv_at hl 0 rfl) ?_
  refine lv_iconst (v := 1) hx hb dX4_sampleAt_5 (by decide) ?_
  refine lv_isub hx hb dX4_sampleAt_6 ?_
  refine g_topi (y := nI (q - 1)) (pk_sub hq) ?_
  refine lv_imul hx hb dX4_sampleAt_7 ?_
  refine g_topi (y := nI (30 * (q - 1))) (pk_mul 30 _) ?_
  refine lv_iadd hx hb dX4_sampleAt_8 ?_
  refine g_topi (y := nI (20 + 30 * (q - 1))) (nI_add 20 _) ?_
  have hP9 := hP
  have hD9 := hD
  have hK9 := hK.sub (tys' := []) [] rfl
  exact W.iret (v := nI (20 + 30 * (q - 1))) hx hb hr (fun t ht hW => ⟨⟨nI (20 + 30 * (q - 1)), ([], []), rfl, ⟨rfl, rfl⟩, by rw [ht]; exact hP9, va_K.moved hW.alike hK9, hD9⟩, hS.F ht⟩) hS.2.2 dX4_sampleAt_9

set_option maxHeartbeats 400000 in
set_option maxRecDepth 100000 in
/-- markByte -/
theorem c_mark (l : Launch) (dC : Nat → ClassId) (dI : Nat → Nat → Nat) (sz : Nat) (a : Nat) (ha : a < 4) : Met l yX4_markByte (wsG (.code yX4_markByte cX4_markByte 1 (some .int))) ({ frames := 1, cells := 0, slots := 0, locals := 21 }) (va_Pc [.int (nI a)] (gP (dC, dI) [] [] sz)) (va_Qi (fun (r : Int32) (u : va_W × gT) => u = ([], []) ∧ r = mkv a) (gB (dC, dI) (va_A [] sz)) (va_A [] sz)) 0 0 (va_A [] sz) := by
  refine Met.ofW (cc := cX4_markByte) (maxL := 1) (ret := (some .int)) (by decide) rfl ?_
  intro p e s m args below meth c s₁ B hml hv
  obtain ⟨rfl, hsz, hP, hK, hD0, hN, hZ⟩ := hv
  have hx := B.exec
  have hb := B.bytes
  have hr := B.returns
  have hts := atoms_spec (ws := (wsG (.code yX4_markByte cX4_markByte 1 (some .int)))) B.pre
  have hown : s.vm.findClass RX4 = some m.cls := findClass_of_methodNamed B.named
  have hlocks := B.notSynchronized
  subst hsz
  have hD := hD0.self (sz := s.heap.size)
  generalize hAe : va_A [] s.heap.size = A at hD hZ ⊢
  have hA : ∀ q : Nat, s.heap.size ≤ q → A q := fun q h => by rw [← hAe]; exact Or.inr h
  have hl := lv_entry ([.int (nI a)]) (n := 1) (Nat.le_of_ble_eq_true rfl)
  rw [lg_entry_eq]
  generalize (lg_sl ([.int (nI a)]) ++ List.replicate (1 - (lg_sl ([.int (nI a)])).length) Slot.unset).toArray = ls at hl ⊢
  have hl : lv_has ls 1 [(0, .int (nI a))] := hl
  refine g_start (A := A) hP (fun H locs hP hS => ?_)
  refine lv_iload_n hx hb dX4_markByte_0 rfl (lv_at hl 0 rfl) ?_
  refine lv_iconst (v := 4) hx hb dX4_markByte_1 (by decide) ?_
  refine g_calli (wr := []) (va_runSN (As := [.int (nI a), .int 4]) (rest := []) ⟨hx, hb, hml, hown, hts⟩ (c_isIn l dC dI H.size (nI a) 4 ) ⟨va_cnB 2 hts (wsG_good kw_248) rfl rfl rfl (hN.1 (.methodLinkNest RX4 18 yX10_isIn RX10) (by decide +kernel)) (hts (.initialized RX10) (List.mem_cons_of_mem _ kw_2)) (by decide +kernel) ⟨Nat.le_of_ble_eq_true rfl, Nat.le_of_ble_eq_true rfl⟩, (hts (.static yX10_isIn) (List.mem_cons_of_mem _ kw_247)), trivial⟩ (g_preS hP hD hK hS hA hN hZ [] (by decide) rfl [] rfl) rfl rfl hl.1 rfl (lv_room (Nat.le_of_ble_eq_true rfl)) dX4_markByte_2 ⟨Nat.le_of_ble_eq_true rfl, Nat.le_of_ble_eq_true rfl⟩) hP hD hK hS hA [] [] rfl rfl (by decide +kernel) (by decide +kernel) (fun r_2 w ty1 H locs hw_2 hP hD _ hS => ?_)
  rcases hw_2 with ⟨hu, hr_2, h_2⟩ | ⟨hu, hr_2, h_2⟩
  · cases hu
    have hP : va_P (dC, dI) vwCl [] H := hP
    have hD : va_D A [] := hD
    refine g_topi (y := 1) hr_2 ?_
    refine lv_if_eq (tgt := 16) hx hb dX4_markByte_5 (by decide) (fun c_5 => absurd c_5 (by decide)) (fun c_5 => ?_)
    obtain ⟨tz1, hZ1, hT1⟩ := hZ.1
    refine va_gets hx hb hZ1 hS hown (hts (.fieldLink RX4 22 "ModulePlayer$Reader" "MARK" "[I") (List.mem_cons_of_mem _ kw_302)) (fun _ h9 => h9) dX4_markByte_8 ?_
    refine lv_iload_n hx hb dX4_markByte_11 rfl (lv_at hl 0 rfl) ?_
    refine va_ti (v := .int (mkv a)) hx hb hT1 hS (vp_in_nI ha (by decide)) (mkv_v ha) dX4_markByte_12 ?_
    refine lv_goto (tgt := 17) hx hb dX4_markByte_13 (by decide) ?_
    have hP9 := hP
    have hD9 := hD
    have hK9 := hK.sub (tys' := []) [] rfl
    exact W.iret (v := mkv a) hx hb hr (fun t ht hW => ⟨⟨mkv a, ([], []), rfl, ⟨rfl, rfl⟩, by rw [ht]; exact hP9, va_K.moved hW.alike hK9, hD9⟩, hS.F ht⟩) hS.2.2 dX4_markByte_17
  exact False.elim (h_2 (isin0 ha (by decide)))

set_option maxHeartbeats 400000 in
set_option maxRecDepth 100000 in
/-- in -/
theorem m_in (l : Launch) (dC : Nat → ClassId) (dI : Nat → Nat → Nat) (sz : Nat) (v lo hi : Int32) : Met l yX11_in (wsG (.code yX11_in cX11_in 3 (some .boolean))) ({ frames := 0, cells := 0, slots := 0, locals := 0 }) (va_Pc [.int v, .int lo, .int hi] (gP (dC, dI) [] [] sz)) (va_Qi (fun (r : Int32) (u : va_W × gT) => (u = ([], []) ∧ r = 1 ∧ lo ≤ v ∧ v ≤ hi) ∨ (u = ([], []) ∧ r = 0 ∧ ¬ (lo ≤ v ∧ v ≤ hi))) (gB (dC, dI) (va_A [] sz)) (va_A [] sz)) 0 0 (va_A [] sz) := by
  refine Met.ofW (cc := cX11_in) (maxL := 3) (ret := (some .boolean)) (by decide) rfl ?_
  intro p e s m args below meth c s₁ B hml hv
  obtain ⟨rfl, hsz, hP, hK, hD0, hN, hZ⟩ := hv
  have hx := B.exec
  have hb := B.bytes
  have hr := B.returns
  have hts := atoms_spec (ws := (wsG (.code yX11_in cX11_in 3 (some .boolean)))) B.pre
  have hown : s.vm.findClass RX11 = some m.cls := findClass_of_methodNamed B.named
  have hlocks := B.notSynchronized
  subst hsz
  have hD := hD0.self (sz := s.heap.size)
  generalize hAe : va_A [] s.heap.size = A at hD hZ ⊢
  have hA : ∀ q : Nat, s.heap.size ≤ q → A q := fun q h => by rw [← hAe]; exact Or.inr h
  have hl := lv_entry ([.int v, .int lo, .int hi]) (n := 3) (Nat.le_of_ble_eq_true rfl)
  rw [lg_entry_eq]
  generalize (lg_sl ([.int v, .int lo, .int hi]) ++ List.replicate (3 - (lg_sl ([.int v, .int lo, .int hi])).length) Slot.unset).toArray = ls at hl ⊢
  have hl : lv_has ls 3 [(0, .int v), (1, .int lo), (2, .int hi)] := hl
  refine g_start (A := A) hP (fun H locs hP hS => ?_)
  refine lv_iload_n hx hb dX11_in_0 rfl (lv_at hl 0 rfl) ?_
  refine lv_iload_n hx hb dX11_in_1 rfl (lv_at hl 1 rfl) ?_
  refine lv_icmp_lt (tgt := 14) hx hb dX11_in_2 (by decide) (fun c_2 => ?_) (fun c_2 => ?_)
  · refine lv_iconst (v := 0) hx hb dX11_in_14 (by decide) ?_
    have hP9 := hP
    have hD9 := hD
    have hK9 := hK.sub (tys' := []) [] rfl
    exact W.zret (v := 0) hx hb hr (by decide) (fun t ht hW => ⟨⟨0, ([], []), rfl, (Or.inr ⟨rfl, rfl, (fun qv => i_nle.mpr c_2 qv.1)⟩), by rw [ht]; exact hP9, va_K.moved hW.alike hK9, hD9⟩, hS.F ht⟩) hS.2.2 dX11_in_15
  refine lv_iload_n hx hb dX11_in_5 rfl (lv_at hl 0 rfl) ?_
  refine lv_iload_n hx hb dX11_in_6 rfl (lv_at hl 2 rfl) ?_
  refine lv_icmp_gt (tgt := 14) hx hb dX11_in_7 (by decide) (fun c_7 => ?_) (fun c_7 => ?_)
  · refine lv_iconst (v := 0) hx hb dX11_in_14 (by decide) ?_
    have hP9 := hP
    have hD9 := hD
    have hK9 := hK.sub (tys' := []) [] rfl
    exact W.zret (v := 0) hx hb hr (by decide) (fun t ht hW => ⟨⟨0, ([], []), rfl, (Or.inr ⟨rfl, rfl, (fun qv => i_nle.mpr c_7 qv.2)⟩), by rw [ht]; exact hP9, va_K.moved hW.alike hK9, hD9⟩, hS.F ht⟩) hS.2.2 dX11_in_15
  refine lv_iconst (v := 1) hx hb dX11_in_10 (by decide) ?_
  refine lv_goto (tgt := 15) hx hb dX11_in_11 (by decide) ?_
  have hP9 := hP
  have hD9 := hD
  have hK9 := hK.sub (tys' := []) [] rfl
  exact W.zret (v := 1) hx hb hr (by decide) (fun t ht hW => ⟨⟨1, ([], []), rfl, (Or.inl ⟨rfl, rfl, (⟨i_nlt.mp c_2, i_nlt.mp c_7⟩)⟩), by rw [ht]; exact hP9, va_K.moved hW.alike hK9, hD9⟩, hS.F ht⟩) hS.2.2 dX11_in_15

set_option maxHeartbeats 400000 in
set_option maxRecDepth 100000 in
/-- isSample -/
theorem m_isSample (l : Launch) (dC : Nat → ClassId) (dI : Nat → Nat → Nat) (sz : Nat) (v : Int32) : Met l yX11_isSample (wsG (.code yX11_isSample cX11_isSample 1 (some .boolean))) ({ frames := 1, cells := 0, slots := 0, locals := 22 }) (va_Pc [.int v] (gP (dC, dI) [] [] sz)) (va_Qi (fun (r : Int32) (u : va_W × gT) => (u = ([], []) ∧ r = 1 ∧ 1 ≤ v ∧ v ≤ 31) ∨ (u = ([], []) ∧ r = 0 ∧ ¬ (1 ≤ v ∧ v ≤ 31))) (gB (dC, dI) (va_A [] sz)) (va_A [] sz)) 0 0 (va_A [] sz) := by
  refine Met.ofW (cc := cX11_isSample) (maxL := 1) (ret := (some .boolean)) (by decide) rfl ?_
  intro p e s m args below meth c s₁ B hml hv
  obtain ⟨rfl, hsz, hP, hK, hD0, hN, hZ⟩ := hv
  have hx := B.exec
  have hb := B.bytes
  have hr := B.returns
  have hts := atoms_spec (ws := (wsG (.code yX11_isSample cX11_isSample 1 (some .boolean)))) B.pre
  have hown : s.vm.findClass RX11 = some m.cls := findClass_of_methodNamed B.named
  have hlocks := B.notSynchronized
  subst hsz
  have hD := hD0.self (sz := s.heap.size)
  generalize hAe : va_A [] s.heap.size = A at hD hZ ⊢
  have hA : ∀ q : Nat, s.heap.size ≤ q → A q := fun q h => by rw [← hAe]; exact Or.inr h
  have hl := lv_entry ([.int v]) (n := 1) (Nat.le_of_ble_eq_true rfl)
  rw [lg_entry_eq]
  generalize (lg_sl ([.int v]) ++ List.replicate (1 - (lg_sl ([.int v])).length) Slot.unset).toArray = ls at hl ⊢
  have hl : lv_has ls 1 [(0, .int v)] := hl
  refine g_start (A := A) hP (fun H locs hP hS => ?_)
  refine lv_iload_n hx hb dX11_isSample_0 rfl (lv_at hl 0 rfl) ?_
  refine lv_iconst (v := 1) hx hb dX11_isSample_1 (by decide) ?_
  refine lv_bipush (v := 31) hx hb dX11_isSample_2 (by decide) ?_
  refine g_calli (wr := []) (va_runS (As := [.int v, .int 1, .int 31]) (rest := []) ⟨hx, hb, hml, hown, hts⟩ (m_in l dC dI H.size v 1 31 ) (va_cwS 3 hts (gG_S kw_266 kw_267 kw_5 kw_268) rfl rfl rfl (by decide +kernel) ⟨Nat.le_of_ble_eq_true rfl, Nat.le_of_ble_eq_true rfl⟩) (g_preS hP hD hK hS hA hN hZ [] (by decide) rfl [] rfl) rfl rfl hl.1 rfl (lv_room (Nat.le_of_ble_eq_true rfl)) dX11_isSample_4 ⟨Nat.le_of_ble_eq_true rfl, Nat.le_of_ble_eq_true rfl⟩) hP hD hK hS hA [] [] rfl rfl (by decide +kernel) (by decide +kernel) (fun r_4 w ty1 H locs hw_4 hP hD _ hS => ?_)
  rcases hw_4 with ⟨hu, hr_4, hh_4⟩ | ⟨hu, hr_4, hh_4⟩
  · cases hu
    have hP : va_P (dC, dI) vwCl [] H := hP
    have hD : va_D A [] := hD
    refine g_topi (y := 1) hr_4 ?_
    have hP9 := hP
    have hD9 := hD
    have hK9 := hK.sub (tys' := []) [] rfl
    exact W.zret (v := 1) hx hb hr (by decide) (fun t ht hW => ⟨⟨1, ([], []), rfl, (Or.inl ⟨rfl, rfl, hh_4⟩), by rw [ht]; exact hP9, va_K.moved hW.alike hK9, hD9⟩, hS.F ht⟩) hS.2.2 dX11_isSample_7
  cases hu
  have hP : va_P (dC, dI) vwCl [] H := hP
  have hD : va_D A [] := hD
  refine g_topi (y := 0) hr_4 ?_
  have hP9 := hP
  have hD9 := hD
  have hK9 := hK.sub (tys' := []) [] rfl
  exact W.zret (v := 0) hx hb hr (by decide) (fun t ht hW => ⟨⟨0, ([], []), rfl, (Or.inr ⟨rfl, rfl, hh_4⟩), by rw [ht]; exact hP9, va_K.moved hW.alike hK9, hD9⟩, hS.F ht⟩) hS.2.2 dX11_isSample_7

set_option maxHeartbeats 400000 in
set_option maxRecDepth 100000 in
/-- refuse -/
theorem m_refuse (l : Launch) (dC : Nat → ClassId) (dI : Nat → Nat → Nat) (sz : Nat) (h : Nat) (qa : Nat → Nat) (x0 x2 x3 x4 x13 x14 x15 x16 x17 x18 x19 x20 x21 x22 x23 x24 x26 x27 x28 : Int32) (a b : Int32) : Met l yX11_refuse (wsG (.code yX11_refuse cX11_refuse 3 (some .int))) ({ frames := 0, cells := 0, slots := 0, locals := 0 }) (va_Pc [.ref h, .int a, .int b] (gP (dC, dI) [] [(h, .inr (10, mdF qa x0 x2 x3 x4 x13 x14 x15 x16 x17 x18 x19 x20 x21 x22 x23 x24 x26 x27 x28))] sz)) (va_Qi (fun (r : Int32) (u : va_W × gT) => u = ([(h, .inr (10, mdF qa x0 x2 a b x13 x14 x15 x16 x17 x18 x19 x20 x21 x22 x23 x24 x26 x27 x28))], []) ∧ r = (-1)) (gB (dC, dI) (va_A [(h, .inr (10, mdF qa x0 x2 x3 x4 x13 x14 x15 x16 x17 x18 x19 x20 x21 x22 x23 x24 x26 x27 x28))] sz)) (va_A [(h, .inr (10, mdF qa x0 x2 x3 x4 x13 x14 x15 x16 x17 x18 x19 x20 x21 x22 x23 x24 x26 x27 x28))] sz)) 0 0 (va_A [(h, .inr (10, mdF qa x0 x2 x3 x4 x13 x14 x15 x16 x17 x18 x19 x20 x21 x22 x23 x24 x26 x27 x28))] sz) := by
  refine Met.ofW (cc := cX11_refuse) (maxL := 3) (ret := (some .int)) (by decide) rfl ?_
  intro p e s m args below meth c s₁ B hml hv
  obtain ⟨rfl, hsz, hP, hK, hD0, hN, hZ⟩ := hv
  have hx := B.exec
  have hb := B.bytes
  have hr := B.returns
  have hts := atoms_spec (ws := (wsG (.code yX11_refuse cX11_refuse 3 (some .int)))) B.pre
  have hown : s.vm.findClass RX11 = some m.cls := findClass_of_methodNamed B.named
  have hlocks := B.notSynchronized
  subst hsz
  have hD := hD0.self (sz := s.heap.size)
  generalize hAe : va_A [(h, .inr (10, mdF qa x0 x2 x3 x4 x13 x14 x15 x16 x17 x18 x19 x20 x21 x22 x23 x24 x26 x27 x28))] s.heap.size = A at hD hZ ⊢
  have hA : ∀ q : Nat, s.heap.size ≤ q → A q := fun q h => by rw [← hAe]; exact Or.inr h
  have hl := lv_entry ([.ref h, .int a, .int b]) (n := 3) (Nat.le_of_ble_eq_true rfl)
  rw [lg_entry_eq]
  generalize (lg_sl ([.ref h, .int a, .int b]) ++ List.replicate (3 - (lg_sl ([.ref h, .int a, .int b])).length) Slot.unset).toArray = ls at hl ⊢
  have hl : lv_has ls 3 [(0, .ref h), (1, .int a), (2, .int b)] := hl
  refine g_start (A := A) hP (fun H locs hP hS => ?_)
  refine lv_aload_n hx hb dX11_refuse_0 rfl (lv_at hl 0 rfl) ?_
  refine lv_iload_n hx hb dX11_refuse_1 rfl (lv_at hl 1 rfl) ?_
  refine va_put (D := (dC, dI)) (ci := 10) (v := .int a) (ty := tyX11 3) (C := RX11) (T := TX11) (N := 53) hx hb hts iwX11 tyX11 tyX11_ok nmX11 hown hK hP hD hS 0 rfl rfl 3 (by decide) (hts (.fieldLink RX11 149 "ModulePlayerModel" "faultKind" "I") (List.mem_cons_of_mem _ kw_430)) (fun _ h9 => h9) rfl (by decide +kernel) (rfl) (rfl) (Nat.le_of_ble_eq_true rfl) dX11_refuse_2 (fun H locs hP hD hS => ?_)
  have hP : va_P (dC, dI) vwCl [(h, .inr (10, mdF qa x0 x2 a x4 x13 x14 x15 x16 x17 x18 x19 x20 x21 x22 x23 x24 x26 x27 x28))] H := hP
  have hD : va_D A [(h, .inr (10, mdF qa x0 x2 a x4 x13 x14 x15 x16 x17 x18 x19 x20 x21 x22 x23 x24 x26 x27 x28))] := hD
  refine lv_aload_n hx hb dX11_refuse_5 rfl (lv_at hl 0 rfl) ?_
  refine lv_iload_n hx hb dX11_refuse_6 rfl (lv_at hl 2 rfl) ?_
  refine va_put (D := (dC, dI)) (ci := 10) (v := .int b) (ty := tyX11 4) (C := RX11) (T := TX11) (N := 53) hx hb hts iwX11 tyX11 tyX11_ok nmX11 hown hK hP hD hS 0 rfl rfl 4 (by decide) (hts (.fieldLink RX11 13 "ModulePlayerModel" "faultPlace" "I") (List.mem_cons_of_mem _ kw_172)) (fun _ h9 => h9) rfl (by decide +kernel) (rfl) (rfl) (Nat.le_of_ble_eq_true rfl) dX11_refuse_7 (fun H locs hP hD hS => ?_)
  have hP : va_P (dC, dI) vwCl [(h, .inr (10, mdF qa x0 x2 a b x13 x14 x15 x16 x17 x18 x19 x20 x21 x22 x23 x24 x26 x27 x28))] H := hP
  have hD : va_D A [(h, .inr (10, mdF qa x0 x2 a b x13 x14 x15 x16 x17 x18 x19 x20 x21 x22 x23 x24 x26 x27 x28))] := hD
  refine lv_iconst (v := (-1)) hx hb dX11_refuse_10 (by decide) ?_
  have hP9 := hP
  have hD9 := hD
  have hK9 := hK.sub (tys' := []) [] rfl
  exact W.iret (v := (-1)) hx hb hr (fun t ht hW => ⟨⟨(-1), ([(h, .inr (10, mdF qa x0 x2 a b x13 x14 x15 x16 x17 x18 x19 x20 x21 x22 x23 x24 x26 x27 x28))], []), rfl, ⟨rfl, rfl⟩, by rw [ht]; exact hP9, va_K.moved hW.alike hK9, hD9⟩, hS.F ht⟩) hS.2.2 dX11_refuse_11

