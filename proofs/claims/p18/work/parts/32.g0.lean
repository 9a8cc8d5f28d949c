set_option maxHeartbeats 400000 in
set_option maxRecDepth 100000 in
/-- loopFits -/
theorem c_loopFits (l : Launch) (dC : Nat → ClassId) (dI : Nat → Nat → Nat) (sz : Nat) (n a b : Int32) : Met l yX5_loopFits (wsG (.code yX5_loopFits cX5_loopFits 5 (some .boolean))) ({ frames := 1, cells := 0, slots := 0, locals := 20 }) (va_Pc [.int n, .int a, .int b] (gP (dC, dI) [] [] sz)) (va_Qi (fun (r : Int32) (u : va_W × gT) => (u = ([], []) ∧ r = 1 ∧ lfP n a b) ∨ (u = ([], []) ∧ r = 0 ∧ ¬ lfP n a b)) (gB (dC, dI) (va_A [] sz)) (va_A [] sz)) 0 0 (va_A [] sz) := by
  refine Met.ofW (cc := cX5_loopFits) (maxL := 5) (ret := (some .boolean)) (by decide) rfl ?_
  intro p e s m args below meth c s₁ B hml hv
  obtain ⟨rfl, hsz, hP, hK, hD0, hN, hZ⟩ := hv
  have hx := B.exec
  have hb := B.bytes
  have hr := B.returns
  have hts := atoms_spec (ws := (wsG (.code yX5_loopFits cX5_loopFits 5 (some .boolean)))) B.pre
  have hown : s.vm.findClass RX5 = some m.cls := findClass_of_methodNamed B.named
  have hlocks := B.notSynchronized
  subst hsz
  have hD := hD0.self (sz := s.heap.size)
  generalize hAe : va_A [] s.heap.size = A at hD hZ ⊢
  have hA : ∀ q : Nat, s.heap.size ≤ q → A q := fun q h => by rw [← hAe]; exact Or.inr h
  have hl := lv_entry ([.int n, .int a, .int b]) (n := 5) (Nat.le_of_ble_eq_true rfl)
  rw [lg_entry_eq]
  generalize (lg_sl ([.int n, .int a, .int b]) ++ List.replicate (5 - (lg_sl ([.int n, .int a, .int b])).length) Slot.unset).toArray = ls at hl ⊢
  have hl : lv_has ls 5 [(0, .int n), (1, .int a), (2, .int b)] := hl
  refine g_start (A := A) hP (fun H locs hP hS => ?_)
  refine lv_iload_n hx hb dX5_loopFits_0 rfl (lv_at hl 1 rfl) ?_
  refine lv_if_lt (tgt := 20) hx hb dX5_loopFits_1 (by decide) (fun c_1 => ?_) (fun c_1 => ?_)
  · refine lv_iconst (v := 0) hx hb dX5_loopFits_20 (by decide) ?_
    have hP9 := hP.sub (ws' := []) [] rfl
    have hD9 := hD.sub (ws' := []) [] (by decide) rfl
    have hK9 := hK.sub (tys' := []) [] rfl
    exact W.zret (v := 0) hx hb hr (by decide) (fun t ht hW => ⟨⟨0, ([], []), rfl, (Or.inr ⟨rfl, rfl, (fun q => i_nle.mpr c_1 q.1)⟩), by rw [ht]; exact hP9, va_K.moved hW.alike hK9, hD9⟩, hS.F ht⟩) hS.2.2 dX5_loopFits_21
  refine lv_iload_n hx hb dX5_loopFits_4 rfl (lv_at hl 2 rfl) ?_
  refine lv_if_lt (tgt := 20) hx hb dX5_loopFits_5 (by decide) (fun c_5 => ?_) (fun c_5 => ?_)
  · refine lv_iconst (v := 0) hx hb dX5_loopFits_20 (by decide) ?_
    have hP9 := hP.sub (ws' := []) [] rfl
    have hD9 := hD.sub (ws' := []) [] (by decide) rfl
    have hK9 := hK.sub (tys' := []) [] rfl
    exact W.zret (v := 0) hx hb hr (by decide) (fun t ht hW => ⟨⟨0, ([], []), rfl, (Or.inr ⟨rfl, rfl, (fun q => i_nle.mpr c_5 q.2.1)⟩), by rw [ht]; exact hP9, va_K.moved hW.alike hK9, hD9⟩, hS.F ht⟩) hS.2.2 dX5_loopFits_21
  refine lv_iload_n hx hb dX5_loopFits_8 rfl (lv_at hl 1 rfl) ?_
  refine lv_iconst (v := 2) hx hb dX5_loopFits_9 (by decide) ?_
  refine lv_irem hx hb dX5_loopFits_10 (by decide) ?_
  refine lv_if_ne (tgt := 20) hx hb dX5_loopFits_11 (by decide) (fun c_11 => ?_) (fun c_11 => ?_)
  · refine lv_iconst (v := 0) hx hb dX5_loopFits_20 (by decide) ?_
    have hP9 := hP.sub (ws' := []) [] rfl
    have hD9 := hD.sub (ws' := []) [] (by decide) rfl
    have hK9 := hK.sub (tys' := []) [] rfl
    exact W.zret (v := 0) hx hb hr (by decide) (fun t ht hW => ⟨⟨0, ([], []), rfl, (Or.inr ⟨rfl, rfl, (fun q => c_11 q.2.2.1)⟩), by rw [ht]; exact hP9, va_K.moved hW.alike hK9, hD9⟩, hS.F ht⟩) hS.2.2 dX5_loopFits_21
  refine lv_iload_n hx hb dX5_loopFits_14 rfl (lv_at hl 2 rfl) ?_
  refine lv_iconst (v := 2) hx hb dX5_loopFits_15 (by decide) ?_
  refine lv_irem hx hb dX5_loopFits_16 (by decide) ?_
  refine lv_if_eq (tgt := 22) hx hb dX5_loopFits_17 (by decide) (fun c_17 => ?_) (fun c_17 => ?_)
  · refine lv_iload_n hx hb dX5_loopFits_22 rfl (lv_at hl 2 rfl) ?_
    refine g_calli (wr := []) (va_runS (As := [.int b]) (rest := []) ⟨hx, hb, hml, hown, hts⟩ (c_loops l dC dI H.size b ) (va_cwS 1 hts (gG_S kw_320 kw_321 kw_57 kw_322) rfl rfl rfl (by decide +kernel) ⟨Nat.le_of_ble_eq_true rfl, Nat.le_of_ble_eq_true rfl⟩) (g_preS hP hD hK hS hA hN hZ [] (by decide) rfl [] rfl) rfl rfl hl.1 rfl (lv_room (Nat.le_of_ble_eq_true rfl)) dX5_loopFits_23 ⟨Nat.le_of_ble_eq_true rfl, Nat.le_of_ble_eq_true rfl⟩) hP hD hK hS hA [] [] rfl rfl (by decide) (by decide) (fun r_23 w ty1 H locs hw_23 hP hD _ hS => ?_)
    rcases hw_23 with ⟨hu, hr_23, h_23⟩ | ⟨hu, hr_23, h_23⟩
    · cases hu
      have hP : va_P (dC, dI) vwCl [] H := hP
      have hD : va_D A [] := hD
      refine g_topi (y := 1) hr_23 ?_
      refine lv_if_eq (tgt := 37) hx hb dX5_loopFits_26 (by decide) (fun c_26 => absurd c_26 (by decide)) (fun c_26 => ?_)
      refine lv_iload_n hx hb dX5_loopFits_29 rfl (lv_at hl 1 rfl) ?_
      refine lv_i2l (v := a.toInt64) hx hb dX5_loopFits_30 rfl ?_
      refine lv_iload_n hx hb dX5_loopFits_31 rfl (lv_at hl 2 rfl) ?_
      refine lv_i2l (v := b.toInt64) hx hb dX5_loopFits_32 rfl ?_
      refine lv_ladd hx hb dX5_loopFits_33 ?_
      refine lv_goto (tgt := 39) hx hb dX5_loopFits_34 (by decide) ?_
      refine lv_lstore_n (lv' := [(3, .long (a.toInt64 + b.toInt64)), (0, .int n), (1, .int a), (2, .int b)]) hx hb dX5_loopFits_39 rfl hl (by decide) rfl (fun ls hl => ?_)
      refine lv_lload_n hx hb dX5_loopFits_40 rfl (lv_at hl 0 rfl) ?_
      refine lv_iload_n hx hb dX5_loopFits_41 rfl (lv_at hl 1 rfl) ?_
      refine lv_i2l (v := n.toInt64) hx hb dX5_loopFits_42 rfl ?_
      refine W.lcmp hx hb dX5_loopFits_43 ?_
      refine lv_if_gt (tgt := 51) hx hb dX5_loopFits_44 (by decide) (fun c_44 => ?_) (fun c_44 => ?_)
      · refine lv_iconst (v := 0) hx hb dX5_loopFits_51 (by decide) ?_
        have hP9 := hP.sub (ws' := []) [] rfl
        have hD9 := hD.sub (ws' := []) [] (by decide) rfl
        have hK9 := hK.sub (tys' := []) [] rfl
        exact W.zret (v := 0) hx hb hr (by decide) (fun t ht hW => ⟨⟨0, ([], []), rfl, (Or.inr ⟨rfl, rfl, (fun q => lf3 h_23 c_44 q.2.2.2.2)⟩), by rw [ht]; exact hP9, va_K.moved hW.alike hK9, hD9⟩, hS.F ht⟩) hS.2.2 dX5_loopFits_52
      refine lv_iconst (v := 1) hx hb dX5_loopFits_47 (by decide) ?_
      refine lv_goto (tgt := 52) hx hb dX5_loopFits_48 (by decide) ?_
      have hP9 := hP.sub (ws' := []) [] rfl
      have hD9 := hD.sub (ws' := []) [] (by decide) rfl
      have hK9 := hK.sub (tys' := []) [] rfl
      exact W.zret (v := 1) hx hb hr (by decide) (fun t ht hW => ⟨⟨1, ([], []), rfl, (Or.inl ⟨rfl, rfl, (⟨i_nlt.mp c_1, i_nlt.mp c_5, c_11, c_17, lf1 h_23 c_44⟩)⟩), by rw [ht]; exact hP9, va_K.moved hW.alike hK9, hD9⟩, hS.F ht⟩) hS.2.2 dX5_loopFits_52
    cases hu
    have hP : va_P (dC, dI) vwCl [] H := hP
    have hD : va_D A [] := hD
    refine g_topi (y := 0) hr_23 ?_
    refine lv_if_eq (tgt := 37) hx hb dX5_loopFits_26 (by decide) (fun c_26 => ?_) (fun c_26 => absurd c_26 (by decide))
    refine lv_iload_n hx hb dX5_loopFits_37 rfl (lv_at hl 1 rfl) ?_
    refine lv_i2l (v := a.toInt64) hx hb dX5_loopFits_38 rfl ?_
    refine lv_lstore_n (lv' := [(3, .long a.toInt64), (0, .int n), (1, .int a), (2, .int b)]) hx hb dX5_loopFits_39 rfl hl (by decide) rfl (fun ls hl => ?_)
    refine lv_lload_n hx hb dX5_loopFits_40 rfl (lv_at hl 0 rfl) ?_
    refine lv_iload_n hx hb dX5_loopFits_41 rfl (lv_at hl 1 rfl) ?_
    refine lv_i2l (v := n.toInt64) hx hb dX5_loopFits_42 rfl ?_
    refine W.lcmp hx hb dX5_loopFits_43 ?_
    refine lv_if_gt (tgt := 51) hx hb dX5_loopFits_44 (by decide) (fun c_44 => ?_) (fun c_44 => ?_)
    · refine lv_iconst (v := 0) hx hb dX5_loopFits_51 (by decide) ?_
      have hP9 := hP.sub (ws' := []) [] rfl
      have hD9 := hD.sub (ws' := []) [] (by decide) rfl
      have hK9 := hK.sub (tys' := []) [] rfl
      exact W.zret (v := 0) hx hb hr (by decide) (fun t ht hW => ⟨⟨0, ([], []), rfl, (Or.inr ⟨rfl, rfl, (fun q => lf4 h_23 c_44 q.2.2.2.2)⟩), by rw [ht]; exact hP9, va_K.moved hW.alike hK9, hD9⟩, hS.F ht⟩) hS.2.2 dX5_loopFits_52
    refine lv_iconst (v := 1) hx hb dX5_loopFits_47 (by decide) ?_
    refine lv_goto (tgt := 52) hx hb dX5_loopFits_48 (by decide) ?_
    have hP9 := hP.sub (ws' := []) [] rfl
    have hD9 := hD.sub (ws' := []) [] (by decide) rfl
    have hK9 := hK.sub (tys' := []) [] rfl
    exact W.zret (v := 1) hx hb hr (by decide) (fun t ht hW => ⟨⟨1, ([], []), rfl, (Or.inl ⟨rfl, rfl, (⟨i_nlt.mp c_1, i_nlt.mp c_5, c_11, c_17, lf2 h_23 c_44⟩)⟩), by rw [ht]; exact hP9, va_K.moved hW.alike hK9, hD9⟩, hS.F ht⟩) hS.2.2 dX5_loopFits_52
  refine lv_iconst (v := 0) hx hb dX5_loopFits_20 (by decide) ?_
  have hP9 := hP.sub (ws' := []) [] rfl
  have hD9 := hD.sub (ws' := []) [] (by decide) rfl
  have hK9 := hK.sub (tys' := []) [] rfl
  exact W.zret (v := 0) hx hb hr (by decide) (fun t ht hW => ⟨⟨0, ([], []), rfl, (Or.inr ⟨rfl, rfl, (fun q => c_17 q.2.2.2.1)⟩), by rw [ht]; exact hP9, va_K.moved hW.alike hK9, hD9⟩, hS.F ht⟩) hS.2.2 dX5_loopFits_21

set_option maxHeartbeats 400000 in
set_option maxRecDepth 100000 in
/-- hasCell -/
theorem c_hasCell (l : Launch) (dC : Nat → ClassId) (dI : Nat → Nat → Nat) (sz : Nat) (x y z : Int32) : Met l yX6_hasCell (wsG (.code yX6_hasCell cX6_hasCell 3 (some .boolean))) ({ frames := 1, cells := 0, slots := 0, locals := 21 }) (va_Pc [.int x, .int y, .int z] (gP (dC, dI) [] [] sz)) (va_Qi (fun (r : Int32) (u : va_W × gT) => (u = ([], []) ∧ r = 1 ∧ cellsP x y z) ∨ (u = ([], []) ∧ r = 0 ∧ ¬ cellsP x y z)) (gB (dC, dI) (va_A [] sz)) (va_A [] sz)) 0 0 (va_A [] sz) := by
  refine Met.ofW (cc := cX6_hasCell) (maxL := 3) (ret := (some .boolean)) (by decide) rfl ?_
  intro p e s m args below meth c s₁ B hml hv
  obtain ⟨rfl, hsz, hP, hK, hD0, hN, hZ⟩ := hv
  have hx := B.exec
  have hb := B.bytes
  have hr := B.returns
  have hts := atoms_spec (ws := (wsG (.code yX6_hasCell cX6_hasCell 3 (some .boolean)))) B.pre
  have hown : s.vm.findClass RX6 = some m.cls := findClass_of_methodNamed B.named
  have hlocks := B.notSynchronized
  subst hsz
  have hD := hD0.self (sz := s.heap.size)
  generalize hAe : va_A [] s.heap.size = A at hD hZ ⊢
  have hA : ∀ q : Nat, s.heap.size ≤ q → A q := fun q h => by rw [← hAe]; exact Or.inr h
  have hl := lv_entry ([.int x, .int y, .int z]) (n := 3) (Nat.le_of_ble_eq_true rfl)
  rw [lg_entry_eq]
  generalize (lg_sl ([.int x, .int y, .int z]) ++ List.replicate (3 - (lg_sl ([.int x, .int y, .int z])).length) Slot.unset).toArray = ls at hl ⊢
  have hl : lv_has ls 3 [(0, .int x), (1, .int y), (2, .int z)] := hl
  refine g_start (A := A) hP (fun H locs hP hS => ?_)
  refine lv_iload_n hx hb dX6_hasCell_0 rfl (lv_at hl 0 rfl) ?_
  refine lv_bipush (v := 8) hx hb dX6_hasCell_1 (by decide) ?_
  refine g_calli (wr := []) (va_runSN (As := [.int x, .int 8]) (rest := []) ⟨hx, hb, hml, hown, hts⟩ (c_isIn l dC dI H.size x 8 ) ⟨va_cnB 2 hts (wsG_good kw_248) rfl rfl rfl (hN.1 (.methodLinkNest RX6 22 yX10_isIn RX10) (by decide +kernel)) (hts (.initialized RX10) (List.mem_cons_of_mem _ kw_2)) (by decide +kernel) ⟨Nat.le_of_ble_eq_true rfl, Nat.le_of_ble_eq_true rfl⟩, (hts (.static yX10_isIn) (List.mem_cons_of_mem _ kw_247)), trivial⟩ (g_preS hP hD hK hS hA hN hZ [] (by decide) rfl [] rfl) rfl rfl hl.1 rfl (lv_room (Nat.le_of_ble_eq_true rfl)) dX6_hasCell_3 ⟨Nat.le_of_ble_eq_true rfl, Nat.le_of_ble_eq_true rfl⟩) hP hD hK hS hA [] [] rfl rfl (by decide) (by decide) (fun r_3 w ty1 H locs hw_3 hP hD _ hS => ?_)
  rcases hw_3 with ⟨hu, hr_3, h_3⟩ | ⟨hu, hr_3, h_3⟩
  · cases hu
    have hP : va_P (dC, dI) vwCl [] H := hP
    have hD : va_D A [] := hD
    refine g_topi (y := 1) hr_3 ?_
    refine lv_if_eq (tgt := 30) hx hb dX6_hasCell_6 (by decide) (fun c_6 => absurd c_6 (by decide)) (fun c_6 => ?_)
    refine lv_iload_n hx hb dX6_hasCell_9 rfl (lv_at hl 1 rfl) ?_
    refine lv_bipush (v := 64) hx hb dX6_hasCell_10 (by decide) ?_
    refine g_calli (wr := []) (va_runSN (As := [.int y, .int 64]) (rest := []) ⟨hx, hb, hml, hown, hts⟩ (c_isIn l dC dI H.size y 64 ) ⟨va_cnB 2 hts (wsG_good kw_248) rfl rfl rfl (hN.1 (.methodLinkNest RX6 22 yX10_isIn RX10) (by decide +kernel)) (hts (.initialized RX10) (List.mem_cons_of_mem _ kw_2)) (by decide +kernel) ⟨Nat.le_of_ble_eq_true rfl, Nat.le_of_ble_eq_true rfl⟩, (hts (.static yX10_isIn) (List.mem_cons_of_mem _ kw_247)), trivial⟩ (g_preS hP hD hK hS hA hN hZ [] (by decide) rfl [] rfl) rfl rfl hl.1 rfl (lv_room (Nat.le_of_ble_eq_true rfl)) dX6_hasCell_12 ⟨Nat.le_of_ble_eq_true rfl, Nat.le_of_ble_eq_true rfl⟩) hP hD hK hS hA [] [] rfl rfl (by decide) (by decide) (fun r_12 w ty1 H locs hw_12 hP hD _ hS => ?_)
    rcases hw_12 with ⟨hu, hr_12, h_12⟩ | ⟨hu, hr_12, h_12⟩
    · cases hu
      have hP : va_P (dC, dI) vwCl [] H := hP
      have hD : va_D A [] := hD
      refine g_topi (y := 1) hr_12 ?_
      refine lv_if_eq (tgt := 30) hx hb dX6_hasCell_15 (by decide) (fun c_15 => absurd c_15 (by decide)) (fun c_15 => ?_)
      refine lv_iload_n hx hb dX6_hasCell_18 rfl (lv_at hl 2 rfl) ?_
      refine lv_iconst (v := 4) hx hb dX6_hasCell_19 (by decide) ?_
      refine g_calli (wr := []) (va_runSN (As := [.int z, .int 4]) (rest := []) ⟨hx, hb, hml, hown, hts⟩ (c_isIn l dC dI H.size z 4 ) ⟨va_cnB 2 hts (wsG_good kw_248) rfl rfl rfl (hN.1 (.methodLinkNest RX6 22 yX10_isIn RX10) (by decide +kernel)) (hts (.initialized RX10) (List.mem_cons_of_mem _ kw_2)) (by decide +kernel) ⟨Nat.le_of_ble_eq_true rfl, Nat.le_of_ble_eq_true rfl⟩, (hts (.static yX10_isIn) (List.mem_cons_of_mem _ kw_247)), trivial⟩ (g_preS hP hD hK hS hA hN hZ [] (by decide) rfl [] rfl) rfl rfl hl.1 rfl (lv_room (Nat.le_of_ble_eq_true rfl)) dX6_hasCell_20 ⟨Nat.le_of_ble_eq_true rfl, Nat.le_of_ble_eq_true rfl⟩) hP hD hK hS hA [] [] rfl rfl (by decide) (by decide) (fun r_20 w ty1 H locs hw_20 hP hD _ hS => ?_)
      rcases hw_20 with ⟨hu, hr_20, h_20⟩ | ⟨hu, hr_20, h_20⟩
      · cases hu
        have hP : va_P (dC, dI) vwCl [] H := hP
        have hD : va_D A [] := hD
        refine g_topi (y := 1) hr_20 ?_
        refine lv_if_eq (tgt := 30) hx hb dX6_hasCell_23 (by decide) (fun c_23 => absurd c_23 (by decide)) (fun c_23 => ?_)
        refine lv_iconst (v := 1) hx hb dX6_hasCell_26 (by decide) ?_
        refine lv_goto (tgt := 31) hx hb dX6_hasCell_27 (by decide) ?_
        have hP9 := hP.sub (ws' := []) [] rfl
        have hD9 := hD.sub (ws' := []) [] (by decide) rfl
        have hK9 := hK.sub (tys' := []) [] rfl
        exact W.zret (v := 1) hx hb hr (by decide) (fun t ht hW => ⟨⟨1, ([], []), rfl, (Or.inl ⟨rfl, rfl, (⟨h_3, h_12, h_20⟩)⟩), by rw [ht]; exact hP9, va_K.moved hW.alike hK9, hD9⟩, hS.F ht⟩) hS.2.2 dX6_hasCell_31
      cases hu
      have hP : va_P (dC, dI) vwCl [] H := hP
      have hD : va_D A [] := hD
      refine g_topi (y := 0) hr_20 ?_
      refine lv_if_eq (tgt := 30) hx hb dX6_hasCell_23 (by decide) (fun c_23 => ?_) (fun c_23 => absurd c_23 (by decide))
      refine lv_iconst (v := 0) hx hb dX6_hasCell_30 (by decide) ?_
      have hP9 := hP.sub (ws' := []) [] rfl
      have hD9 := hD.sub (ws' := []) [] (by decide) rfl
      have hK9 := hK.sub (tys' := []) [] rfl
      exact W.zret (v := 0) hx hb hr (by decide) (fun t ht hW => ⟨⟨0, ([], []), rfl, (Or.inr ⟨rfl, rfl, (fun q => h_20 q.2.2)⟩), by rw [ht]; exact hP9, va_K.moved hW.alike hK9, hD9⟩, hS.F ht⟩) hS.2.2 dX6_hasCell_31
    cases hu
    have hP : va_P (dC, dI) vwCl [] H := hP
    have hD : va_D A [] := hD
    refine g_topi (y := 0) hr_12 ?_
    refine lv_if_eq (tgt := 30) hx hb dX6_hasCell_15 (by decide) (fun c_15 => ?_) (fun c_15 => absurd c_15 (by decide))
    refine lv_iconst (v := 0) hx hb dX6_hasCell_30 (by decide) ?_
    have hP9 := hP.sub (ws' := []) [] rfl
    have hD9 := hD.sub (ws' := []) [] (by decide) rfl
    have hK9 := hK.sub (tys' := []) [] rfl
    exact W.zret (v := 0) hx hb hr (by decide) (fun t ht hW => ⟨⟨0, ([], []), rfl, (Or.inr ⟨rfl, rfl, (fun q => h_12 q.2.1)⟩), by rw [ht]; exact hP9, va_K.moved hW.alike hK9, hD9⟩, hS.F ht⟩) hS.2.2 dX6_hasCell_31
  cases hu
  have hP : va_P (dC, dI) vwCl [] H := hP
  have hD : va_D A [] := hD
  refine g_topi (y := 0) hr_3 ?_
  refine lv_if_eq (tgt := 30) hx hb dX6_hasCell_6 (by decide) (fun c_6 => ?_) (fun c_6 => absurd c_6 (by decide))
  refine lv_iconst (v := 0) hx hb dX6_hasCell_30 (by decide) ?_
  have hP9 := hP.sub (ws' := []) [] rfl
  have hD9 := hD.sub (ws' := []) [] (by decide) rfl
  have hK9 := hK.sub (tys' := []) [] rfl
  exact W.zret (v := 0) hx hb hr (by decide) (fun t ht hW => ⟨⟨0, ([], []), rfl, (Or.inr ⟨rfl, rfl, (fun q => h_3 q.1)⟩), by rw [ht]; exact hP9, va_K.moved hW.alike hK9, hD9⟩, hS.F ht⟩) hS.2.2 dX6_hasCell_31

set_option maxHeartbeats 400000 in
set_option maxRecDepth 100000 in
/-- indexOf -/
theorem c_indexOf (l : Launch) (dC : Nat → ClassId) (dI : Nat → Nat → Nat) (sz : Nat) (a b d : Nat) : Met l yX6_indexOf (wsG (.code yX6_indexOf cX6_indexOf 3 (some .int))) ({ frames := 0, cells := 0, slots := 0, locals := 0 }) (va_Pc [.int (nI a), .int (nI b), .int (nI d)] (gP (dC, dI) [] [] sz)) (va_Qi (fun (r : Int32) (u : va_W × gT) => u = ([], []) ∧ r = nI ((a * 64 + b) * 4 + d)) (gB (dC, dI) (va_A [] sz)) (va_A [] sz)) 0 0 (va_A [] sz) := by
  refine Met.ofW (cc := cX6_indexOf) (maxL := 3) (ret := (some .int)) (by decide) rfl ?_
  intro p e s m args below meth c s₁ B hml hv
  obtain ⟨rfl, hsz, hP, hK, hD0, hN, hZ⟩ := hv
  have hx := B.exec
  have hb := B.bytes
  have hr := B.returns
  have hts := atoms_spec (ws := (wsG (.code yX6_indexOf cX6_indexOf 3 (some .int)))) B.pre
  have hown : s.vm.findClass RX6 = some m.cls := findClass_of_methodNamed B.named
  have hlocks := B.notSynchronized
  subst hsz
  have hD := hD0.self (sz := s.heap.size)
  generalize hAe : va_A [] s.heap.size = A at hD hZ ⊢
  have hA : ∀ q : Nat, s.heap.size ≤ q → A q := fun q h => by rw [← hAe]; exact Or.inr h
  have hl := lv_entry ([.int (nI a), .int (nI b), .int (nI d)]) (n := 3) (Nat.le_of_ble_eq_true rfl)
  rw [lg_entry_eq]
  generalize (lg_sl ([.int (nI a), .int (nI b), .int (nI d)]) ++ List.replicate (3 - (lg_sl ([.int (nI a), .int (nI b), .int (nI d)])).length) Slot.unset).toArray = ls at hl ⊢
  have hl : lv_has ls 3 [(0, .int (nI a)), (1, .int (nI b)), (2, .int (nI d))] := hl
  refine g_start (A := A) hP (fun H locs hP hS => ?_)
  refine lv_iload_n hx hb dX6_indexOf_0 rfl (lv_at hl 0 rfl) ?_
  refine lv_bipush (v := 64) hx hb dX6_indexOf_1 (by decide) ?_
  refine lv_imul hx hb dX6_indexOf_3 ?_
  refine g_topi (y := nI (a * 64)) (pk_mul a 64) ?_
  refine lv_iload_n hx hb dX6_indexOf_4 rfl (lv_at hl 1 rfl) ?_
  refine lv_iadd hx hb dX6_indexOf_5 ?_
  refine g_topi (y := nI (a * 64 + b)) (nI_add _ _) ?_
  refine lv_iconst (v := 4) hx hb dX6_indexOf_6 (by decide) ?_
  refine lv_imul hx hb dX6_indexOf_7 ?_
  refine g_topi (y := nI ((a * 64 + b) * 4)) (pk_mul _ 4) ?_
  refine lv_iload_n hx hb dX6_indexOf_8 rfl (lv_at hl 2 rfl) ?_
  refine lv_iadd hx hb dX6_indexOf_9 ?_
  refine g_topi (y := nI ((a * 64 + b) * 4 + d)) (nI_add _ _) ?_
  have hP9 := hP.sub (ws' := []) [] rfl
  have hD9 := hD.sub (ws' := []) [] (by decide) rfl
  have hK9 := hK.sub (tys' := []) [] rfl
  exact W.iret (v := nI ((a * 64 + b) * 4 + d)) hx hb hr (fun t ht hW => ⟨⟨nI ((a * 64 + b) * 4 + d), ([], []), rfl, ⟨rfl, rfl⟩, by rw [ht]; exact hP9, va_K.moved hW.alike hK9, hD9⟩, hS.F ht⟩) hS.2.2 dX6_indexOf_10

set_option maxHeartbeats 400000 in
set_option maxRecDepth 100000 in
/-- getCell -/
theorem c_getCell (l : Launch) (dC : Nat → ClassId) (dI : Nat → Nat → Nat) (sz : Nat) (h ce pl : Nat) (x2 x3 : Int32) (cI : ClassId) (f : Nat → Int32) (a b d : Nat) (ha : a < 8) (hb0 : b < 64) (hd : d < 4) : Met l yX6_getCell (wsG (.code yX6_getCell cX6_getCell 4 (some .int))) ({ frames := 2, cells := 0, slots := 0, locals := 43 }) (va_Pc [.ref h, .int (nI a), .int (nI b), .int (nI d)] (gP (dC, dI) [(cI, .int)] [(h, .inr (6, [.ref ce, .ref pl, .int x2, .int x3])), (ce, .inl (cI, 2048, .inl f))] sz)) (va_Qi (fun (r : Int32) (u : va_W × gT) => u = ([(h, .inr (6, [.ref ce, .ref pl, .int x2, .int x3])), (ce, .inl (cI, 2048, .inl f))], []) ∧ r = f ((a * 64 + b) * 4 + d)) (gB (dC, dI) (va_A [(h, .inr (6, [.ref ce, .ref pl, .int x2, .int x3])), (ce, .inl (cI, 2048, .inl f))] sz)) (va_A [(h, .inr (6, [.ref ce, .ref pl, .int x2, .int x3])), (ce, .inl (cI, 2048, .inl f))] sz)) 0 0 (va_A [(h, .inr (6, [.ref ce, .ref pl, .int x2, .int x3])), (ce, .inl (cI, 2048, .inl f))] sz) := by
  refine Met.ofW (cc := cX6_getCell) (maxL := 4) (ret := (some .int)) (by decide) rfl ?_
  intro p e s m args below meth c s₁ B hml hv
  obtain ⟨rfl, hsz, hP, hK, hD0, hN, hZ⟩ := hv
  have hx := B.exec
  have hb := B.bytes
  have hr := B.returns
  have hts := atoms_spec (ws := (wsG (.code yX6_getCell cX6_getCell 4 (some .int)))) B.pre
  have hown : s.vm.findClass RX6 = some m.cls := findClass_of_methodNamed B.named
  have hlocks := B.notSynchronized
  subst hsz
  have hD := hD0.self (sz := s.heap.size)
  generalize hAe : va_A [(h, .inr (6, [.ref ce, .ref pl, .int x2, .int x3])), (ce, .inl (cI, 2048, .inl f))] s.heap.size = A at hD hZ ⊢
  have hA : ∀ q : Nat, s.heap.size ≤ q → A q := fun q h => by rw [← hAe]; exact Or.inr h
  have hl := lv_entry ([.ref h, .int (nI a), .int (nI b), .int (nI d)]) (n := 4) (Nat.le_of_ble_eq_true rfl)
  rw [lg_entry_eq]
  generalize (lg_sl ([.ref h, .int (nI a), .int (nI b), .int (nI d)]) ++ List.replicate (4 - (lg_sl ([.ref h, .int (nI a), .int (nI b), .int (nI d)])).length) Slot.unset).toArray = ls at hl ⊢
  have hl : lv_has ls 4 [(0, .ref h), (1, .int (nI a)), (2, .int (nI b)), (3, .int (nI d))] := hl
  refine g_start (A := A) hP (fun H locs hP hS => ?_)
  refine lv_iload_n hx hb dX6_getCell_0 rfl (lv_at hl 1 rfl) ?_
  refine lv_iload_n hx hb dX6_getCell_1 rfl (lv_at hl 2 rfl) ?_
  refine lv_iload_n hx hb dX6_getCell_2 rfl (lv_at hl 3 rfl) ?_
  refine g_calli (wr := [(h, .inr (6, [.ref ce, .ref pl, .int x2, .int x3])), (ce, .inl (cI, 2048, .inl f))]) (va_runS (As := [.int (nI a), .int (nI b), .int (nI d)]) (rest := []) ⟨hx, hb, hml, hown, hts⟩ (c_hasCell l dC dI H.size (nI a) (nI b) (nI d) ) (va_cwS 3 hts (gG_S kw_364 kw_365 kw_26 kw_366) rfl rfl rfl (by decide +kernel) ⟨Nat.le_of_ble_eq_true rfl, Nat.le_of_ble_eq_true rfl⟩) (g_preS hP hD hK hS hA hN hZ [] (by decide) rfl [] rfl) rfl rfl hl.1 rfl (lv_room (Nat.le_of_ble_eq_true rfl)) dX6_getCell_3 ⟨Nat.le_of_ble_eq_true rfl, Nat.le_of_ble_eq_true rfl⟩) hP hD hK hS hA [] [0, 1] rfl rfl (by decide) (by decide) (fun r_3 w ty1 H locs hw_3 hP hD _ hS => ?_)
  rcases hw_3 with ⟨hu, hr_3, hh_3⟩ | ⟨hu, hr_3, hh_3⟩
  · cases hu
    have hP : va_P (dC, dI) vwCl [(h, .inr (6, [.ref ce, .ref pl, .int x2, .int x3])), (ce, .inl (cI, 2048, .inl f))] H := hP
    have hD : va_D A [(h, .inr (6, [.ref ce, .ref pl, .int x2, .int x3])), (ce, .inl (cI, 2048, .inl f))] := hD
    refine g_topi (y := 1) hr_3 ?_
    refine lv_if_eq (tgt := 23) hx hb dX6_getCell_6 (by decide) (fun c_6 => absurd c_6 (by decide)) (fun c_6 => ?_)
    refine lv_aload_n hx hb dX6_getCell_9 rfl (lv_at hl 0 rfl) ?_
    refine va_get (D := (dC, dI)) (ci := 6) (v := .ref ce) (C := RX6) (T := TX6) (N := 4) hx hb hts iwX6 hown hK hP 0 rfl rfl 0 (by decide) (hts (.fieldLink RX6 9 "ModulePlayer$Score" "cells" "[I") (List.mem_cons_of_mem _ kw_65)) (fun _ h9 => h9) rfl dX6_getCell_10 ?_
    refine lv_iload_n hx hb dX6_getCell_13 rfl (lv_at hl 1 rfl) ?_
    refine lv_iload_n hx hb dX6_getCell_14 rfl (lv_at hl 2 rfl) ?_
    refine lv_iload_n hx hb dX6_getCell_15 rfl (lv_at hl 3 rfl) ?_
    refine g_calli (wr := [(h, .inr (6, [.ref ce, .ref pl, .int x2, .int x3])), (ce, .inl (cI, 2048, .inl f))]) (va_runS (As := [.int (nI a), .int (nI b), .int (nI d)]) (rest := [.ref ce]) ⟨hx, hb, hml, hown, hts⟩ (c_indexOf l dC dI H.size a b d ) (va_cwS 3 hts (gG_S kw_367 kw_368 kw_26 kw_369) rfl rfl rfl (by decide +kernel) ⟨Nat.le_of_ble_eq_true rfl, Nat.le_of_ble_eq_true rfl⟩) (g_preS hP hD hK hS hA hN hZ [] (by decide) rfl [] rfl) rfl rfl hl.1 rfl (lv_room (Nat.le_of_ble_eq_true rfl)) dX6_getCell_16 ⟨Nat.le_of_ble_eq_true rfl, Nat.le_of_ble_eq_true rfl⟩) hP hD hK hS hA [] [0, 1] rfl rfl (by decide) (by decide) (fun r_16 w ty1 H locs hw_16 hP hD _ hS => ?_)
    rcases hw_16 with ⟨hu, hr_16⟩
    cases hu
    have hP : va_P (dC, dI) vwCl [(h, .inr (6, [.ref ce, .ref pl, .int x2, .int x3])), (ce, .inl (cI, 2048, .inl f))] H := hP
    have hD : va_D A [(h, .inr (6, [.ref ce, .ref pl, .int x2, .int x3])), (ce, .inl (cI, 2048, .inl f))] := hD
    refine g_topi (y := nI ((a * 64 + b) * 4 + d)) hr_16 ?_
    refine g_iald hx hb hK hP 1 0 rfl rfl ((a * 64 + b) * 4 + d) (nI_clamp (Nat.lt_trans (show (a * 64 + b) * 4 + d < 2048 from by omega) (by decide))) (vp_in_nI (by omega) (by decide)) dX6_getCell_19 ?_
    refine lv_goto (tgt := 24) hx hb dX6_getCell_20 (by decide) ?_
    have hP9 := hP.sub (ws' := [(h, .inr (6, [.ref ce, .ref pl, .int x2, .int x3])), (ce, .inl (cI, 2048, .inl f))]) [0, 1] rfl
    have hD9 := hD.sub (ws' := [(h, .inr (6, [.ref ce, .ref pl, .int x2, .int x3])), (ce, .inl (cI, 2048, .inl f))]) [0, 1] (by decide) rfl
    have hK9 := hK.sub (tys' := []) [] rfl
    exact W.iret (v := f ((a * 64 + b) * 4 + d)) hx hb hr (fun t ht hW => ⟨⟨f ((a * 64 + b) * 4 + d), ([(h, .inr (6, [.ref ce, .ref pl, .int x2, .int x3])), (ce, .inl (cI, 2048, .inl f))], []), rfl, ⟨rfl, rfl⟩, by rw [ht]; exact hP9, va_K.moved hW.alike hK9, hD9⟩, hS.F ht⟩) hS.2.2 dX6_getCell_24
  exact False.elim (hh_3 ⟨isin0 ha (by decide), isin0 hb0 (by decide), isin0 hd (by decide)⟩)

set_option maxHeartbeats 400000 in
set_option maxRecDepth 100000 in
/-- putCell -/
theorem c_putCell (l : Launch) (dC : Nat → ClassId) (dI : Nat → Nat → Nat) (sz : Nat) (h ce pl : Nat) (x2 x3 : Int32) (cI : ClassId) (f : Nat → Int32) (a b d : Nat) (v : Int32) (ha : a < 8) (hb0 : b < 64) (hd : d < 4) : Met l yX6_putCell (wsG (.code yX6_putCell cX6_putCell 5 none)) ({ frames := 2, cells := 0, slots := 0, locals := 43 }) (va_Pc [.ref h, .int (nI a), .int (nI b), .int (nI d), .int v] (gP (dC, dI) [(cI, .int)] [(h, .inr (6, [.ref ce, .ref pl, .int x2, .int x3])), (ce, .inl (cI, 2048, .inl f))] sz)) (va_Qv (fun u : va_W × gT => u = ([(h, .inr (6, [.ref ce, .ref pl, .int x2, .int x3])), (ce, .inl (cI, 2048, .inl (upd f ((a * 64 + b) * 4 + d) v)))], [])) (gB (dC, dI) (va_A [(h, .inr (6, [.ref ce, .ref pl, .int x2, .int x3])), (ce, .inl (cI, 2048, .inl f))] sz)) (va_A [(h, .inr (6, [.ref ce, .ref pl, .int x2, .int x3])), (ce, .inl (cI, 2048, .inl f))] sz)) 0 0 (va_A [(h, .inr (6, [.ref ce, .ref pl, .int x2, .int x3])), (ce, .inl (cI, 2048, .inl f))] sz) := by
  refine Met.ofW (cc := cX6_putCell) (maxL := 5) (ret := none) (by decide) rfl ?_
  intro p e s m args below meth c s₁ B hml hv
  obtain ⟨rfl, hsz, hP, hK, hD0, hN, hZ⟩ := hv
  have hx := B.exec
  have hb := B.bytes
  have hr := B.returns
  have hts := atoms_spec (ws := (wsG (.code yX6_putCell cX6_putCell 5 none))) B.pre
  have hown : s.vm.findClass RX6 = some m.cls := findClass_of_methodNamed B.named
  have hlocks := B.notSynchronized
  subst hsz
  have hD := hD0.self (sz := s.heap.size)
  generalize hAe : va_A [(h, .inr (6, [.ref ce, .ref pl, .int x2, .int x3])), (ce, .inl (cI, 2048, .inl f))] s.heap.size = A at hD hZ ⊢
  have hA : ∀ q : Nat, s.heap.size ≤ q → A q := fun q h => by rw [← hAe]; exact Or.inr h
  have hl := lv_entry ([.ref h, .int (nI a), .int (nI b), .int (nI d), .int v]) (n := 5) (Nat.le_of_ble_eq_true rfl)
  rw [lg_entry_eq]
  generalize (lg_sl ([.ref h, .int (nI a), .int (nI b), .int (nI d), .int v]) ++ List.replicate (5 - (lg_sl ([.ref h, .int (nI a), .int (nI b), .int (nI d), .int v])).length) Slot.unset).toArray = ls at hl ⊢
  have hl : lv_has ls 5 [(0, .ref h), (1, .int (nI a)), (2, .int (nI b)), (3, .int (nI d)), (4, .int v)] := hl
  refine g_start (A := A) hP (fun H locs hP hS => ?_)
  refine lv_iload_n hx hb dX6_putCell_0 rfl (lv_at hl 1 rfl) ?_
  refine lv_iload_n hx hb dX6_putCell_1 rfl (lv_at hl 2 rfl) ?_
  refine lv_iload_n hx hb dX6_putCell_2 rfl (lv_at hl 3 rfl) ?_
  refine g_calli (wr := [(h, .inr (6, [.ref ce, .ref pl, .int x2, .int x3])), (ce, .inl (cI, 2048, .inl f))]) (va_runS (As := [.int (nI a), .int (nI b), .int (nI d)]) (rest := []) ⟨hx, hb, hml, hown, hts⟩ (c_hasCell l dC dI H.size (nI a) (nI b) (nI d) ) (va_cwS 3 hts (gG_S kw_364 kw_365 kw_26 kw_366) rfl rfl rfl (by decide +kernel) ⟨Nat.le_of_ble_eq_true rfl, Nat.le_of_ble_eq_true rfl⟩) (g_preS hP hD hK hS hA hN hZ [] (by decide) rfl [] rfl) rfl rfl hl.1 rfl (lv_room (Nat.le_of_ble_eq_true rfl)) dX6_putCell_3 ⟨Nat.le_of_ble_eq_true rfl, Nat.le_of_ble_eq_true rfl⟩) hP hD hK hS hA [] [0, 1] rfl rfl (by decide) (by decide) (fun r_3 w ty1 H locs hw_3 hP hD _ hS => ?_)
  rcases hw_3 with ⟨hu, hr_3, hh_3⟩ | ⟨hu, hr_3, hh_3⟩
  · cases hu
    have hP : va_P (dC, dI) vwCl [(h, .inr (6, [.ref ce, .ref pl, .int x2, .int x3])), (ce, .inl (cI, 2048, .inl f))] H := hP
    have hD : va_D A [(h, .inr (6, [.ref ce, .ref pl, .int x2, .int x3])), (ce, .inl (cI, 2048, .inl f))] := hD
    refine g_topi (y := 1) hr_3 ?_
    refine lv_if_eq (tgt := 22) hx hb dX6_putCell_6 (by decide) (fun c_6 => absurd c_6 (by decide)) (fun c_6 => ?_)
    refine lv_aload_n hx hb dX6_putCell_9 rfl (lv_at hl 0 rfl) ?_
    refine va_get (D := (dC, dI)) (ci := 6) (v := .ref ce) (C := RX6) (T := TX6) (N := 4) hx hb hts iwX6 hown hK hP 0 rfl rfl 0 (by decide) (hts (.fieldLink RX6 9 "ModulePlayer$Score" "cells" "[I") (List.mem_cons_of_mem _ kw_65)) (fun _ h9 => h9) rfl dX6_putCell_10 ?_
    refine lv_iload_n hx hb dX6_putCell_13 rfl (lv_at hl 1 rfl) ?_
    refine lv_iload_n hx hb dX6_putCell_14 rfl (lv_at hl 2 rfl) ?_
    refine lv_iload_n hx hb dX6_putCell_15 rfl (lv_at hl 3 rfl) ?_
    refine g_calli (wr := [(h, .inr (6, [.ref ce, .ref pl, .int x2, .int x3])), (ce, .inl (cI, 2048, .inl f))]) (va_runS (As := [.int (nI a), .int (nI b), .int (nI d)]) (rest := [.ref ce]) ⟨hx, hb, hml, hown, hts⟩ (c_indexOf l dC dI H.size a b d ) (va_cwS 3 hts (gG_S kw_367 kw_368 kw_26 kw_369) rfl rfl rfl (by decide +kernel) ⟨Nat.le_of_ble_eq_true rfl, Nat.le_of_ble_eq_true rfl⟩) (g_preS hP hD hK hS hA hN hZ [] (by decide) rfl [] rfl) rfl rfl hl.1 rfl (lv_room (Nat.le_of_ble_eq_true rfl)) dX6_putCell_16 ⟨Nat.le_of_ble_eq_true rfl, Nat.le_of_ble_eq_true rfl⟩) hP hD hK hS hA [] [0, 1] rfl rfl (by decide) (by decide) (fun r_16 w ty1 H locs hw_16 hP hD _ hS => ?_)
    rcases hw_16 with ⟨hu, hr_16⟩
    cases hu
    have hP : va_P (dC, dI) vwCl [(h, .inr (6, [.ref ce, .ref pl, .int x2, .int x3])), (ce, .inl (cI, 2048, .inl f))] H := hP
    have hD : va_D A [(h, .inr (6, [.ref ce, .ref pl, .int x2, .int x3])), (ce, .inl (cI, 2048, .inl f))] := hD
    refine g_topi (y := nI ((a * 64 + b) * 4 + d)) hr_16 ?_
    refine lv_iload hx hb dX6_putCell_19 (lv_at hl 4 rfl) ?_
    refine g_iast hx hb hK hP hD hS 1 0 rfl rfl ((a * 64 + b) * 4 + d) (nI_clamp (Nat.lt_trans (show (a * 64 + b) * 4 + d < 2048 from by omega) (by decide))) (vp_in_nI (by omega) (by decide)) dX6_putCell_21 (fun H locs hP hD hS => ?_)
    have hP : va_P (dC, dI) vwCl [(h, .inr (6, [.ref ce, .ref pl, .int x2, .int x3])), (ce, .inl (cI, 2048, .inl (upd f ((a * 64 + b) * 4 + d) v)))] H := hP
    have hD : va_D A [(h, .inr (6, [.ref ce, .ref pl, .int x2, .int x3])), (ce, .inl (cI, 2048, .inl (upd f ((a * 64 + b) * 4 + d) v)))] := hD
    have hP9 := hP.sub (ws' := [(h, .inr (6, [.ref ce, .ref pl, .int x2, .int x3])), (ce, .inl (cI, 2048, .inl (upd f ((a * 64 + b) * 4 + d) v)))]) [0, 1] rfl
    have hD9 := hD.sub (ws' := [(h, .inr (6, [.ref ce, .ref pl, .int x2, .int x3])), (ce, .inl (cI, 2048, .inl (upd f ((a * 64 + b) * 4 + d) v)))]) [0, 1] (by decide) rfl
    have hK9 := hK.sub (tys' := []) [] rfl
    exact W.vret hx hb hr (fun t ht hW => ⟨⟨([(h, .inr (6, [.ref ce, .ref pl, .int x2, .int x3])), (ce, .inl (cI, 2048, .inl (upd f ((a * 64 + b) * 4 + d) v)))], []), rfl, rfl, by rw [ht]; exact hP9, va_K.moved hW.alike hK9, hD9⟩, hS.F ht⟩) hS.2.2 dX6_putCell_22
  exact False.elim (hh_3 ⟨isin0 ha (by decide), isin0 hb0 (by decide), isin0 hd (by decide)⟩)

set_option maxHeartbeats 400000 in
set_option maxRecDepth 100000 in
/-- refuse -/
theorem c_refuse (l : Launch) (dC : Nat → ClassId) (dI : Nat → Nat → Nat) (sz : Nat) (h : Nat) (x0 x1 a b : Int32) : Met l yX4_refuse (wsG (.code yX4_refuse cX4_refuse 3 (some .boolean))) ({ frames := 0, cells := 0, slots := 0, locals := 0 }) (va_Pc [.ref h, .int a, .int b] (gP (dC, dI) [] [(h, .inr (4, [.int x0, .int x1]))] sz)) (va_Qi (fun (r : Int32) (u : va_W × gT) => u = ([(h, .inr (4, [.int a, .int b]))], []) ∧ r = 0) (gB (dC, dI) (va_A [(h, .inr (4, [.int x0, .int x1]))] sz)) (va_A [(h, .inr (4, [.int x0, .int x1]))] sz)) 0 0 (va_A [(h, .inr (4, [.int x0, .int x1]))] sz) := by
  refine Met.ofW (cc := cX4_refuse) (maxL := 3) (ret := (some .boolean)) (by decide) rfl ?_
  intro p e s m args below meth c s₁ B hml hv
  obtain ⟨rfl, hsz, hP, hK, hD0, hN, hZ⟩ := hv
  have hx := B.exec
  have hb := B.bytes
  have hr := B.returns
  have hts := atoms_spec (ws := (wsG (.code yX4_refuse cX4_refuse 3 (some .boolean)))) B.pre
  have hown : s.vm.findClass RX4 = some m.cls := findClass_of_methodNamed B.named
  have hlocks := B.notSynchronized
  subst hsz
  have hD := hD0.self (sz := s.heap.size)
  generalize hAe : va_A [(h, .inr (4, [.int x0, .int x1]))] s.heap.size = A at hD hZ ⊢
  have hA : ∀ q : Nat, s.heap.size ≤ q → A q := fun q h => by rw [← hAe]; exact Or.inr h
  have hl := lv_entry ([.ref h, .int a, .int b]) (n := 3) (Nat.le_of_ble_eq_true rfl)
  rw [lg_entry_eq]
  generalize (lg_sl ([.ref h, .int a, .int b]) ++ List.replicate (3 - (lg_sl ([.ref h, .int a, .int b])).length) Slot.unset).toArray = ls at hl ⊢
  have hl : lv_has ls 3 [(0, .ref h), (1, .int a), (2, .int b)] := hl
  refine g_start (A := A) hP (fun H locs hP hS => ?_)
  refine lv_aload_n hx hb dX4_refuse_0 rfl (lv_at hl 0 rfl) ?_
  refine lv_iload_n hx hb dX4_refuse_1 rfl (lv_at hl 1 rfl) ?_
  refine va_put (D := (dC, dI)) (ci := 4) (v := .int a) (ty := tyX4 0) (C := RX4) (T := TX4) (N := 2) hx hb hts iwX4 tyX4 tyX4_ok nmX4 hown hK hP hD hS 0 rfl rfl 0 (by decide) (hts (.fieldLink RX4 11 "ModulePlayer$Reader" "fault" "I") (List.mem_cons_of_mem _ kw_71)) (fun _ h9 => h9) rfl (by decide +kernel) (rfl) (rfl) (Nat.le_of_ble_eq_true rfl) dX4_refuse_2 (fun H locs hP hD hS => ?_)
  have hP : va_P (dC, dI) vwCl [(h, .inr (4, [.int a, .int x1]))] H := hP
  have hD : va_D A [(h, .inr (4, [.int a, .int x1]))] := hD
  refine lv_aload_n hx hb dX4_refuse_5 rfl (lv_at hl 0 rfl) ?_
  refine lv_iload_n hx hb dX4_refuse_6 rfl (lv_at hl 2 rfl) ?_
  refine va_put (D := (dC, dI)) (ci := 4) (v := .int b) (ty := tyX4 1) (C := RX4) (T := TX4) (N := 2) hx hb hts iwX4 tyX4 tyX4_ok nmX4 hown hK hP hD hS 0 rfl rfl 1 (by decide) (hts (.fieldLink RX4 15 "ModulePlayer$Reader" "faultPlace" "I") (List.mem_cons_of_mem _ kw_72)) (fun _ h9 => h9) rfl (by decide +kernel) (rfl) (rfl) (Nat.le_of_ble_eq_true rfl) dX4_refuse_7 (fun H locs hP hD hS => ?_)
  have hP : va_P (dC, dI) vwCl [(h, .inr (4, [.int a, .int b]))] H := hP
  have hD : va_D A [(h, .inr (4, [.int a, .int b]))] := hD
  refine lv_iconst (v := 0) hx hb dX4_refuse_10 (by decide) ?_
  have hP9 := hP.sub (ws' := [(h, .inr (4, [.int a, .int b]))]) [0] rfl
  have hD9 := hD.sub (ws' := [(h, .inr (4, [.int a, .int b]))]) [0] (by decide) rfl
  have hK9 := hK.sub (tys' := []) [] rfl
  exact W.zret (v := 0) hx hb hr (by decide) (fun t ht hW => ⟨⟨0, ([(h, .inr (4, [.int a, .int b]))], []), rfl, ⟨rfl, rfl⟩, by rw [ht]; exact hP9, va_K.moved hW.alike hK9, hD9⟩, hS.F ht⟩) hS.2.2 dX4_refuse_11

set_option maxHeartbeats 400000 in
set_option maxRecDepth 100000 in
/-- Tape.put, whatever the bytes -/
theorem c_putx (l : Launch) (dC : Nat → ClassId) (dI : Nat → Nat → Nat) (sz : Nat) (h b : Nat) (cB : ClassId) (f : Nat → Int32) (L : Nat) (j : Nat) (v : Int32) (L2 : Nat) (hL : L ≤ 9000) (hj : j < 9000) (hL2 : max L (j + 1) = L2) : Met l yX7_put (wsG (.code yX7_put cX7_put 4 none)) ({ frames := 1, cells := 0, slots := 0, locals := 21 }) (va_Pc [.ref h, .int (nI j), .int v] (gP (dC, dI) [(cB, .byte)] [(h, .inr (7, [.ref b, .int (nI L)])), (b, .inl (cB, 9000, .inl f))] sz)) (va_Qv (fun u : va_W × gT => ∃ (f2 : Nat → Int32), u = ([(h, .inr (7, [.ref b, .int (nI L2)])), (b, .inl (cB, 9000, .inl f2))], [])) (gB (dC, dI) (va_A [(h, .inr (7, [.ref b, .int (nI L)])), (b, .inl (cB, 9000, .inl f))] sz)) (va_A [(h, .inr (7, [.ref b, .int (nI L)])), (b, .inl (cB, 9000, .inl f))] sz)) 0 0 (va_A [(h, .inr (7, [.ref b, .int (nI L)])), (b, .inl (cB, 9000, .inl f))] sz) := by
  refine Met.ofW (cc := cX7_put) (maxL := 4) (ret := none) (by decide) rfl ?_
  intro p e s m args below meth c s₁ B hml hv
  obtain ⟨rfl, hsz, hP, hK, hD0, hN, hZ⟩ := hv
  have hx := B.exec
  have hb := B.bytes
  have hr := B.returns
  have hts := atoms_spec (ws := (wsG (.code yX7_put cX7_put 4 none))) B.pre
  have hown : s.vm.findClass RX7 = some m.cls := findClass_of_methodNamed B.named
  have hlocks := B.notSynchronized
  subst hsz
  have hD := hD0.self (sz := s.heap.size)
  generalize hAe : va_A [(h, .inr (7, [.ref b, .int (nI L)])), (b, .inl (cB, 9000, .inl f))] s.heap.size = A at hD hZ ⊢
  have hA : ∀ q : Nat, s.heap.size ≤ q → A q := fun q h => by rw [← hAe]; exact Or.inr h
  have hl := lv_entry ([.ref h, .int (nI j), .int v]) (n := 4) (Nat.le_of_ble_eq_true rfl)
  rw [lg_entry_eq]
  generalize (lg_sl ([.ref h, .int (nI j), .int v]) ++ List.replicate (4 - (lg_sl ([.ref h, .int (nI j), .int v])).length) Slot.unset).toArray = ls at hl ⊢
  have hl : lv_has ls 4 [(0, .ref h), (1, .int (nI j)), (2, .int v)] := hl
  refine g_start (A := A) hP (fun H locs hP hS => ?_)
  refine lv_iload_n hx hb dX7_put_0 rfl (lv_at hl 1 rfl) ?_
  refine lv_sipush (v := 9000) hx hb dX7_put_1 (by decide) ?_
  refine g_calli (wr := [(h, .inr (7, [.ref b, .int (nI L)])), (b, .inl (cB, 9000, .inl f))]) (va_runSN (As := [.int (nI j), .int 9000]) (rest := []) ⟨hx, hb, hml, hown, hts⟩ (c_isIn l dC dI H.size (nI j) 9000 ) ⟨va_cnB 2 hts (wsG_good kw_248) rfl rfl rfl (hN.1 (.methodLinkNest RX7 19 yX10_isIn RX10) (by decide +kernel)) (hts (.initialized RX10) (List.mem_cons_of_mem _ kw_2)) (by decide +kernel) ⟨Nat.le_of_ble_eq_true rfl, Nat.le_of_ble_eq_true rfl⟩, (hts (.static yX10_isIn) (List.mem_cons_of_mem _ kw_247)), trivial⟩ (g_preS hP hD hK hS hA hN hZ [] (by decide) rfl [] rfl) rfl rfl hl.1 rfl (lv_room (Nat.le_of_ble_eq_true rfl)) dX7_put_4 ⟨Nat.le_of_ble_eq_true rfl, Nat.le_of_ble_eq_true rfl⟩) hP hD hK hS hA [] [0, 1] rfl rfl (by decide) (by decide) (fun r_4 w ty1 H locs hw_4 hP hD _ hS => ?_)
  rcases hw_4 with ⟨hu, hr_4, h_4⟩ | ⟨hu, hr_4, h_4⟩
  · cases hu
    have hP : va_P (dC, dI) vwCl [(h, .inr (7, [.ref b, .int (nI L)])), (b, .inl (cB, 9000, .inl f))] H := hP
    have hD : va_D A [(h, .inr (7, [.ref b, .int (nI L)])), (b, .inl (cB, 9000, .inl f))] := hD
    refine g_topi (y := 1) hr_4 ?_
    refine lv_if_ne (tgt := 11) hx hb dX7_put_7 (by decide) (fun c_7 => ?_) (fun c_7 => absurd c_7 (by decide))
    refine lv_aload_n hx hb dX7_put_11 rfl (lv_at hl 0 rfl) ?_
    refine va_get (D := (dC, dI)) (ci := 7) (v := .int (nI L)) (C := RX7) (T := TX7) (N := 2) hx hb hts iwX7 hown hK hP 0 rfl rfl 1 (by decide) (hts (.fieldLink RX7 15 "ModulePlayer$Tape" "length" "I") (List.mem_cons_of_mem _ kw_241)) (fun _ h9 => h9) rfl dX7_put_12 ?_
    refine lv_istore_n (lv' := [(3, .int (nI L)), (0, .ref h), (1, .int (nI j)), (2, .int v)]) hx hb dX7_put_15 rfl hl (by decide) rfl (fun ls hl => ?_)
    have LP16 : ∀ (fu16 : Nat) (k : Nat) (fk : Nat → Int32) (hk1 : L ≤ k) (hk2 : k ≤ j ∨ k = L) (hm16 : 9000 - k < fu16) (H : Heap) (locs : List Loc), va_P (dC, dI) vwCl [(h, .inr (7, [.ref b, .int (nI L)])), (b, .inl (cB, 9000, .inl fk))] H → va_D A [(h, .inr (7, [.ref b, .int (nI L)])), (b, .inl (cB, 9000, .inl fk))] → va_S A s.heap H locs → ∀ ls : Array Slot, lv_has ls 4 [(3, .int (nI k)), (0, .ref h), (1, .int (nI j)), (2, .int v)] → W p l e ({ frames := 1, cells := 0, slots := 0, locals := 21 }) s m ([.ref h, .int (nI j), .int v] : List Value).toArray below meth c H locs (0) (0) (MQ below (va_Qv (fun u : va_W × gT => ∃ (f2 : Nat → Int32), u = ([(h, .inr (7, [.ref b, .int (nI L2)])), (b, .inl (cB, 9000, .inl f2))], [])) (gB (dC, dI) A) A) ([.ref h, .int (nI j), .int v] : List Value).toArray s 0 0 A) (F0 m 16 ls []) := by
      intro fu16
      induction fu16 with
      | zero => intro k fk hk1 hk2 hm16; exact absurd hm16 (Nat.not_lt_zero _)
      | succ fu16 ih16 =>
        intro k fk hk1 hk2 hm16 H locs hP hD hS ls hl
        refine lv_iload_n hx hb dX7_put_16 rfl (lv_at hl 0 rfl) ?_
        refine lv_iload_n hx hb dX7_put_17 rfl (lv_at hl 2 rfl) ?_
        refine lv_icmp_ge (tgt := 34) hx hb dX7_put_18 (by decide) (fun c_18 => ?_) (fun c_18 => ?_)
        · refine lv_aload_n hx hb dX7_put_34 rfl (lv_at hl 1 rfl) ?_
          refine va_get (D := (dC, dI)) (ci := 7) (v := .ref b) (C := RX7) (T := TX7) (N := 2) hx hb hts iwX7 hown hK hP 0 rfl rfl 0 (by decide) (hts (.fieldLink RX7 9 "ModulePlayer$Tape" "bytes" "[B") (List.mem_cons_of_mem _ kw_48)) (fun _ h9 => h9) rfl dX7_put_35 ?_
          refine lv_iload_n hx hb dX7_put_38 rfl (lv_at hl 2 rfl) ?_
          refine lv_iload_n hx hb dX7_put_39 rfl (lv_at hl 3 rfl) ?_
          refine lv_i2b (v := v.toInt8.toInt32) hx hb dX7_put_40 rfl ?_
          refine g_bast hx hb hK hP hD hS 1 0 rfl rfl (x' := v.toInt8.toInt32) (pk_vb _) j (nI_clamp (Nat.lt_trans (show j < 9000 from hj) (by decide))) (vp_in_nI (hj) (by decide)) dX7_put_41 (fun H locs hP hD hS => ?_)
          have hP : va_P (dC, dI) vwCl [(h, .inr (7, [.ref b, .int (nI L)])), (b, .inl (cB, 9000, .inl (upd fk j v.toInt8.toInt32)))] H := hP
          have hD : va_D A [(h, .inr (7, [.ref b, .int (nI L)])), (b, .inl (cB, 9000, .inl (upd fk j v.toInt8.toInt32)))] := hD
          refine lv_aload_n hx hb dX7_put_42 rfl (lv_at hl 1 rfl) ?_
          refine lv_aload_n hx hb dX7_put_43 rfl (lv_at hl 1 rfl) ?_
          refine va_get (D := (dC, dI)) (ci := 7) (v := .int (nI L)) (C := RX7) (T := TX7) (N := 2) hx hb hts iwX7 hown hK hP 0 rfl rfl 1 (by decide) (hts (.fieldLink RX7 15 "ModulePlayer$Tape" "length" "I") (List.mem_cons_of_mem _ kw_241)) (fun _ h9 => h9) rfl dX7_put_44 ?_
          refine lv_iload_n hx hb dX7_put_47 rfl (lv_at hl 2 rfl) ?_
          refine lv_iconst (v := 1) hx hb dX7_put_48 (by decide) ?_
          refine lv_iadd hx hb dX7_put_49 ?_
          refine g_topi (y := nI (j + 1)) (nI_1 j) ?_
          refine va_mmax hx hb (by rw [hml]; exact hl.1.symm) hown (hts (.methodLink RX7 27 Lib.Math.max.name) (List.mem_cons_of_mem _ kw_246)) (hts (.static Lib.Math.max.name) (List.mem_cons_of_mem _ kw_102)) (hts (.initialized "java/lang/Math") (List.mem_cons_of_mem _ kw_103)) (hts (.code Lib.Math.max.name Lib.Math.max.code 2 (some .int)) (List.mem_cons_of_mem _ kw_104)) (Nat.le_of_ble_eq_true rfl) (Nat.le_of_ble_eq_true rfl) (Nat.le_of_ble_eq_true rfl) (Nat.le_of_ble_eq_true rfl) dX7_put_50 ?_
          refine g_topi (y := nI L2) (by rw [← hL2]; exact mx_nI (by omega) (by omega)) ?_
          refine va_put (D := (dC, dI)) (ci := 7) (v := .int (nI L2)) (ty := tyX7 1) (C := RX7) (T := TX7) (N := 2) hx hb hts iwX7 tyX7 tyX7_ok nmX7 hown hK hP hD hS 0 rfl rfl 1 (by decide) (hts (.fieldLink RX7 15 "ModulePlayer$Tape" "length" "I") (List.mem_cons_of_mem _ kw_241)) (fun _ h9 => h9) rfl (by decide +kernel) (rfl) (rfl) (Nat.le_of_ble_eq_true rfl) dX7_put_53 (fun H locs hP hD hS => ?_)
          have hP : va_P (dC, dI) vwCl [(h, .inr (7, [.ref b, .int (nI L2)])), (b, .inl (cB, 9000, .inl (upd fk j v.toInt8.toInt32)))] H := hP
          have hD : va_D A [(h, .inr (7, [.ref b, .int (nI L2)])), (b, .inl (cB, 9000, .inl (upd fk j v.toInt8.toInt32)))] := hD
          have hP9 := hP.sub (ws' := [(h, .inr (7, [.ref b, .int (nI L2)])), (b, .inl (cB, 9000, .inl (upd fk j v.toInt8.toInt32)))]) [0, 1] rfl
          have hD9 := hD.sub (ws' := [(h, .inr (7, [.ref b, .int (nI L2)])), (b, .inl (cB, 9000, .inl (upd fk j v.toInt8.toInt32)))]) [0, 1] (by decide) rfl
          have hK9 := hK.sub (tys' := []) [] rfl
          exact W.vret hx hb hr (fun t ht hW => ⟨⟨([(h, .inr (7, [.ref b, .int (nI L2)])), (b, .inl (cB, 9000, .inl (upd fk j v.toInt8.toInt32)))], []), rfl, ⟨(upd fk j v.toInt8.toInt32), rfl⟩, by rw [ht]; exact hP9, va_K.moved hW.alike hK9, hD9⟩, hS.F ht⟩) hS.2.2 dX7_put_56
        refine lv_aload_n hx hb dX7_put_21 rfl (lv_at hl 1 rfl) ?_
        refine va_get (D := (dC, dI)) (ci := 7) (v := .ref b) (C := RX7) (T := TX7) (N := 2) hx hb hts iwX7 hown hK hP 0 rfl rfl 0 (by decide) (hts (.fieldLink RX7 9 "ModulePlayer$Tape" "bytes" "[B") (List.mem_cons_of_mem _ kw_48)) (fun _ h9 => h9) rfl dX7_put_22 ?_
        refine lv_iload_n hx hb dX7_put_25 rfl (lv_at hl 0 rfl) ?_
        refine lv_iconst (v := 0) hx hb dX7_put_26 (by decide) ?_
        refine g_bast hx hb hK hP hD hS 1 0 rfl rfl (x' := 0) (by decide) k (nI_clamp (Nat.lt_trans (show k < 9000 from by have := nI_nle' c_18 (by omega); omega) (by decide))) (vp_in_nI (by have := nI_nle' c_18 (by omega); omega) (by decide)) dX7_put_27 (fun H locs hP hD hS => ?_)
        have hP : va_P (dC, dI) vwCl [(h, .inr (7, [.ref b, .int (nI L)])), (b, .inl (cB, 9000, .inl (upd fk k 0)))] H := hP
        have hD : va_D A [(h, .inr (7, [.ref b, .int (nI L)])), (b, .inl (cB, 9000, .inl (upd fk k 0)))] := hD
        refine lv_iinc (v := nI (k + 1)) (lv' := [(3, .int (nI (k + 1))), (0, .ref h), (1, .int (nI j)), (2, .int v)]) hx hb dX7_put_28 hl (k := 0) rfl (nI_1 k) (by decide) rfl (fun ls hl => ?_)
        refine lv_goto (tgt := 16) hx hb dX7_put_31 (by decide) ?_
        exact ih16 (k + 1) (upd fk k 0) (by omega) (by have := nI_nle' c_18 (by omega); omega) (by have := nI_nle' c_18 (by omega); omega) _ _ (hP.sub [0, 1] rfl) (hD.sub [0, 1] (by decide) rfl) hS _ (lv_sub hl [0, 1, 2, 3] rfl)
    exact LP16 _ L f (Nat.le_refl L) (Or.inr rfl) (Nat.lt_succ_self _) _ _ (hP.sub [0, 1] rfl) (hD.sub [0, 1] (by decide) rfl) hS _ (lv_sub hl [0, 1, 2, 3] rfl)
  exact False.elim (h_4 (isin0 hj (by decide)))

set_option maxHeartbeats 400000 in
set_option maxRecDepth 100000 in
/-- Tape.putPair -/
theorem c_pairx (l : Launch) (dC : Nat → ClassId) (dI : Nat → Nat → Nat) (sz : Nat) (h b : Nat) (cB : ClassId) (f : Nat → Int32) (L : Nat) (j : Nat) (v : Int32) (L2 : Nat) (hL : L ≤ 9000) (hj : j + 1 < 9000) (hL2 : max L (j + 2) = L2) : Met l yX7_putPair (wsG (.code yX7_putPair cX7_putPair 3 none)) ({ frames := 2, cells := 0, slots := 0, locals := 44 }) (va_Pc [.ref h, .int (nI j), .int v] (gP (dC, dI) [(cB, .byte)] [(h, .inr (7, [.ref b, .int (nI L)])), (b, .inl (cB, 9000, .inl f))] sz)) (va_Qv (fun u : va_W × gT => ∃ (f2 : Nat → Int32), u = ([(h, .inr (7, [.ref b, .int (nI L2)])), (b, .inl (cB, 9000, .inl f2))], [])) (gB (dC, dI) (va_A [(h, .inr (7, [.ref b, .int (nI L)])), (b, .inl (cB, 9000, .inl f))] sz)) (va_A [(h, .inr (7, [.ref b, .int (nI L)])), (b, .inl (cB, 9000, .inl f))] sz)) 0 0 (va_A [(h, .inr (7, [.ref b, .int (nI L)])), (b, .inl (cB, 9000, .inl f))] sz) := by
  refine Met.ofW (cc := cX7_putPair) (maxL := 3) (ret := none) (by decide) rfl ?_
  intro p e s m args below meth c s₁ B hml hv
  obtain ⟨rfl, hsz, hP, hK, hD0, hN, hZ⟩ := hv
  have hx := B.exec
  have hb := B.bytes
  have hr := B.returns
  have hts := atoms_spec (ws := (wsG (.code yX7_putPair cX7_putPair 3 none))) B.pre
  have hown : s.vm.findClass RX7 = some m.cls := findClass_of_methodNamed B.named
  have hlocks := B.notSynchronized
  subst hsz
  have hD := hD0.self (sz := s.heap.size)
  generalize hAe : va_A [(h, .inr (7, [.ref b, .int (nI L)])), (b, .inl (cB, 9000, .inl f))] s.heap.size = A at hD hZ ⊢
  have hA : ∀ q : Nat, s.heap.size ≤ q → A q := fun q h => by rw [← hAe]; exact Or.inr h
  have hl := lv_entry ([.ref h, .int (nI j), .int v]) (n := 3) (Nat.le_of_ble_eq_true rfl)
  rw [lg_entry_eq]
  generalize (lg_sl ([.ref h, .int (nI j), .int v]) ++ List.replicate (3 - (lg_sl ([.ref h, .int (nI j), .int v])).length) Slot.unset).toArray = ls at hl ⊢
  have hl : lv_has ls 3 [(0, .ref h), (1, .int (nI j)), (2, .int v)] := hl
  refine g_start (A := A) hP (fun H locs hP hS => ?_)
  refine lv_aload_n hx hb dX7_putPair_0 rfl (lv_at hl 0 rfl) ?_
  refine lv_iload_n hx hb dX7_putPair_1 rfl (lv_at hl 1 rfl) ?_
  refine lv_iload_n hx hb dX7_putPair_2 rfl (lv_at hl 2 rfl) ?_
  refine lv_bipush (v := 8) hx hb dX7_putPair_3 (by decide) ?_
  refine lv_ishr hx hb dX7_putPair_5 ?_
  refine g_callv (wr := []) (va_runV (As := [.int (nI j), .int (v >>> (8 &&& 31))]) (rest := []) ⟨hx, hb, hml, hown, hts⟩ (c_putx l dC dI H.size h b cB f L j (v >>> (8 &&& 31)) (max L (j + 1)) (hL) (by omega) (rfl)) (cwV 2 hts (gG_V kw_242 kw_243 kw_244 kw_18 kw_245) rfl rfl rfl (by decide +kernel) ⟨Nat.le_of_ble_eq_true rfl, Nat.le_of_ble_eq_true rfl⟩) (g_preV (C := RX7) (T := TX7) (N := 2) hP hD hK hS hA hN hZ (q0 := 0) rfl rfl [0, 1] (by decide) rfl [0] rfl) rfl rfl hl.1 rfl (lv_room (Nat.le_of_ble_eq_true rfl)) dX7_putPair_6 ⟨Nat.le_of_ble_eq_true rfl, Nat.le_of_ble_eq_true rfl⟩) hP hD hK hS hA [0, 1] [] rfl rfl (by decide) (by decide) (fun w ty1 H locs hw_6 hP hD _ hS => ?_)
  rcases hw_6 with ⟨f2_6, hu⟩
  cases hu
  have hP : va_P (dC, dI) vwCl [(h, .inr (7, [.ref b, .int (nI (max L (j + 1)))])), (b, .inl (cB, 9000, .inl f2_6))] H := hP
  have hD : va_D A [(h, .inr (7, [.ref b, .int (nI (max L (j + 1)))])), (b, .inl (cB, 9000, .inl f2_6))] := hD
  refine lv_aload_n hx hb dX7_putPair_9 rfl (lv_at hl 0 rfl) ?_
  refine lv_iload_n hx hb dX7_putPair_10 rfl (lv_at hl 1 rfl) ?_
  refine lv_iconst (v := 1) hx hb dX7_putPair_11 (by decide) ?_
  refine lv_iadd hx hb dX7_putPair_12 ?_
  refine g_topi (y := nI (j + 1)) (nI_1 j) ?_
  refine lv_iload_n hx hb dX7_putPair_13 rfl (lv_at hl 2 rfl) ?_
  refine g_callv (wr := []) (va_runV (As := [.int (nI (j + 1)), .int v]) (rest := []) ⟨hx, hb, hml, hown, hts⟩ (c_putx l dC dI H.size h b cB f2_6 (max L (j + 1)) (j + 1) v L2 (by omega) (hj) (by omega)) (cwV 2 hts (gG_V kw_242 kw_243 kw_244 kw_18 kw_245) rfl rfl rfl (by decide +kernel) ⟨Nat.le_of_ble_eq_true rfl, Nat.le_of_ble_eq_true rfl⟩) (g_preV (C := RX7) (T := TX7) (N := 2) hP hD hK hS hA hN hZ (q0 := 0) rfl rfl [0, 1] (by decide) rfl [0] rfl) rfl rfl hl.1 rfl (lv_room (Nat.le_of_ble_eq_true rfl)) dX7_putPair_14 ⟨Nat.le_of_ble_eq_true rfl, Nat.le_of_ble_eq_true rfl⟩) hP hD hK hS hA [0, 1] [] rfl rfl (by decide) (by decide) (fun w ty1 H locs hw_14 hP hD _ hS => ?_)
  rcases hw_14 with ⟨f2_14, hu⟩
  cases hu
  have hP : va_P (dC, dI) vwCl [(h, .inr (7, [.ref b, .int (nI L2)])), (b, .inl (cB, 9000, .inl f2_14))] H := hP
  have hD : va_D A [(h, .inr (7, [.ref b, .int (nI L2)])), (b, .inl (cB, 9000, .inl f2_14))] := hD
  have hP9 := hP.sub (ws' := [(h, .inr (7, [.ref b, .int (nI L2)])), (b, .inl (cB, 9000, .inl f2_14))]) [0, 1] rfl
  have hD9 := hD.sub (ws' := [(h, .inr (7, [.ref b, .int (nI L2)])), (b, .inl (cB, 9000, .inl f2_14))]) [0, 1] (by decide) rfl
  have hK9 := hK.sub (tys' := []) [] rfl
  exact W.vret hx hb hr (fun t ht hW => ⟨⟨([(h, .inr (7, [.ref b, .int (nI L2)])), (b, .inl (cB, 9000, .inl f2_14))], []), rfl, ⟨f2_14, rfl⟩, by rw [ht]; exact hP9, va_K.moved hW.alike hK9, hD9⟩, hS.F ht⟩) hS.2.2 dX7_putPair_17

set_option maxHeartbeats 400000 in
set_option maxRecDepth 100000 in
/-- sampleAt -/
theorem c_sampleAt (l : Launch) (dC : Nat → ClassId) (dI : Nat → Nat → Nat) (sz : Nat) (q : Nat) (hq : 1 ≤ q) : Met l yX4_sampleAt (wsG (.code yX4_sampleAt cX4_sampleAt 1 (some .int))) ({ frames := 0, cells := 0, slots := 0, locals := 0 }) (va_Pc [.int (nI q)] (gP (dC, dI) [] [] sz)) (va_Qi (fun (r : Int32) (u : va_W × gT) => u = ([], []) ∧ r = nI (20 + 30 * (q - 1))) (gB (dC, dI) (va_A [] sz)) (va_A [] sz)) 0 0 (va_A [] sz) := by
  refine Met.ofW (cc := cX4_sampleAt) (maxL := 1) (ret := (some .int)) (by decide) rfl ?_
  intro p e s m args below meth c s₁ B hml hv
  obtain ⟨rfl, hsz, hP, hK, hD0, hN, hZ⟩ := hv
  have hx := B.exec
  have hb := B.bytes
  have hr := B.returns
  have hts := atoms_spec (ws := (wsG (.code yX4_sampleAt cX4_sampleAt 1 (some .int)))) B.pre
  have hown : s.vm.findClass RX4 = some m.cls := findClass_of_methodNamed B.named
  have hlocks := B.notSynchronized
  subst hsz
  have hD := hD0.self (sz := s.heap.size)
  generalize hAe : va_A [] s.heap.size = A at hD hZ ⊢
  have hA : ∀ q : Nat, s.heap.size ≤ q → A q := fun q h => by rw [← hAe]; exact Or.inr h
  have hl := lv_entry ([.int (nI q)]) (n := 1) (Nat.le_of_ble_eq_true rfl)
  rw [lg_entry_eq]
  generalize (lg_sl ([.int (nI q)]) ++ List.replicate (1 - (lg_sl ([.int (nI q)])).length) Slot.unset).toArray = ls at hl ⊢
  have hl : lv_has ls 1 [(0, .int (nI q))] := hl
  refine g_start (A := A) hP (fun H locs hP hS => ?_)
  refine lv_bipush (v := 20) hx hb dX4_sampleAt_0 (by decide) ?_
  refine lv_bipush (v := 30) hx hb dX4_sampleAt_2 (by decide) ?_
  refine lv_iload_n hx hb dX4_sampleAt_4 rfl (lv_at hl 0 rfl) ?_
  refine lv_iconst (v := 1) hx hb dX4_sampleAt_5 (by decide) ?_
  refine lv_isub hx hb dX4_sampleAt_6 ?_
  refine g_topi (y := nI (q - 1)) (pk_sub hq) ?_
  refine lv_imul hx hb dX4_sampleAt_7 ?_
  refine g_topi (y := nI (30 * (q - 1))) (pk_mul 30 _) ?_
  refine lv_iadd hx hb dX4_sampleAt_8 ?_
  refine g_topi (y := nI (20 + 30 * (q - 1))) (nI_add 20 _) ?_
  have hP9 := hP.sub (ws' := []) [] rfl
  have hD9 := hD.sub (ws' := []) [] (by decide) rfl
  have hK9 := hK.sub (tys' := []) [] rfl
  exact W.iret (v := nI (20 + 30 * (q - 1))) hx hb hr (fun t ht hW => ⟨⟨nI (20 + 30 * (q - 1)), ([], []), rfl, ⟨rfl, rfl⟩, by rw [ht]; exact hP9, va_K.moved hW.alike hK9, hD9⟩, hS.F ht⟩) hS.2.2 dX4_sampleAt_9

set_option maxHeartbeats 400000 in
set_option maxRecDepth 100000 in
/-- patternsEnd -/
theorem c_patEnd (l : Launch) (dC : Nat → ClassId) (dI : Nat → Nat → Nat) (sz : Nat) (a : Nat) : Met l yX4_patternsEnd (wsG (.code yX4_patternsEnd cX4_patternsEnd 1 (some .int))) ({ frames := 0, cells := 0, slots := 0, locals := 0 }) (va_Pc [.int (nI a)] (gP (dC, dI) [] [] sz)) (va_Qi (fun (r : Int32) (u : va_W × gT) => u = ([], []) ∧ r = nI (1084 + 1024 * a)) (gB (dC, dI) (va_A [] sz)) (va_A [] sz)) 0 0 (va_A [] sz) := by
  refine Met.ofW (cc := cX4_patternsEnd) (maxL := 1) (ret := (some .int)) (by decide) rfl ?_
  intro p e s m args below meth c s₁ B hml hv
  obtain ⟨rfl, hsz, hP, hK, hD0, hN, hZ⟩ := hv
  have hx := B.exec
  have hb := B.bytes
  have hr := B.returns
  have hts := atoms_spec (ws := (wsG (.code yX4_patternsEnd cX4_patternsEnd 1 (some .int)))) B.pre
  have hown : s.vm.findClass RX4 = some m.cls := findClass_of_methodNamed B.named
  have hlocks := B.notSynchronized
  subst hsz
  have hD := hD0.self (sz := s.heap.size)
  generalize hAe : va_A [] s.heap.size = A at hD hZ ⊢
  have hA : ∀ q : Nat, s.heap.size ≤ q → A q := fun q h => by rw [← hAe]; exact Or.inr h
  have hl := lv_entry ([.int (nI a)]) (n := 1) (Nat.le_of_ble_eq_true rfl)
  rw [lg_entry_eq]
  generalize (lg_sl ([.int (nI a)]) ++ List.replicate (1 - (lg_sl ([.int (nI a)])).length) Slot.unset).toArray = ls at hl ⊢
  have hl : lv_has ls 1 [(0, .int (nI a))] := hl
  refine g_start (A := A) hP (fun H locs hP hS => ?_)
  refine lv_sipush (v := 1084) hx hb dX4_patternsEnd_0 (by decide) ?_
  refine lv_sipush (v := 1024) hx hb dX4_patternsEnd_3 (by decide) ?_
  refine lv_iload_n hx hb dX4_patternsEnd_6 rfl (lv_at hl 0 rfl) ?_
  refine lv_imul hx hb dX4_patternsEnd_7 ?_
  refine g_topi (y := nI (1024 * a)) (pk_mul 1024 a) ?_
  refine lv_iadd hx hb dX4_patternsEnd_8 ?_
  refine g_topi (y := nI (1084 + 1024 * a)) (nI_add 1084 _) ?_
  have hP9 := hP.sub (ws' := []) [] rfl
  have hD9 := hD.sub (ws' := []) [] (by decide) rfl
  have hK9 := hK.sub (tys' := []) [] rfl
  exact W.iret (v := nI (1084 + 1024 * a)) hx hb hr (fun t ht hW => ⟨⟨nI (1084 + 1024 * a), ([], []), rfl, ⟨rfl, rfl⟩, by rw [ht]; exact hP9, va_K.moved hW.alike hK9, hD9⟩, hS.F ht⟩) hS.2.2 dX4_patternsEnd_9

set_option maxHeartbeats 400000 in
set_option maxRecDepth 100000 in
/-- cellAt -/
theorem c_cellAt (l : Launch) (dC : Nat → ClassId) (dI : Nat → Nat → Nat) (sz : Nat) (a b d : Nat) : Met l yX4_cellAt (wsG (.code yX4_cellAt cX4_cellAt 3 (some .int))) ({ frames := 1, cells := 0, slots := 0, locals := 20 }) (va_Pc [.int (nI a), .int (nI b), .int (nI d)] (gP (dC, dI) [] [] sz)) (va_Qi (fun (r : Int32) (u : va_W × gT) => u = ([], []) ∧ r = nI (1084 + 1024 * a + (b * 4 + d) * 4)) (gB (dC, dI) (va_A [] sz)) (va_A [] sz)) 0 0 (va_A [] sz) := by
  refine Met.ofW (cc := cX4_cellAt) (maxL := 3) (ret := (some .int)) (by decide) rfl ?_
  intro p e s m args below meth c s₁ B hml hv
  obtain ⟨rfl, hsz, hP, hK, hD0, hN, hZ⟩ := hv
  have hx := B.exec
  have hb := B.bytes
  have hr := B.returns
  have hts := atoms_spec (ws := (wsG (.code yX4_cellAt cX4_cellAt 3 (some .int)))) B.pre
  have hown : s.vm.findClass RX4 = some m.cls := findClass_of_methodNamed B.named
  have hlocks := B.notSynchronized
  subst hsz
  have hD := hD0.self (sz := s.heap.size)
  generalize hAe : va_A [] s.heap.size = A at hD hZ ⊢
  have hA : ∀ q : Nat, s.heap.size ≤ q → A q := fun q h => by rw [← hAe]; exact Or.inr h
  have hl := lv_entry ([.int (nI a), .int (nI b), .int (nI d)]) (n := 3) (Nat.le_of_ble_eq_true rfl)
  rw [lg_entry_eq]
  generalize (lg_sl ([.int (nI a), .int (nI b), .int (nI d)]) ++ List.replicate (3 - (lg_sl ([.int (nI a), .int (nI b), .int (nI d)])).length) Slot.unset).toArray = ls at hl ⊢
  have hl : lv_has ls 3 [(0, .int (nI a)), (1, .int (nI b)), (2, .int (nI d))] := hl
  refine g_start (A := A) hP (fun H locs hP hS => ?_)
  refine lv_iload_n hx hb dX4_cellAt_0 rfl (lv_at hl 0 rfl) ?_
  refine g_calli (wr := []) (va_runS (As := [.int (nI a)]) (rest := []) ⟨hx, hb, hml, hown, hts⟩ (c_patEnd l dC dI H.size a ) (va_cwS 1 hts (gG_S kw_330 kw_331 kw_30 kw_332) rfl rfl rfl (by decide +kernel) ⟨Nat.le_of_ble_eq_true rfl, Nat.le_of_ble_eq_true rfl⟩) (g_preS hP hD hK hS hA hN hZ [] (by decide) rfl [] rfl) rfl rfl hl.1 rfl (lv_room (Nat.le_of_ble_eq_true rfl)) dX4_cellAt_1 ⟨Nat.le_of_ble_eq_true rfl, Nat.le_of_ble_eq_true rfl⟩) hP hD hK hS hA [] [] rfl rfl (by decide) (by decide) (fun r_1 w ty1 H locs hw_1 hP hD _ hS => ?_)
  rcases hw_1 with ⟨hu, hr_1⟩
  cases hu
  have hP : va_P (dC, dI) vwCl [] H := hP
  have hD : va_D A [] := hD
  refine g_topi (y := nI (1084 + 1024 * a)) hr_1 ?_
  refine lv_iload_n hx hb dX4_cellAt_4 rfl (lv_at hl 1 rfl) ?_
  refine lv_iconst (v := 4) hx hb dX4_cellAt_5 (by decide) ?_
  refine lv_imul hx hb dX4_cellAt_6 ?_
  refine g_topi (y := nI (b * 4)) (pk_mul b 4) ?_
  refine lv_iload_n hx hb dX4_cellAt_7 rfl (lv_at hl 2 rfl) ?_
  refine lv_iadd hx hb dX4_cellAt_8 ?_
  refine g_topi (y := nI (b * 4 + d)) (nI_add _ _) ?_
  refine lv_iconst (v := 4) hx hb dX4_cellAt_9 (by decide) ?_
  refine lv_imul hx hb dX4_cellAt_10 ?_
  refine g_topi (y := nI ((b * 4 + d) * 4)) (pk_mul _ 4) ?_
  refine lv_iadd hx hb dX4_cellAt_11 ?_
  refine g_topi (y := nI (1084 + 1024 * a + (b * 4 + d) * 4)) (nI_add _ _) ?_
  have hP9 := hP.sub (ws' := []) [] rfl
  have hD9 := hD.sub (ws' := []) [] (by decide) rfl
  have hK9 := hK.sub (tys' := []) [] rfl
  exact W.iret (v := nI (1084 + 1024 * a + (b * 4 + d) * 4)) hx hb hr (fun t ht hW => ⟨⟨nI (1084 + 1024 * a + (b * 4 + d) * 4), ([], []), rfl, ⟨rfl, rfl⟩, by rw [ht]; exact hP9, va_K.moved hW.alike hK9, hD9⟩, hS.F ht⟩) hS.2.2 dX4_cellAt_12

set_option maxHeartbeats 400000 in
set_option maxRecDepth 100000 in
/-- markByte -/
theorem c_mark (l : Launch) (dC : Nat → ClassId) (dI : Nat → Nat → Nat) (sz : Nat) (a : Nat) (ha : a < 4) : Met l yX4_markByte (wsG (.code yX4_markByte cX4_markByte 1 (some .int))) ({ frames := 1, cells := 0, slots := 0, locals := 21 }) (va_Pc [.int (nI a)] (gP (dC, dI) [] [] sz)) (va_Qi (fun (r : Int32) (u : va_W × gT) => u = ([], []) ∧ r = mkv a) (gB (dC, dI) (va_A [] sz)) (va_A [] sz)) 0 0 (va_A [] sz) := by
  refine Met.ofW (cc := cX4_markByte) (maxL := 1) (ret := (some .int)) (by decide) rfl ?_
  intro p e s m args below meth c s₁ B hml hv
  obtain ⟨rfl, hsz, hP, hK, hD0, hN, hZ⟩ := hv
  have hx := B.exec
  have hb := B.bytes
  have hr := B.returns
  have hts := atoms_spec (ws := (wsG (.code yX4_markByte cX4_markByte 1 (some .int)))) B.pre
  have hown : s.vm.findClass RX4 = some m.cls := findClass_of_methodNamed B.named
  have hlocks := B.notSynchronized
  subst hsz
  have hD := hD0.self (sz := s.heap.size)
  generalize hAe : va_A [] s.heap.size = A at hD hZ ⊢
  have hA : ∀ q : Nat, s.heap.size ≤ q → A q := fun q h => by rw [← hAe]; exact Or.inr h
  have hl := lv_entry ([.int (nI a)]) (n := 1) (Nat.le_of_ble_eq_true rfl)
  rw [lg_entry_eq]
  generalize (lg_sl ([.int (nI a)]) ++ List.replicate (1 - (lg_sl ([.int (nI a)])).length) Slot.unset).toArray = ls at hl ⊢
  have hl : lv_has ls 1 [(0, .int (nI a))] := hl
  refine g_start (A := A) hP (fun H locs hP hS => ?_)
  refine lv_iload_n hx hb dX4_markByte_0 rfl (lv_at hl 0 rfl) ?_
  refine lv_iconst (v := 4) hx hb dX4_markByte_1 (by decide) ?_
  refine g_calli (wr := []) (va_runSN (As := [.int (nI a), .int 4]) (rest := []) ⟨hx, hb, hml, hown, hts⟩ (c_isIn l dC dI H.size (nI a) 4 ) ⟨va_cnB 2 hts (wsG_good kw_248) rfl rfl rfl (hN.1 (.methodLinkNest RX4 18 yX10_isIn RX10) (by decide +kernel)) (hts (.initialized RX10) (List.mem_cons_of_mem _ kw_2)) (by decide +kernel) ⟨Nat.le_of_ble_eq_true rfl, Nat.le_of_ble_eq_true rfl⟩, (hts (.static yX10_isIn) (List.mem_cons_of_mem _ kw_247)), trivial⟩ (g_preS hP hD hK hS hA hN hZ [] (by decide) rfl [] rfl) rfl rfl hl.1 rfl (lv_room (Nat.le_of_ble_eq_true rfl)) dX4_markByte_2 ⟨Nat.le_of_ble_eq_true rfl, Nat.le_of_ble_eq_true rfl⟩) hP hD hK hS hA [] [] rfl rfl (by decide) (by decide) (fun r_2 w ty1 H locs hw_2 hP hD _ hS => ?_)
  rcases hw_2 with ⟨hu, hr_2, h_2⟩ | ⟨hu, hr_2, h_2⟩
  · cases hu
    have hP : va_P (dC, dI) vwCl [] H := hP
    have hD : va_D A [] := hD
    refine g_topi (y := 1) hr_2 ?_
    refine lv_if_eq (tgt := 16) hx hb dX4_markByte_5 (by decide) (fun c_5 => absurd c_5 (by decide)) (fun c_5 => ?_)
    obtain ⟨tz1, hZ1, hT1⟩ := hZ.1
    refine va_gets hx hb hZ1 hS hown (hts (.fieldLink RX4 22 "ModulePlayer$Reader" "MARK" "[I") (List.mem_cons_of_mem _ kw_302)) (fun _ h9 => h9) dX4_markByte_8 ?_
    refine lv_iload_n hx hb dX4_markByte_11 rfl (lv_at hl 0 rfl) ?_
    refine va_ti (v := .int (mkv a)) hx hb hT1 hS (vp_in_nI ha (by decide)) (mkv_v ha) dX4_markByte_12 ?_
    refine lv_goto (tgt := 17) hx hb dX4_markByte_13 (by decide) ?_
    have hP9 := hP.sub (ws' := []) [] rfl
    have hD9 := hD.sub (ws' := []) [] (by decide) rfl
    have hK9 := hK.sub (tys' := []) [] rfl
    exact W.iret (v := mkv a) hx hb hr (fun t ht hW => ⟨⟨mkv a, ([], []), rfl, ⟨rfl, rfl⟩, by rw [ht]; exact hP9, va_K.moved hW.alike hK9, hD9⟩, hS.F ht⟩) hS.2.2 dX4_markByte_17
  exact False.elim (h_2 (isin0 ha (by decide)))

set_option maxHeartbeats 400000 in
set_option maxRecDepth 100000 in
/-- writeCell at the end -/
theorem c_writeCell (l : Launch) (dC : Nat → ClassId) (dI : Nat → Nat → Nat) (sz : Nat) (ta tb : Nat) (cB : ClassId) (f : Nat → Int32) (j : Nat) (v : Int32) (hj : j + 4 ≤ 9000) : Met l yX9_writeCell (wsG (.code yX9_writeCell cX9_writeCell 5 none)) ({ frames := 2, cells := 0, slots := 0, locals := 44 }) (va_Pc [.ref ta, .int (nI j), .int v] (gP (dC, dI) [(cB, .byte)] [(ta, .inr (7, [.ref tb, .int (nI j)])), (tb, .inl (cB, 9000, .inl f))] sz)) (va_Qv (fun u : va_W × gT => ∃ (f2 : Nat → Int32), u = ([(ta, .inr (7, [.ref tb, .int (nI (j + 4))])), (tb, .inl (cB, 9000, .inl f2))], [])) (gB (dC, dI) (va_A [(ta, .inr (7, [.ref tb, .int (nI j)])), (tb, .inl (cB, 9000, .inl f))] sz)) (va_A [(ta, .inr (7, [.ref tb, .int (nI j)])), (tb, .inl (cB, 9000, .inl f))] sz)) 0 0 (va_A [(ta, .inr (7, [.ref tb, .int (nI j)])), (tb, .inl (cB, 9000, .inl f))] sz) := by
  refine Met.ofW (cc := cX9_writeCell) (maxL := 5) (ret := none) (by decide) rfl ?_
  intro p e s m args below meth c s₁ B hml hv
  obtain ⟨rfl, hsz, hP, hK, hD0, hN, hZ⟩ := hv
  have hx := B.exec
  have hb := B.bytes
  have hr := B.returns
  have hts := atoms_spec (ws := (wsG (.code yX9_writeCell cX9_writeCell 5 none))) B.pre
  have hown : s.vm.findClass RX9 = some m.cls := findClass_of_methodNamed B.named
  have hlocks := B.notSynchronized
  subst hsz
  have hD := hD0.self (sz := s.heap.size)
  generalize hAe : va_A [(ta, .inr (7, [.ref tb, .int (nI j)])), (tb, .inl (cB, 9000, .inl f))] s.heap.size = A at hD hZ ⊢
  have hA : ∀ q : Nat, s.heap.size ≤ q → A q := fun q h => by rw [← hAe]; exact Or.inr h
  have hl := lv_entry ([.ref ta, .int (nI j), .int v]) (n := 5) (Nat.le_of_ble_eq_true rfl)
  rw [lg_entry_eq]
  generalize (lg_sl ([.ref ta, .int (nI j), .int v]) ++ List.replicate (5 - (lg_sl ([.ref ta, .int (nI j), .int v])).length) Slot.unset).toArray = ls at hl ⊢
  have hl : lv_has ls 5 [(0, .ref ta), (1, .int (nI j)), (2, .int v)] := hl
  refine g_start (A := A) hP (fun H locs hP hS => ?_)
  refine lv_iload_n hx hb dX9_writeCell_0 rfl (lv_at hl 2 rfl) ?_
  refine lv_bipush (v := 17) hx hb dX9_writeCell_1 (by decide) ?_
  refine lv_ishr hx hb dX9_writeCell_3 ?_
  refine lv_topi (fun u3 eu3 => ?_)
  refine lv_istore_n (lv' := [(3, .int u3), (0, .ref ta), (1, .int (nI j)), (2, .int v)]) hx hb dX9_writeCell_4 rfl hl (by decide) rfl (fun ls hl => ?_)
  refine lv_iload_n hx hb dX9_writeCell_5 rfl (lv_at hl 3 rfl) ?_
  refine lv_bipush (v := 12) hx hb dX9_writeCell_6 (by decide) ?_
  refine lv_ishr hx hb dX9_writeCell_8 ?_
  refine lv_topi (fun u8 eu8 => ?_)
  refine lv_bipush (v := 31) hx hb dX9_writeCell_9 (by decide) ?_
  refine lv_iand hx hb dX9_writeCell_11 ?_
  refine lv_topi (fun u11 eu11 => ?_)
  refine lv_istore (lv' := [(4, .int u11), (3, .int u3), (0, .ref ta), (1, .int (nI j)), (2, .int v)]) hx hb dX9_writeCell_12 hl (by decide) rfl (fun ls hl => ?_)
  refine lv_aload_n hx hb dX9_writeCell_14 rfl (lv_at hl 2 rfl) ?_
  refine lv_iload_n hx hb dX9_writeCell_15 rfl (lv_at hl 3 rfl) ?_
  refine lv_iload hx hb dX9_writeCell_16 (lv_at hl 0 rfl) ?_
  refine lv_bipush (v := 16) hx hb dX9_writeCell_18 (by decide) ?_
  refine lv_iand hx hb dX9_writeCell_20 ?_
  refine lv_topi (fun u20 eu20 => ?_)
  refine lv_iload_n hx hb dX9_writeCell_21 rfl (lv_at hl 1 rfl) ?_
  refine lv_bipush (v := 8) hx hb dX9_writeCell_22 (by decide) ?_
  refine lv_ishr hx hb dX9_writeCell_24 ?_
  refine lv_topi (fun u24 eu24 => ?_)
  refine lv_ior hx hb dX9_writeCell_25 ?_
  refine lv_topi (fun u25 eu25 => ?_)
  refine g_callv (wr := []) (va_runV (As := [.int (nI j), .int u25]) (rest := []) ⟨hx, hb, hml, hown, hts⟩ (c_putx l dC dI H.size ta tb cB f j j u25 (j + 1) (by omega) (by omega) (by omega)) (cwV 2 hts (gG_V kw_474 kw_243 kw_244 kw_18 kw_245) rfl rfl rfl (by decide +kernel) ⟨Nat.le_of_ble_eq_true rfl, Nat.le_of_ble_eq_true rfl⟩) (g_preV (C := RX7) (T := TX7) (N := 2) hP hD hK hS hA hN hZ (q0 := 0) rfl rfl [0, 1] (by decide) rfl [0] rfl) rfl rfl hl.1 rfl (lv_room (Nat.le_of_ble_eq_true rfl)) dX9_writeCell_26 ⟨Nat.le_of_ble_eq_true rfl, Nat.le_of_ble_eq_true rfl⟩) hP hD hK hS hA [0, 1] [] rfl rfl (by decide) (by decide) (fun w ty1 H locs hw_26 hP hD _ hS => ?_)
  rcases hw_26 with ⟨f2_26, hu⟩
  cases hu
  have hP : va_P (dC, dI) vwCl [(ta, .inr (7, [.ref tb, .int (nI (j + 1))])), (tb, .inl (cB, 9000, .inl f2_26))] H := hP
  have hD : va_D A [(ta, .inr (7, [.ref tb, .int (nI (j + 1))])), (tb, .inl (cB, 9000, .inl f2_26))] := hD
  refine lv_aload_n hx hb dX9_writeCell_29 rfl (lv_at hl 2 rfl) ?_
  refine lv_iload_n hx hb dX9_writeCell_30 rfl (lv_at hl 3 rfl) ?_
  refine lv_iconst (v := 1) hx hb dX9_writeCell_31 (by decide) ?_
  refine lv_iadd hx hb dX9_writeCell_32 ?_
  refine g_topi (y := nI (j + 1)) (nI_1 j) ?_
  refine lv_iload_n hx hb dX9_writeCell_33 rfl (lv_at hl 1 rfl) ?_
  refine lv_sipush (v := 255) hx hb dX9_writeCell_34 (by decide) ?_
  refine lv_iand hx hb dX9_writeCell_37 ?_
  refine lv_topi (fun u37 eu37 => ?_)
  refine g_callv (wr := []) (va_runV (As := [.int (nI (j + 1)), .int u37]) (rest := []) ⟨hx, hb, hml, hown, hts⟩ (c_putx l dC dI H.size ta tb cB f2_26 (j + 1) (j + 1) u37 (j + 2) (by omega) (by omega) (by omega)) (cwV 2 hts (gG_V kw_474 kw_243 kw_244 kw_18 kw_245) rfl rfl rfl (by decide +kernel) ⟨Nat.le_of_ble_eq_true rfl, Nat.le_of_ble_eq_true rfl⟩) (g_preV (C := RX7) (T := TX7) (N := 2) hP hD hK hS hA hN hZ (q0 := 0) rfl rfl [0, 1] (by decide) rfl [0] rfl) rfl rfl hl.1 rfl (lv_room (Nat.le_of_ble_eq_true rfl)) dX9_writeCell_38 ⟨Nat.le_of_ble_eq_true rfl, Nat.le_of_ble_eq_true rfl⟩) hP hD hK hS hA [0, 1] [] rfl rfl (by decide) (by decide) (fun w ty1 H locs hw_38 hP hD _ hS => ?_)
  rcases hw_38 with ⟨f2_38, hu⟩
  cases hu
  have hP : va_P (dC, dI) vwCl [(ta, .inr (7, [.ref tb, .int (nI (j + 2))])), (tb, .inl (cB, 9000, .inl f2_38))] H := hP
  have hD : va_D A [(ta, .inr (7, [.ref tb, .int (nI (j + 2))])), (tb, .inl (cB, 9000, .inl f2_38))] := hD
  refine lv_aload_n hx hb dX9_writeCell_41 rfl (lv_at hl 2 rfl) ?_
  refine lv_iload_n hx hb dX9_writeCell_42 rfl (lv_at hl 3 rfl) ?_
  refine lv_iconst (v := 2) hx hb dX9_writeCell_43 (by decide) ?_
  refine lv_iadd hx hb dX9_writeCell_44 ?_
  refine g_topi (y := nI (j + 2)) (nI_add j 2) ?_
  refine lv_iload hx hb dX9_writeCell_45 (lv_at hl 0 rfl) ?_
  refine lv_bipush (v := 15) hx hb dX9_writeCell_47 (by decide) ?_
  refine lv_iand hx hb dX9_writeCell_49 ?_
  refine lv_topi (fun u49 eu49 => ?_)
  refine lv_iconst (v := 4) hx hb dX9_writeCell_50 (by decide) ?_
  refine lv_ishl hx hb dX9_writeCell_51 ?_
  refine lv_topi (fun u51 eu51 => ?_)
  refine lv_iload_n hx hb dX9_writeCell_52 rfl (lv_at hl 4 rfl) ?_
  refine lv_bipush (v := 8) hx hb dX9_writeCell_53 (by decide) ?_
  refine lv_ishr hx hb dX9_writeCell_55 ?_
  refine lv_topi (fun u55 eu55 => ?_)
  refine lv_bipush (v := 15) hx hb dX9_writeCell_56 (by decide) ?_
  refine lv_iand hx hb dX9_writeCell_58 ?_
  refine lv_topi (fun u58 eu58 => ?_)
  refine lv_ior hx hb dX9_writeCell_59 ?_
  refine lv_topi (fun u59 eu59 => ?_)
  refine g_callv (wr := []) (va_runV (As := [.int (nI (j + 2)), .int u59]) (rest := []) ⟨hx, hb, hml, hown, hts⟩ (c_putx l dC dI H.size ta tb cB f2_38 (j + 2) (j + 2) u59 (j + 3) (by omega) (by omega) (by omega)) (cwV 2 hts (gG_V kw_474 kw_243 kw_244 kw_18 kw_245) rfl rfl rfl (by decide +kernel) ⟨Nat.le_of_ble_eq_true rfl, Nat.le_of_ble_eq_true rfl⟩) (g_preV (C := RX7) (T := TX7) (N := 2) hP hD hK hS hA hN hZ (q0 := 0) rfl rfl [0, 1] (by decide) rfl [0] rfl) rfl rfl hl.1 rfl (lv_room (Nat.le_of_ble_eq_true rfl)) dX9_writeCell_60 ⟨Nat.le_of_ble_eq_true rfl, Nat.le_of_ble_eq_true rfl⟩) hP hD hK hS hA [0, 1] [] rfl rfl (by decide) (by decide) (fun w ty1 H locs hw_60 hP hD _ hS => ?_)
  rcases hw_60 with ⟨f2_60, hu⟩
  cases hu
  have hP : va_P (dC, dI) vwCl [(ta, .inr (7, [.ref tb, .int (nI (j + 3))])), (tb, .inl (cB, 9000, .inl f2_60))] H := hP
  have hD : va_D A [(ta, .inr (7, [.ref tb, .int (nI (j + 3))])), (tb, .inl (cB, 9000, .inl f2_60))] := hD
  refine lv_aload_n hx hb dX9_writeCell_63 rfl (lv_at hl 2 rfl) ?_
  refine lv_iload_n hx hb dX9_writeCell_64 rfl (lv_at hl 3 rfl) ?_
  refine lv_iconst (v := 3) hx hb dX9_writeCell_65 (by decide) ?_
  refine lv_iadd hx hb dX9_writeCell_66 ?_
  refine g_topi (y := nI (j + 3)) (nI_add j 3) ?_
  refine lv_iload_n hx hb dX9_writeCell_67 rfl (lv_at hl 4 rfl) ?_
  refine lv_sipush (v := 255) hx hb dX9_writeCell_68 (by decide) ?_
  refine lv_iand hx hb dX9_writeCell_71 ?_
  refine lv_topi (fun u71 eu71 => ?_)
  refine g_callv (wr := []) (va_runV (As := [.int (nI (j + 3)), .int u71]) (rest := []) ⟨hx, hb, hml, hown, hts⟩ (c_putx l dC dI H.size ta tb cB f2_60 (j + 3) (j + 3) u71 (j + 4) (by omega) (by omega) (by omega)) (cwV 2 hts (gG_V kw_474 kw_243 kw_244 kw_18 kw_245) rfl rfl rfl (by decide +kernel) ⟨Nat.le_of_ble_eq_true rfl, Nat.le_of_ble_eq_true rfl⟩) (g_preV (C := RX7) (T := TX7) (N := 2) hP hD hK hS hA hN hZ (q0 := 0) rfl rfl [0, 1] (by decide) rfl [0] rfl) rfl rfl hl.1 rfl (lv_room (Nat.le_of_ble_eq_true rfl)) dX9_writeCell_72 ⟨Nat.le_of_ble_eq_true rfl, Nat.le_of_ble_eq_true rfl⟩) hP hD hK hS hA [0, 1] [] rfl rfl (by decide) (by decide) (fun w ty1 H locs hw_72 hP hD _ hS => ?_)
  rcases hw_72 with ⟨f2_72, hu⟩
  cases hu
  have hP : va_P (dC, dI) vwCl [(ta, .inr (7, [.ref tb, .int (nI (j + 4))])), (tb, .inl (cB, 9000, .inl f2_72))] H := hP
  have hD : va_D A [(ta, .inr (7, [.ref tb, .int (nI (j + 4))])), (tb, .inl (cB, 9000, .inl f2_72))] := hD
  have hP9 := hP.sub (ws' := [(ta, .inr (7, [.ref tb, .int (nI (j + 4))])), (tb, .inl (cB, 9000, .inl f2_72))]) [0, 1] rfl
  have hD9 := hD.sub (ws' := [(ta, .inr (7, [.ref tb, .int (nI (j + 4))])), (tb, .inl (cB, 9000, .inl f2_72))]) [0, 1] (by decide) rfl
  have hK9 := hK.sub (tys' := []) [] rfl
  exact W.vret hx hb hr (fun t ht hW => ⟨⟨([(ta, .inr (7, [.ref tb, .int (nI (j + 4))])), (tb, .inl (cB, 9000, .inl f2_72))], []), rfl, ⟨f2_72, rfl⟩, by rw [ht]; exact hP9, va_K.moved hW.alike hK9, hD9⟩, hS.F ht⟩) hS.2.2 dX9_writeCell_75

set_option maxHeartbeats 400000 in
set_option maxRecDepth 100000 in
/-- writePattern at the end -/
theorem c_writePattern (l : Launch) (dC : Nat → ClassId) (dI : Nat → Nat → Nat) (sz : Nat) (ta tb aS ce pl : Nat) (cB cI : ClassId) (f fc : Nat → Int32) (x2 x3 : Int32) (a L : Nat) (ha : a < 8) (hL : L = 1084 + 1024 * a) (hL9 : L + 1024 ≤ 9000) : Met l yX9_writePattern (wsG (.code yX9_writePattern cX9_writePattern 6 none)) ({ frames := 3, cells := 0, slots := 0, locals := 68 }) (va_Pc [.ref ta, .ref aS, .int (nI a)] (gP (dC, dI) [(cB, .byte), (cI, .int)] [(ta, .inr (7, [.ref tb, .int (nI L)])), (tb, .inl (cB, 9000, .inl f)), (aS, .inr (6, [.ref ce, .ref pl, .int x2, .int x3])), (ce, .inl (cI, 2048, .inl fc))] sz)) (va_Qv (fun u : va_W × gT => ∃ (f2 : Nat → Int32), u = ([(ta, .inr (7, [.ref tb, .int (nI (L + 1024))])), (tb, .inl (cB, 9000, .inl f2)), (aS, .inr (6, [.ref ce, .ref pl, .int x2, .int x3])), (ce, .inl (cI, 2048, .inl fc))], [])) (gB (dC, dI) (va_A [(ta, .inr (7, [.ref tb, .int (nI L)])), (tb, .inl (cB, 9000, .inl f)), (aS, .inr (6, [.ref ce, .ref pl, .int x2, .int x3])), (ce, .inl (cI, 2048, .inl fc))] sz)) (va_A [(ta, .inr (7, [.ref tb, .int (nI L)])), (tb, .inl (cB, 9000, .inl f)), (aS, .inr (6, [.ref ce, .ref pl, .int x2, .int x3])), (ce, .inl (cI, 2048, .inl fc))] sz)) 0 0 (va_A [(ta, .inr (7, [.ref tb, .int (nI L)])), (tb, .inl (cB, 9000, .inl f)), (aS, .inr (6, [.ref ce, .ref pl, .int x2, .int x3])), (ce, .inl (cI, 2048, .inl fc))] sz) := by
  refine Met.ofW (cc := cX9_writePattern) (maxL := 6) (ret := none) (by decide) rfl ?_
  intro p e s m args below meth c s₁ B hml hv
  obtain ⟨rfl, hsz, hP, hK, hD0, hN, hZ⟩ := hv
  have hx := B.exec
  have hb := B.bytes
  have hr := B.returns
  have hts := atoms_spec (ws := (wsG (.code yX9_writePattern cX9_writePattern 6 none))) B.pre
  have hown : s.vm.findClass RX9 = some m.cls := findClass_of_methodNamed B.named
  have hlocks := B.notSynchronized
  subst hsz
  have hD := hD0.self (sz := s.heap.size)
  generalize hAe : va_A [(ta, .inr (7, [.ref tb, .int (nI L)])), (tb, .inl (cB, 9000, .inl f)), (aS, .inr (6, [.ref ce, .ref pl, .int x2, .int x3])), (ce, .inl (cI, 2048, .inl fc))] s.heap.size = A at hD hZ ⊢
  have hA : ∀ q : Nat, s.heap.size ≤ q → A q := fun q h => by rw [← hAe]; exact Or.inr h
  have hl := lv_entry ([.ref ta, .ref aS, .int (nI a)]) (n := 6) (Nat.le_of_ble_eq_true rfl)
  rw [lg_entry_eq]
  generalize (lg_sl ([.ref ta, .ref aS, .int (nI a)]) ++ List.replicate (6 - (lg_sl ([.ref ta, .ref aS, .int (nI a)])).length) Slot.unset).toArray = ls at hl ⊢
  have hl : lv_has ls 6 [(0, .ref ta), (1, .ref aS), (2, .int (nI a))] := hl
  refine g_start (A := A) hP (fun H locs hP hS => ?_)
  refine lv_iconst (v := 0) hx hb dX9_writePattern_0 (by decide) ?_
  refine lv_istore_n (lv' := [(3, .int 0), (0, .ref ta), (1, .ref aS), (2, .int (nI a))]) hx hb dX9_writePattern_1 rfl hl (by decide) rfl (fun ls hl => ?_)
  have LP2 : ∀ (fu2 : Nat) (r : Nat) (g0 : Nat → Int32) (hr64 : r ≤ 64) (hm2 : 64 - r < fu2) (H : Heap) (locs : List Loc), va_P (dC, dI) vwCl [(ta, .inr (7, [.ref tb, .int (nI (L + 16 * r))])), (tb, .inl (cB, 9000, .inl g0)), (aS, .inr (6, [.ref ce, .ref pl, .int x2, .int x3])), (ce, .inl (cI, 2048, .inl fc))] H → va_D A [(ta, .inr (7, [.ref tb, .int (nI (L + 16 * r))])), (tb, .inl (cB, 9000, .inl g0)), (aS, .inr (6, [.ref ce, .ref pl, .int x2, .int x3])), (ce, .inl (cI, 2048, .inl fc))] → va_S A s.heap H locs → ∀ ls : Array Slot, lv_has ls 6 [(3, .int (nI r)), (0, .ref ta), (1, .ref aS), (2, .int (nI a))] → W p l e ({ frames := 3, cells := 0, slots := 0, locals := 68 }) s m ([.ref ta, .ref aS, .int (nI a)] : List Value).toArray below meth c H locs (0) (0) (MQ below (va_Qv (fun u : va_W × gT => ∃ (f2 : Nat → Int32), u = ([(ta, .inr (7, [.ref tb, .int (nI (L + 1024))])), (tb, .inl (cB, 9000, .inl f2)), (aS, .inr (6, [.ref ce, .ref pl, .int x2, .int x3])), (ce, .inl (cI, 2048, .inl fc))], [])) (gB (dC, dI) A) A) ([.ref ta, .ref aS, .int (nI a)] : List Value).toArray s 0 0 A) (F0 m 2 ls []) := by
    intro fu2
    induction fu2 with
    | zero => intro r g0 hr64 hm2; exact absurd hm2 (Nat.not_lt_zero _)
    | succ fu2 ih2 =>
      intro r g0 hr64 hm2 H locs hP hD hS ls hl
      refine lv_iload_n hx hb dX9_writePattern_2 rfl (lv_at hl 0 rfl) ?_
      refine lv_bipush (v := 64) hx hb dX9_writePattern_3 (by decide) ?_
      refine lv_icmp_ge (tgt := 52) hx hb dX9_writePattern_5 (by decide) (fun c_5 => ?_) (fun c_5 => ?_)
      · obtain rfl : r = 64 := by have := nI_le' (a := 64) c_5 (by decide) (by omega); omega
        have hP9 := hP.sub (ws' := [(ta, .inr (7, [.ref tb, .int (nI (L + 16 * 64))])), (tb, .inl (cB, 9000, .inl g0)), (aS, .inr (6, [.ref ce, .ref pl, .int x2, .int x3])), (ce, .inl (cI, 2048, .inl fc))]) [0, 1, 2, 3] rfl
        have hD9 := hD.sub (ws' := [(ta, .inr (7, [.ref tb, .int (nI (L + 16 * 64))])), (tb, .inl (cB, 9000, .inl g0)), (aS, .inr (6, [.ref ce, .ref pl, .int x2, .int x3])), (ce, .inl (cI, 2048, .inl fc))]) [0, 1, 2, 3] (by decide) rfl
        have hK9 := hK.sub (tys' := []) [] rfl
        exact W.vret hx hb hr (fun t ht hW => ⟨⟨([(ta, .inr (7, [.ref tb, .int (nI (L + 16 * 64))])), (tb, .inl (cB, 9000, .inl g0)), (aS, .inr (6, [.ref ce, .ref pl, .int x2, .int x3])), (ce, .inl (cI, 2048, .inl fc))], []), rfl, ⟨g0, rfl⟩, by rw [ht]; exact hP9, va_K.moved hW.alike hK9, hD9⟩, hS.F ht⟩) hS.2.2 dX9_writePattern_52
      have hr3 : r < 64 := by have := nI_nle' (a := 64) c_5 (by omega); omega
      refine lv_iconst (v := 0) hx hb dX9_writePattern_8 (by decide) ?_
      refine lv_istore (lv' := [(4, .int 0), (3, .int (nI r)), (0, .ref ta), (1, .ref aS), (2, .int (nI a))]) hx hb dX9_writePattern_9 hl (by decide) rfl (fun ls hl => ?_)
      refine lv_iload hx hb dX9_writePattern_11 (lv_at hl 0 rfl) ?_
      refine lv_iconst (v := 4) hx hb dX9_writePattern_13 (by decide) ?_
      refine lv_icmp_ge (tgt := 46) hx hb dX9_writePattern_14 (by decide) (fun c_14 => absurd c_14 (by decide)) (fun c_14 => ?_)
      refine lv_iload_n hx hb dX9_writePattern_17 rfl (lv_at hl 4 rfl) ?_
      refine lv_iload_n hx hb dX9_writePattern_18 rfl (lv_at hl 1 rfl) ?_
      refine lv_iload hx hb dX9_writePattern_19 (lv_at hl 0 rfl) ?_
      refine g_calli (wr := [(ta, .inr (7, [.ref tb, .int (nI (L + 16 * r))])), (tb, .inl (cB, 9000, .inl g0)), (aS, .inr (6, [.ref ce, .ref pl, .int x2, .int x3])), (ce, .inl (cI, 2048, .inl fc))]) (va_runS (As := [.int (nI a), .int (nI r), .int 0]) (rest := []) ⟨hx, hb, hml, hown, hts⟩ (c_cellAt l dC dI H.size a r 0 ) (va_cwS 3 hts (gG_S kw_480 kw_355 kw_30 kw_356) rfl rfl rfl (by decide +kernel) ⟨Nat.le_of_ble_eq_true rfl, Nat.le_of_ble_eq_true rfl⟩) (g_preS hP hD hK hS hA hN hZ [] (by decide) rfl [] rfl) rfl rfl hl.1 rfl (lv_room (Nat.le_of_ble_eq_true rfl)) dX9_writePattern_21 ⟨Nat.le_of_ble_eq_true rfl, Nat.le_of_ble_eq_true rfl⟩) hP hD hK hS hA [] [0, 1, 2, 3] rfl rfl (by decide) (by decide) (fun r_21 w ty1 H locs hw_21 hP hD _ hS => ?_)
      rcases hw_21 with ⟨hu, hr_21⟩
      cases hu
      have hP : va_P (dC, dI) vwCl [(ta, .inr (7, [.ref tb, .int (nI (L + 16 * r))])), (tb, .inl (cB, 9000, .inl g0)), (aS, .inr (6, [.ref ce, .ref pl, .int x2, .int x3])), (ce, .inl (cI, 2048, .inl fc))] H := hP
      have hD : va_D A [(ta, .inr (7, [.ref tb, .int (nI (L + 16 * r))])), (tb, .inl (cB, 9000, .inl g0)), (aS, .inr (6, [.ref ce, .ref pl, .int x2, .int x3])), (ce, .inl (cI, 2048, .inl fc))] := hD
      refine g_topi (y := nI (1084 + 1024 * a + (r * 4 + 0) * 4)) hr_21 ?_
      refine g_topi (y := nI (L + 16 * r)) (congrArg nI (by omega)) ?_
      refine lv_istore (lv' := [(5, .int (nI (L + 16 * r))), (4, .int 0), (3, .int (nI r)), (0, .ref ta), (1, .ref aS), (2, .int (nI a))]) hx hb dX9_writePattern_24 hl (by decide) rfl (fun ls hl => ?_)
      refine lv_aload_n hx hb dX9_writePattern_26 rfl (lv_at hl 3 rfl) ?_
      refine lv_iload hx hb dX9_writePattern_27 (lv_at hl 0 rfl) ?_
      refine lv_aload_n hx hb dX9_writePattern_29 rfl (lv_at hl 4 rfl) ?_
      refine lv_iload_n hx hb dX9_writePattern_30 rfl (lv_at hl 5 rfl) ?_
      refine lv_iload_n hx hb dX9_writePattern_31 rfl (lv_at hl 2 rfl) ?_
      refine lv_iload hx hb dX9_writePattern_32 (lv_at hl 1 rfl) ?_
      refine g_calli (wr := [(ta, .inr (7, [.ref tb, .int (nI (L + 16 * r))])), (tb, .inl (cB, 9000, .inl g0))]) (va_runV (As := [.int (nI a), .int (nI r), .int 0]) (rest := [.int (nI (L + 16 * r)), .ref ta]) ⟨hx, hb, hml, hown, hts⟩ (c_getCell l dC dI H.size aS ce pl x2 x3 cI fc a r 0 (ha) (hr3) (by decide)) (cwV 3 hts (gG_V kw_481 kw_482 kw_483 kw_26 kw_484) rfl rfl rfl (by decide +kernel) ⟨Nat.le_of_ble_eq_true rfl, Nat.le_of_ble_eq_true rfl⟩) (g_preV (C := RX6) (T := TX6) (N := 4) hP hD hK hS hA hN hZ (q0 := 2) rfl rfl [2, 3] (by decide) rfl [1] rfl) rfl rfl hl.1 rfl (lv_room (Nat.le_of_ble_eq_true rfl)) dX9_writePattern_34 ⟨Nat.le_of_ble_eq_true rfl, Nat.le_of_ble_eq_true rfl⟩) hP hD hK hS hA [2, 3] [0, 1] rfl rfl (by decide) (by decide) (fun r_34 w ty1 H locs hw_34 hP hD _ hS => ?_)
      rcases hw_34 with ⟨hu, hr_34⟩
      cases hu
      have hP : va_P (dC, dI) vwCl [(ta, .inr (7, [.ref tb, .int (nI (L + 16 * r))])), (tb, .inl (cB, 9000, .inl g0)), (aS, .inr (6, [.ref ce, .ref pl, .int x2, .int x3])), (ce, .inl (cI, 2048, .inl fc))] H := hP
      have hD : va_D A [(ta, .inr (7, [.ref tb, .int (nI (L + 16 * r))])), (tb, .inl (cB, 9000, .inl g0)), (aS, .inr (6, [.ref ce, .ref pl, .int x2, .int x3])), (ce, .inl (cI, 2048, .inl fc))] := hD
      refine g_topi (y := fc ((a * 64 + r) * 4 + 0)) hr_34 ?_
      refine g_callv (wr := [(aS, .inr (6, [.ref ce, .ref pl, .int x2, .int x3])), (ce, .inl (cI, 2048, .inl fc))]) (va_runS (As := [.ref ta, .int (nI (L + 16 * r)), .int (fc ((a * 64 + r) * 4 + 0))]) (rest := []) ⟨hx, hb, hml, hown, hts⟩ (c_writeCell l dC dI H.size ta tb cB g0 (L + 16 * r) (fc ((a * 64 + r) * 4 + 0)) (by omega)) (va_cwS 3 hts (gG_S kw_485 kw_486 kw_469 kw_487) rfl rfl rfl (by decide +kernel) ⟨Nat.le_of_ble_eq_true rfl, Nat.le_of_ble_eq_true rfl⟩) (g_preS hP hD hK hS hA hN hZ [0, 1] (by decide) rfl [0] rfl) rfl rfl hl.1 rfl (lv_room (Nat.le_of_ble_eq_true rfl)) dX9_writePattern_37 ⟨Nat.le_of_ble_eq_true rfl, Nat.le_of_ble_eq_true rfl⟩) hP hD hK hS hA [0, 1] [2, 3] rfl rfl (by decide) (by decide) (fun w ty1 H locs hw_37 hP hD _ hS => ?_)
      rcases hw_37 with ⟨f2_37, hu⟩
      cases hu
      have hP : va_P (dC, dI) vwCl [(aS, .inr (6, [.ref ce, .ref pl, .int x2, .int x3])), (ce, .inl (cI, 2048, .inl fc)), (ta, .inr (7, [.ref tb, .int (nI ((L + 16 * r) + 4))])), (tb, .inl (cB, 9000, .inl f2_37))] H := hP
      have hD : va_D A [(aS, .inr (6, [.ref ce, .ref pl, .int x2, .int x3])), (ce, .inl (cI, 2048, .inl fc)), (ta, .inr (7, [.ref tb, .int (nI ((L + 16 * r) + 4))])), (tb, .inl (cB, 9000, .inl f2_37))] := hD
      refine lv_iinc (v := 1) (lv' := [(4, .int 1), (5, .int (nI (L + 16 * r))), (3, .int (nI r)), (0, .ref ta), (1, .ref aS), (2, .int (nI a))]) hx hb dX9_writePattern_40 hl (k := 1) rfl (by decide) (by decide) rfl (fun ls hl => ?_)
      refine lv_goto (tgt := 11) hx hb dX9_writePattern_43 (by decide) ?_
      refine lv_iload hx hb dX9_writePattern_11 (lv_at hl 0 rfl) ?_
      refine lv_iconst (v := 4) hx hb dX9_writePattern_13 (by decide) ?_
      refine lv_icmp_ge (tgt := 46) hx hb dX9_writePattern_14 (by decide) (fun c_14_2 => absurd c_14_2 (by decide)) (fun c_14_2 => ?_)
      refine lv_iload_n hx hb dX9_writePattern_17 rfl (lv_at hl 5 rfl) ?_
      refine lv_iload_n hx hb dX9_writePattern_18 rfl (lv_at hl 2 rfl) ?_
      refine lv_iload hx hb dX9_writePattern_19 (lv_at hl 0 rfl) ?_
      refine g_calli (wr := [(aS, .inr (6, [.ref ce, .ref pl, .int x2, .int x3])), (ce, .inl (cI, 2048, .inl fc)), (ta, .inr (7, [.ref tb, .int (nI ((L + 16 * r) + 4))])), (tb, .inl (cB, 9000, .inl f2_37))]) (va_runS (As := [.int (nI a), .int (nI r), .int 1]) (rest := []) ⟨hx, hb, hml, hown, hts⟩ (c_cellAt l dC dI H.size a r 1 ) (va_cwS 3 hts (gG_S kw_480 kw_355 kw_30 kw_356) rfl rfl rfl (by decide +kernel) ⟨Nat.le_of_ble_eq_true rfl, Nat.le_of_ble_eq_true rfl⟩) (g_preS hP hD hK hS hA hN hZ [] (by decide) rfl [] rfl) rfl rfl hl.1 rfl (lv_room (Nat.le_of_ble_eq_true rfl)) dX9_writePattern_21 ⟨Nat.le_of_ble_eq_true rfl, Nat.le_of_ble_eq_true rfl⟩) hP hD hK hS hA [] [0, 1, 2, 3] rfl rfl (by decide) (by decide) (fun r_21_2 w ty1 H locs hw_21 hP hD _ hS => ?_)
      rcases hw_21 with ⟨hu, hr_21⟩
      cases hu
      have hP : va_P (dC, dI) vwCl [(aS, .inr (6, [.ref ce, .ref pl, .int x2, .int x3])), (ce, .inl (cI, 2048, .inl fc)), (ta, .inr (7, [.ref tb, .int (nI ((L + 16 * r) + 4))])), (tb, .inl (cB, 9000, .inl f2_37))] H := hP
      have hD : va_D A [(aS, .inr (6, [.ref ce, .ref pl, .int x2, .int x3])), (ce, .inl (cI, 2048, .inl fc)), (ta, .inr (7, [.ref tb, .int (nI ((L + 16 * r) + 4))])), (tb, .inl (cB, 9000, .inl f2_37))] := hD
      refine g_topi (y := nI (1084 + 1024 * a + (r * 4 + 1) * 4)) hr_21 ?_
      refine g_topi (y := nI ((L + 16 * r) + 4)) (congrArg nI (by omega)) ?_
      refine lv_istore (lv' := [(5, .int (nI ((L + 16 * r) + 4))), (4, .int 1), (3, .int (nI r)), (0, .ref ta), (1, .ref aS), (2, .int (nI a))]) hx hb dX9_writePattern_24 hl (by decide) rfl (fun ls hl => ?_)
      refine lv_aload_n hx hb dX9_writePattern_26 rfl (lv_at hl 3 rfl) ?_
      refine lv_iload hx hb dX9_writePattern_27 (lv_at hl 0 rfl) ?_
      refine lv_aload_n hx hb dX9_writePattern_29 rfl (lv_at hl 4 rfl) ?_
      refine lv_iload_n hx hb dX9_writePattern_30 rfl (lv_at hl 5 rfl) ?_
      refine lv_iload_n hx hb dX9_writePattern_31 rfl (lv_at hl 2 rfl) ?_
      refine lv_iload hx hb dX9_writePattern_32 (lv_at hl 1 rfl) ?_
      refine g_calli (wr := [(ta, .inr (7, [.ref tb, .int (nI ((L + 16 * r) + 4))])), (tb, .inl (cB, 9000, .inl f2_37))]) (va_runV (As := [.int (nI a), .int (nI r), .int 1]) (rest := [.int (nI ((L + 16 * r) + 4)), .ref ta]) ⟨hx, hb, hml, hown, hts⟩ (c_getCell l dC dI H.size aS ce pl x2 x3 cI fc a r 1 (ha) (hr3) (by decide)) (cwV 3 hts (gG_V kw_481 kw_482 kw_483 kw_26 kw_484) rfl rfl rfl (by decide +kernel) ⟨Nat.le_of_ble_eq_true rfl, Nat.le_of_ble_eq_true rfl⟩) (g_preV (C := RX6) (T := TX6) (N := 4) hP hD hK hS hA hN hZ (q0 := 0) rfl rfl [0, 1] (by decide) rfl [1] rfl) rfl rfl hl.1 rfl (lv_room (Nat.le_of_ble_eq_true rfl)) dX9_writePattern_34 ⟨Nat.le_of_ble_eq_true rfl, Nat.le_of_ble_eq_true rfl⟩) hP hD hK hS hA [0, 1] [2, 3] rfl rfl (by decide) (by decide) (fun r_34_2 w ty1 H locs hw_34 hP hD _ hS => ?_)
      rcases hw_34 with ⟨hu, hr_34⟩
      cases hu
      have hP : va_P (dC, dI) vwCl [(ta, .inr (7, [.ref tb, .int (nI ((L + 16 * r) + 4))])), (tb, .inl (cB, 9000, .inl f2_37)), (aS, .inr (6, [.ref ce, .ref pl, .int x2, .int x3])), (ce, .inl (cI, 2048, .inl fc))] H := hP
      have hD : va_D A [(ta, .inr (7, [.ref tb, .int (nI ((L + 16 * r) + 4))])), (tb, .inl (cB, 9000, .inl f2_37)), (aS, .inr (6, [.ref ce, .ref pl, .int x2, .int x3])), (ce, .inl (cI, 2048, .inl fc))] := hD
      refine g_topi (y := fc ((a * 64 + r) * 4 + 1)) hr_34 ?_
      refine g_callv (wr := [(aS, .inr (6, [.ref ce, .ref pl, .int x2, .int x3])), (ce, .inl (cI, 2048, .inl fc))]) (va_runS (As := [.ref ta, .int (nI ((L + 16 * r) + 4)), .int (fc ((a * 64 + r) * 4 + 1))]) (rest := []) ⟨hx, hb, hml, hown, hts⟩ (c_writeCell l dC dI H.size ta tb cB f2_37 ((L + 16 * r) + 4) (fc ((a * 64 + r) * 4 + 1)) (by omega)) (va_cwS 3 hts (gG_S kw_485 kw_486 kw_469 kw_487) rfl rfl rfl (by decide +kernel) ⟨Nat.le_of_ble_eq_true rfl, Nat.le_of_ble_eq_true rfl⟩) (g_preS hP hD hK hS hA hN hZ [0, 1] (by decide) rfl [0] rfl) rfl rfl hl.1 rfl (lv_room (Nat.le_of_ble_eq_true rfl)) dX9_writePattern_37 ⟨Nat.le_of_ble_eq_true rfl, Nat.le_of_ble_eq_true rfl⟩) hP hD hK hS hA [0, 1] [2, 3] rfl rfl (by decide) (by decide) (fun w ty1 H locs hw_37 hP hD _ hS => ?_)
      rcases hw_37 with ⟨f2_37_2, hu⟩
      cases hu
      have hP : va_P (dC, dI) vwCl [(aS, .inr (6, [.ref ce, .ref pl, .int x2, .int x3])), (ce, .inl (cI, 2048, .inl fc)), (ta, .inr (7, [.ref tb, .int (nI (((L + 16 * r) + 4) + 4))])), (tb, .inl (cB, 9000, .inl f2_37_2))] H := hP
      have hD : va_D A [(aS, .inr (6, [.ref ce, .ref pl, .int x2, .int x3])), (ce, .inl (cI, 2048, .inl fc)), (ta, .inr (7, [.ref tb, .int (nI (((L + 16 * r) + 4) + 4))])), (tb, .inl (cB, 9000, .inl f2_37_2))] := hD
      refine lv_iinc (v := 2) (lv' := [(4, .int 2), (5, .int (nI ((L + 16 * r) + 4))), (3, .int (nI r)), (0, .ref ta), (1, .ref aS), (2, .int (nI a))]) hx hb dX9_writePattern_40 hl (k := 1) rfl (by decide) (by decide) rfl (fun ls hl => ?_)
      refine lv_goto (tgt := 11) hx hb dX9_writePattern_43 (by decide) ?_
      refine lv_iload hx hb dX9_writePattern_11 (lv_at hl 0 rfl) ?_
      refine lv_iconst (v := 4) hx hb dX9_writePattern_13 (by decide) ?_
      refine lv_icmp_ge (tgt := 46) hx hb dX9_writePattern_14 (by decide) (fun c_14_3 => absurd c_14_3 (by decide)) (fun c_14_3 => ?_)
      refine lv_iload_n hx hb dX9_writePattern_17 rfl (lv_at hl 5 rfl) ?_
      refine lv_iload_n hx hb dX9_writePattern_18 rfl (lv_at hl 2 rfl) ?_
      refine lv_iload hx hb dX9_writePattern_19 (lv_at hl 0 rfl) ?_
      refine g_calli (wr := [(aS, .inr (6, [.ref ce, .ref pl, .int x2, .int x3])), (ce, .inl (cI, 2048, .inl fc)), (ta, .inr (7, [.ref tb, .int (nI (((L + 16 * r) + 4) + 4))])), (tb, .inl (cB, 9000, .inl f2_37_2))]) (va_runS (As := [.int (nI a), .int (nI r), .int 2]) (rest := []) ⟨hx, hb, hml, hown, hts⟩ (c_cellAt l dC dI H.size a r 2 ) (va_cwS 3 hts (gG_S kw_480 kw_355 kw_30 kw_356) rfl rfl rfl (by decide +kernel) ⟨Nat.le_of_ble_eq_true rfl, Nat.le_of_ble_eq_true rfl⟩) (g_preS hP hD hK hS hA hN hZ [] (by decide) rfl [] rfl) rfl rfl hl.1 rfl (lv_room (Nat.le_of_ble_eq_true rfl)) dX9_writePattern_21 ⟨Nat.le_of_ble_eq_true rfl, Nat.le_of_ble_eq_true rfl⟩) hP hD hK hS hA [] [0, 1, 2, 3] rfl rfl (by decide) (by decide) (fun r_21_3 w ty1 H locs hw_21 hP hD _ hS => ?_)
      rcases hw_21 with ⟨hu, hr_21⟩
      cases hu
      have hP : va_P (dC, dI) vwCl [(aS, .inr (6, [.ref ce, .ref pl, .int x2, .int x3])), (ce, .inl (cI, 2048, .inl fc)), (ta, .inr (7, [.ref tb, .int (nI (((L + 16 * r) + 4) + 4))])), (tb, .inl (cB, 9000, .inl f2_37_2))] H := hP
      have hD : va_D A [(aS, .inr (6, [.ref ce, .ref pl, .int x2, .int x3])), (ce, .inl (cI, 2048, .inl fc)), (ta, .inr (7, [.ref tb, .int (nI (((L + 16 * r) + 4) + 4))])), (tb, .inl (cB, 9000, .inl f2_37_2))] := hD
      refine g_topi (y := nI (1084 + 1024 * a + (r * 4 + 2) * 4)) hr_21 ?_
      refine g_topi (y := nI (((L + 16 * r) + 4) + 4)) (congrArg nI (by omega)) ?_
      refine lv_istore (lv' := [(5, .int (nI (((L + 16 * r) + 4) + 4))), (4, .int 2), (3, .int (nI r)), (0, .ref ta), (1, .ref aS), (2, .int (nI a))]) hx hb dX9_writePattern_24 hl (by decide) rfl (fun ls hl => ?_)
      refine lv_aload_n hx hb dX9_writePattern_26 rfl (lv_at hl 3 rfl) ?_
      refine lv_iload hx hb dX9_writePattern_27 (lv_at hl 0 rfl) ?_
      refine lv_aload_n hx hb dX9_writePattern_29 rfl (lv_at hl 4 rfl) ?_
      refine lv_iload_n hx hb dX9_writePattern_30 rfl (lv_at hl 5 rfl) ?_
      refine lv_iload_n hx hb dX9_writePattern_31 rfl (lv_at hl 2 rfl) ?_
      refine lv_iload hx hb dX9_writePattern_32 (lv_at hl 1 rfl) ?_
      refine g_calli (wr := [(ta, .inr (7, [.ref tb, .int (nI (((L + 16 * r) + 4) + 4))])), (tb, .inl (cB, 9000, .inl f2_37_2))]) (va_runV (As := [.int (nI a), .int (nI r), .int 2]) (rest := [.int (nI (((L + 16 * r) + 4) + 4)), .ref ta]) ⟨hx, hb, hml, hown, hts⟩ (c_getCell l dC dI H.size aS ce pl x2 x3 cI fc a r 2 (ha) (hr3) (by decide)) (cwV 3 hts (gG_V kw_481 kw_482 kw_483 kw_26 kw_484) rfl rfl rfl (by decide +kernel) ⟨Nat.le_of_ble_eq_true rfl, Nat.le_of_ble_eq_true rfl⟩) (g_preV (C := RX6) (T := TX6) (N := 4) hP hD hK hS hA hN hZ (q0 := 0) rfl rfl [0, 1] (by decide) rfl [1] rfl) rfl rfl hl.1 rfl (lv_room (Nat.le_of_ble_eq_true rfl)) dX9_writePattern_34 ⟨Nat.le_of_ble_eq_true rfl, Nat.le_of_ble_eq_true rfl⟩) hP hD hK hS hA [0, 1] [2, 3] rfl rfl (by decide) (by decide) (fun r_34_3 w ty1 H locs hw_34 hP hD _ hS => ?_)
      rcases hw_34 with ⟨hu, hr_34⟩
      cases hu
      have hP : va_P (dC, dI) vwCl [(ta, .inr (7, [.ref tb, .int (nI (((L + 16 * r) + 4) + 4))])), (tb, .inl (cB, 9000, .inl f2_37_2)), (aS, .inr (6, [.ref ce, .ref pl, .int x2, .int x3])), (ce, .inl (cI, 2048, .inl fc))] H := hP
      have hD : va_D A [(ta, .inr (7, [.ref tb, .int (nI (((L + 16 * r) + 4) + 4))])), (tb, .inl (cB, 9000, .inl f2_37_2)), (aS, .inr (6, [.ref ce, .ref pl, .int x2, .int x3])), (ce, .inl (cI, 2048, .inl fc))] := hD
      refine g_topi (y := fc ((a * 64 + r) * 4 + 2)) hr_34 ?_
      refine g_callv (wr := [(aS, .inr (6, [.ref ce, .ref pl, .int x2, .int x3])), (ce, .inl (cI, 2048, .inl fc))]) (va_runS (As := [.ref ta, .int (nI (((L + 16 * r) + 4) + 4)), .int (fc ((a * 64 + r) * 4 + 2))]) (rest := []) ⟨hx, hb, hml, hown, hts⟩ (c_writeCell l dC dI H.size ta tb cB f2_37_2 (((L + 16 * r) + 4) + 4) (fc ((a * 64 + r) * 4 + 2)) (by omega)) (va_cwS 3 hts (gG_S kw_485 kw_486 kw_469 kw_487) rfl rfl rfl (by decide +kernel) ⟨Nat.le_of_ble_eq_true rfl, Nat.le_of_ble_eq_true rfl⟩) (g_preS hP hD hK hS hA hN hZ [0, 1] (by decide) rfl [0] rfl) rfl rfl hl.1 rfl (lv_room (Nat.le_of_ble_eq_true rfl)) dX9_writePattern_37 ⟨Nat.le_of_ble_eq_true rfl, Nat.le_of_ble_eq_true rfl⟩) hP hD hK hS hA [0, 1] [2, 3] rfl rfl (by decide) (by decide) (fun w ty1 H locs hw_37 hP hD _ hS => ?_)
      rcases hw_37 with ⟨f2_37_3, hu⟩
      cases hu
      have hP : va_P (dC, dI) vwCl [(aS, .inr (6, [.ref ce, .ref pl, .int x2, .int x3])), (ce, .inl (cI, 2048, .inl fc)), (ta, .inr (7, [.ref tb, .int (nI ((((L + 16 * r) + 4) + 4) + 4))])), (tb, .inl (cB, 9000, .inl f2_37_3))] H := hP
      have hD : va_D A [(aS, .inr (6, [.ref ce, .ref pl, .int x2, .int x3])), (ce, .inl (cI, 2048, .inl fc)), (ta, .inr (7, [.ref tb, .int (nI ((((L + 16 * r) + 4) + 4) + 4))])), (tb, .inl (cB, 9000, .inl f2_37_3))] := hD
      refine lv_iinc (v := 3) (lv' := [(4, .int 3), (5, .int (nI (((L + 16 * r) + 4) + 4))), (3, .int (nI r)), (0, .ref ta), (1, .ref aS), (2, .int (nI a))]) hx hb dX9_writePattern_40 hl (k := 1) rfl (by decide) (by decide) rfl (fun ls hl => ?_)
      refine lv_goto (tgt := 11) hx hb dX9_writePattern_43 (by decide) ?_
      refine lv_iload hx hb dX9_writePattern_11 (lv_at hl 0 rfl) ?_
      refine lv_iconst (v := 4) hx hb dX9_writePattern_13 (by decide) ?_
      refine lv_icmp_ge (tgt := 46) hx hb dX9_writePattern_14 (by decide) (fun c_14_4 => absurd c_14_4 (by decide)) (fun c_14_4 => ?_)
      refine lv_iload_n hx hb dX9_writePattern_17 rfl (lv_at hl 5 rfl) ?_
      refine lv_iload_n hx hb dX9_writePattern_18 rfl (lv_at hl 2 rfl) ?_
      refine lv_iload hx hb dX9_writePattern_19 (lv_at hl 0 rfl) ?_
      refine g_calli (wr := [(aS, .inr (6, [.ref ce, .ref pl, .int x2, .int x3])), (ce, .inl (cI, 2048, .inl fc)), (ta, .inr (7, [.ref tb, .int (nI ((((L + 16 * r) + 4) + 4) + 4))])), (tb, .inl (cB, 9000, .inl f2_37_3))]) (va_runS (As := [.int (nI a), .int (nI r), .int 3]) (rest := []) ⟨hx, hb, hml, hown, hts⟩ (c_cellAt l dC dI H.size a r 3 ) (va_cwS 3 hts (gG_S kw_480 kw_355 kw_30 kw_356) rfl rfl rfl (by decide +kernel) ⟨Nat.le_of_ble_eq_true rfl, Nat.le_of_ble_eq_true rfl⟩) (g_preS hP hD hK hS hA hN hZ [] (by decide) rfl [] rfl) rfl rfl hl.1 rfl (lv_room (Nat.le_of_ble_eq_true rfl)) dX9_writePattern_21 ⟨Nat.le_of_ble_eq_true rfl, Nat.le_of_ble_eq_true rfl⟩) hP hD hK hS hA [] [0, 1, 2, 3] rfl rfl (by decide) (by decide) (fun r_21_4 w ty1 H locs hw_21 hP hD _ hS => ?_)
      rcases hw_21 with ⟨hu, hr_21⟩
      cases hu
      have hP : va_P (dC, dI) vwCl [(aS, .inr (6, [.ref ce, .ref pl, .int x2, .int x3])), (ce, .inl (cI, 2048, .inl fc)), (ta, .inr (7, [.ref tb, .int (nI ((((L + 16 * r) + 4) + 4) + 4))])), (tb, .inl (cB, 9000, .inl f2_37_3))] H := hP
      have hD : va_D A [(aS, .inr (6, [.ref ce, .ref pl, .int x2, .int x3])), (ce, .inl (cI, 2048, .inl fc)), (ta, .inr (7, [.ref tb, .int (nI ((((L + 16 * r) + 4) + 4) + 4))])), (tb, .inl (cB, 9000, .inl f2_37_3))] := hD
      refine g_topi (y := nI (1084 + 1024 * a + (r * 4 + 3) * 4)) hr_21 ?_
      refine g_topi (y := nI ((((L + 16 * r) + 4) + 4) + 4)) (congrArg nI (by omega)) ?_
      refine lv_istore (lv' := [(5, .int (nI ((((L + 16 * r) + 4) + 4) + 4))), (4, .int 3), (3, .int (nI r)), (0, .ref ta), (1, .ref aS), (2, .int (nI a))]) hx hb dX9_writePattern_24 hl (by decide) rfl (fun ls hl => ?_)
      refine lv_aload_n hx hb dX9_writePattern_26 rfl (lv_at hl 3 rfl) ?_
      refine lv_iload hx hb dX9_writePattern_27 (lv_at hl 0 rfl) ?_
      refine lv_aload_n hx hb dX9_writePattern_29 rfl (lv_at hl 4 rfl) ?_
      refine lv_iload_n hx hb dX9_writePattern_30 rfl (lv_at hl 5 rfl) ?_
      refine lv_iload_n hx hb dX9_writePattern_31 rfl (lv_at hl 2 rfl) ?_
      refine lv_iload hx hb dX9_writePattern_32 (lv_at hl 1 rfl) ?_
      refine g_calli (wr := [(ta, .inr (7, [.ref tb, .int (nI ((((L + 16 * r) + 4) + 4) + 4))])), (tb, .inl (cB, 9000, .inl f2_37_3))]) (va_runV (As := [.int (nI a), .int (nI r), .int 3]) (rest := [.int (nI ((((L + 16 * r) + 4) + 4) + 4)), .ref ta]) ⟨hx, hb, hml, hown, hts⟩ (c_getCell l dC dI H.size aS ce pl x2 x3 cI fc a r 3 (ha) (hr3) (by decide)) (cwV 3 hts (gG_V kw_481 kw_482 kw_483 kw_26 kw_484) rfl rfl rfl (by decide +kernel) ⟨Nat.le_of_ble_eq_true rfl, Nat.le_of_ble_eq_true rfl⟩) (g_preV (C := RX6) (T := TX6) (N := 4) hP hD hK hS hA hN hZ (q0 := 0) rfl rfl [0, 1] (by decide) rfl [1] rfl) rfl rfl hl.1 rfl (lv_room (Nat.le_of_ble_eq_true rfl)) dX9_writePattern_34 ⟨Nat.le_of_ble_eq_true rfl, Nat.le_of_ble_eq_true rfl⟩) hP hD hK hS hA [0, 1] [2, 3] rfl rfl (by decide) (by decide) (fun r_34_4 w ty1 H locs hw_34 hP hD _ hS => ?_)
      rcases hw_34 with ⟨hu, hr_34⟩
      cases hu
      have hP : va_P (dC, dI) vwCl [(ta, .inr (7, [.ref tb, .int (nI ((((L + 16 * r) + 4) + 4) + 4))])), (tb, .inl (cB, 9000, .inl f2_37_3)), (aS, .inr (6, [.ref ce, .ref pl, .int x2, .int x3])), (ce, .inl (cI, 2048, .inl fc))] H := hP
      have hD : va_D A [(ta, .inr (7, [.ref tb, .int (nI ((((L + 16 * r) + 4) + 4) + 4))])), (tb, .inl (cB, 9000, .inl f2_37_3)), (aS, .inr (6, [.ref ce, .ref pl, .int x2, .int x3])), (ce, .inl (cI, 2048, .inl fc))] := hD
      refine g_topi (y := fc ((a * 64 + r) * 4 + 3)) hr_34 ?_
      refine g_callv (wr := [(aS, .inr (6, [.ref ce, .ref pl, .int x2, .int x3])), (ce, .inl (cI, 2048, .inl fc))]) (va_runS (As := [.ref ta, .int (nI ((((L + 16 * r) + 4) + 4) + 4)), .int (fc ((a * 64 + r) * 4 + 3))]) (rest := []) ⟨hx, hb, hml, hown, hts⟩ (c_writeCell l dC dI H.size ta tb cB f2_37_3 ((((L + 16 * r) + 4) + 4) + 4) (fc ((a * 64 + r) * 4 + 3)) (by omega)) (va_cwS 3 hts (gG_S kw_485 kw_486 kw_469 kw_487) rfl rfl rfl (by decide +kernel) ⟨Nat.le_of_ble_eq_true rfl, Nat.le_of_ble_eq_true rfl⟩) (g_preS hP hD hK hS hA hN hZ [0, 1] (by decide) rfl [0] rfl) rfl rfl hl.1 rfl (lv_room (Nat.le_of_ble_eq_true rfl)) dX9_writePattern_37 ⟨Nat.le_of_ble_eq_true rfl, Nat.le_of_ble_eq_true rfl⟩) hP hD hK hS hA [0, 1] [2, 3] rfl rfl (by decide) (by decide) (fun w ty1 H locs hw_37 hP hD _ hS => ?_)
      rcases hw_37 with ⟨f2_37_4, hu⟩
      cases hu
      have hP : va_P (dC, dI) vwCl [(aS, .inr (6, [.ref ce, .ref pl, .int x2, .int x3])), (ce, .inl (cI, 2048, .inl fc)), (ta, .inr (7, [.ref tb, .int (nI (((((L + 16 * r) + 4) + 4) + 4) + 4))])), (tb, .inl (cB, 9000, .inl f2_37_4))] H := hP
      have hD : va_D A [(aS, .inr (6, [.ref ce, .ref pl, .int x2, .int x3])), (ce, .inl (cI, 2048, .inl fc)), (ta, .inr (7, [.ref tb, .int (nI (((((L + 16 * r) + 4) + 4) + 4) + 4))])), (tb, .inl (cB, 9000, .inl f2_37_4))] := hD
      refine lv_iinc (v := 4) (lv' := [(4, .int 4), (5, .int (nI ((((L + 16 * r) + 4) + 4) + 4))), (3, .int (nI r)), (0, .ref ta), (1, .ref aS), (2, .int (nI a))]) hx hb dX9_writePattern_40 hl (k := 1) rfl (by decide) (by decide) rfl (fun ls hl => ?_)
      refine lv_goto (tgt := 11) hx hb dX9_writePattern_43 (by decide) ?_
      refine lv_iload hx hb dX9_writePattern_11 (lv_at hl 0 rfl) ?_
      refine lv_iconst (v := 4) hx hb dX9_writePattern_13 (by decide) ?_
      refine lv_icmp_ge (tgt := 46) hx hb dX9_writePattern_14 (by decide) (fun c_14_5 => ?_) (fun c_14_5 => absurd c_14_5 (by decide))
      refine lv_iinc (v := nI (r + 1)) (lv' := [(3, .int (nI (r + 1))), (4, .int 4), (5, .int (nI ((((L + 16 * r) + 4) + 4) + 4))), (0, .ref ta), (1, .ref aS), (2, .int (nI a))]) hx hb dX9_writePattern_46 hl (k := 2) rfl (nI_1 r) (by decide) rfl (fun ls hl => ?_)
      refine lv_goto (tgt := 2) hx hb dX9_writePattern_49 (by decide) ?_
      rw [show (((((L + 16 * r) + 4) + 4) + 4) + 4) = L + 16 * (r + 1) by omega] at hP hD
      exact ih2 (r + 1) f2_37_4 (hr3) (by omega) _ _ (hP.sub [2, 3, 0, 1] rfl) (hD.sub [2, 3, 0, 1] (by decide) rfl) hS _ (lv_sub hl [0, 3, 4, 5] rfl)
  exact LP2 _ 0 f (Nat.zero_le _) (Nat.lt_succ_self _) _ _ (hP.sub [0, 1, 2, 3] rfl) (hD.sub [0, 1, 2, 3] (by decide) rfl) hS _ (lv_sub hl [0, 1, 2, 3] rfl)

set_option maxHeartbeats 400000 in
set_option maxRecDepth 100000 in
/-- in -/
theorem m_in (l : Launch) (dC : Nat → ClassId) (dI : Nat → Nat → Nat) (sz : Nat) (v lo hi : Int32) : Met l yX11_in (wsG (.code yX11_in cX11_in 3 (some .boolean))) ({ frames := 0, cells := 0, slots := 0, locals := 0 }) (va_Pc [.int v, .int lo, .int hi] (gP (dC, dI) [] [] sz)) (va_Qi (fun (r : Int32) (u : va_W × gT) => (u = ([], []) ∧ r = 1 ∧ lo ≤ v ∧ v ≤ hi) ∨ (u = ([], []) ∧ r = 0 ∧ ¬ (lo ≤ v ∧ v ≤ hi))) (gB (dC, dI) (va_A [] sz)) (va_A [] sz)) 0 0 (va_A [] sz) := by
  refine Met.ofW (cc := cX11_in) (maxL := 3) (ret := (some .boolean)) (by decide) rfl ?_
  intro p e s m args below meth c s₁ B hml hv
  obtain ⟨rfl, hsz, hP, hK, hD0, hN, hZ⟩ := hv
  have hx := B.exec
  have hb := B.bytes
  have hr := B.returns
  have hts := atoms_spec (ws := (wsG (.code yX11_in cX11_in 3 (some .boolean)))) B.pre
  have hown : s.vm.findClass RX11 = some m.cls := findClass_of_methodNamed B.named
  have hlocks := B.notSynchronized
  subst hsz
  have hD := hD0.self (sz := s.heap.size)
  generalize hAe : va_A [] s.heap.size = A at hD hZ ⊢
  have hA : ∀ q : Nat, s.heap.size ≤ q → A q := fun q h => by rw [← hAe]; exact Or.inr h
  have hl := lv_entry ([.int v, .int lo, .int hi]) (n := 3) (Nat.le_of_ble_eq_true rfl)
  rw [lg_entry_eq]
  generalize (lg_sl ([.int v, .int lo, .int hi]) ++ List.replicate (3 - (lg_sl ([.int v, .int lo, .int hi])).length) Slot.unset).toArray = ls at hl ⊢
  have hl : lv_has ls 3 [(0, .int v), (1, .int lo), (2, .int hi)] := hl
  refine g_start (A := A) hP (fun H locs hP hS => ?_)
  refine lv_iload_n hx hb dX11_in_0 rfl (lv_at hl 0 rfl) ?_
  refine lv_iload_n hx hb dX11_in_1 rfl (lv_at hl 1 rfl) ?_
  refine lv_icmp_lt (tgt := 14) hx hb dX11_in_2 (by decide) (fun c_2 => ?_) (fun c_2 => ?_)
  · refine lv_iconst (v := 0) hx hb dX11_in_14 (by decide) ?_
    have hP9 := hP.sub (ws' := []) [] rfl
    have hD9 := hD.sub (ws' := []) [] (by decide) rfl
    have hK9 := hK.sub (tys' := []) [] rfl
    exact W.zret (v := 0) hx hb hr (by decide) (fun t ht hW => ⟨⟨0, ([], []), rfl, (Or.inr ⟨rfl, rfl, (fun qv => i_nle.mpr c_2 qv.1)⟩), by rw [ht]; exact hP9, va_K.moved hW.alike hK9, hD9⟩, hS.F ht⟩) hS.2.2 dX11_in_15
  refine lv_iload_n hx hb dX11_in_5 rfl (lv_at hl 0 rfl) ?_
  refine lv_iload_n hx hb dX11_in_6 rfl (lv_at hl 2 rfl) ?_
  refine lv_icmp_gt (tgt := 14) hx hb dX11_in_7 (by decide) (fun c_7 => ?_) (fun c_7 => ?_)
  · refine lv_iconst (v := 0) hx hb dX11_in_14 (by decide) ?_
    have hP9 := hP.sub (ws' := []) [] rfl
    have hD9 := hD.sub (ws' := []) [] (by decide) rfl
    have hK9 := hK.sub (tys' := []) [] rfl
    exact W.zret (v := 0) hx hb hr (by decide) (fun t ht hW => ⟨⟨0, ([], []), rfl, (Or.inr ⟨rfl, rfl, (fun qv => i_nle.mpr c_7 qv.2)⟩), by rw [ht]; exact hP9, va_K.moved hW.alike hK9, hD9⟩, hS.F ht⟩) hS.2.2 dX11_in_15
  refine lv_iconst (v := 1) hx hb dX11_in_10 (by decide) ?_
  refine lv_goto (tgt := 15) hx hb dX11_in_11 (by decide) ?_
  have hP9 := hP.sub (ws' := []) [] rfl
  have hD9 := hD.sub (ws' := []) [] (by decide) rfl
  have hK9 := hK.sub (tys' := []) [] rfl
  exact W.zret (v := 1) hx hb hr (by decide) (fun t ht hW => ⟨⟨1, ([], []), rfl, (Or.inl ⟨rfl, rfl, (⟨i_nlt.mp c_2, i_nlt.mp c_7⟩)⟩), by rw [ht]; exact hP9, va_K.moved hW.alike hK9, hD9⟩, hS.F ht⟩) hS.2.2 dX11_in_15

set_option maxHeartbeats 400000 in
set_option maxRecDepth 100000 in
/-- isSample -/
theorem m_isSample (l : Launch) (dC : Nat → ClassId) (dI : Nat → Nat → Nat) (sz : Nat) (v : Int32) : Met l yX11_isSample (wsG (.code yX11_isSample cX11_isSample 1 (some .boolean))) ({ frames := 1, cells := 0, slots := 0, locals := 22 }) (va_Pc [.int v] (gP (dC, dI) [] [] sz)) (va_Qi (fun (r : Int32) (u : va_W × gT) => (u = ([], []) ∧ r = 1 ∧ 1 ≤ v ∧ v ≤ 31) ∨ (u = ([], []) ∧ r = 0 ∧ ¬ (1 ≤ v ∧ v ≤ 31))) (gB (dC, dI) (va_A [] sz)) (va_A [] sz)) 0 0 (va_A [] sz) := by
  refine Met.ofW (cc := cX11_isSample) (maxL := 1) (ret := (some .boolean)) (by decide) rfl ?_
  intro p e s m args below meth c s₁ B hml hv
  obtain ⟨rfl, hsz, hP, hK, hD0, hN, hZ⟩ := hv
  have hx := B.exec
  have hb := B.bytes
  have hr := B.returns
  have hts := atoms_spec (ws := (wsG (.code yX11_isSample cX11_isSample 1 (some .boolean)))) B.pre
  have hown : s.vm.findClass RX11 = some m.cls := findClass_of_methodNamed B.named
  have hlocks := B.notSynchronized
  subst hsz
  have hD := hD0.self (sz := s.heap.size)
  generalize hAe : va_A [] s.heap.size = A at hD hZ ⊢
  have hA : ∀ q : Nat, s.heap.size ≤ q → A q := fun q h => by rw [← hAe]; exact Or.inr h
  have hl := lv_entry ([.int v]) (n := 1) (Nat.le_of_ble_eq_true rfl)
  rw [lg_entry_eq]
  generalize (lg_sl ([.int v]) ++ List.replicate (1 - (lg_sl ([.int v])).length) Slot.unset).toArray = ls at hl ⊢
  have hl : lv_has ls 1 [(0, .int v)] := hl
  refine g_start (A := A) hP (fun H locs hP hS => ?_)
  refine lv_iload_n hx hb dX11_isSample_0 rfl (lv_at hl 0 rfl) ?_
  refine lv_iconst (v := 1) hx hb dX11_isSample_1 (by decide) ?_
  refine lv_bipush (v := 31) hx hb dX11_isSample_2 (by decide) ?_
  refine g_calli (wr := []) (va_runS (As := [.int v, .int 1, .int 31]) (rest := []) ⟨hx, hb, hml, hown, hts⟩ (m_in l dC dI H.size v 1 31 ) (va_cwS 3 hts (gG_S kw_266 kw_267 kw_5 kw_268) rfl rfl rfl (by decide +kernel) ⟨Nat.le_of_ble_eq_true rfl, Nat.le_of_ble_eq_true rfl⟩) (g_preS hP hD hK hS hA hN hZ [] (by decide) rfl [] rfl) rfl rfl hl.1 rfl (lv_room (Nat.le_of_ble_eq_true rfl)) dX11_isSample_4 ⟨Nat.le_of_ble_eq_true rfl, Nat.le_of_ble_eq_true rfl⟩) hP hD hK hS hA [] [] rfl rfl (by decide) (by decide) (fun r_4 w ty1 H locs hw_4 hP hD _ hS => ?_)
  rcases hw_4 with ⟨hu, hr_4, hh_4⟩ | ⟨hu, hr_4, hh_4⟩
  · cases hu
    have hP : va_P (dC, dI) vwCl [] H := hP
    have hD : va_D A [] := hD
    refine g_topi (y := 1) hr_4 ?_
    have hP9 := hP.sub (ws' := []) [] rfl
    have hD9 := hD.sub (ws' := []) [] (by decide) rfl
    have hK9 := hK.sub (tys' := []) [] rfl
    exact W.zret (v := 1) hx hb hr (by decide) (fun t ht hW => ⟨⟨1, ([], []), rfl, (Or.inl ⟨rfl, rfl, hh_4⟩), by rw [ht]; exact hP9, va_K.moved hW.alike hK9, hD9⟩, hS.F ht⟩) hS.2.2 dX11_isSample_7
  cases hu
  have hP : va_P (dC, dI) vwCl [] H := hP
  have hD : va_D A [] := hD
  refine g_topi (y := 0) hr_4 ?_
  have hP9 := hP.sub (ws' := []) [] rfl
  have hD9 := hD.sub (ws' := []) [] (by decide) rfl
  have hK9 := hK.sub (tys' := []) [] rfl
  exact W.zret (v := 0) hx hb hr (by decide) (fun t ht hW => ⟨⟨0, ([], []), rfl, (Or.inr ⟨rfl, rfl, hh_4⟩), by rw [ht]; exact hP9, va_K.moved hW.alike hK9, hD9⟩, hS.F ht⟩) hS.2.2 dX11_isSample_7

set_option maxHeartbeats 400000 in
set_option maxRecDepth 100000 in
/-- put -/
theorem m_put (l : Launch) (dC : Nat → ClassId) (dI : Nat → Nat → Nat) (sz : Nat) (h : Nat) (qa : Nat → Nat) (x0 x3 x4 x13 x14 x15 x16 x17 x18 x19 x20 x21 x22 x23 x24 x26 x27 x28 : Int32) (cB : ClassId) (LL : Nat) (ft : Nat → Int32) (v : Int32) (hLL : LL < 9000) : Met l yX11_put (wsG (.code yX11_put cX11_put 2 none)) ({ frames := 0, cells := 0, slots := 0, locals := 0 }) (va_Pc [.ref h, .int v] (gP (dC, dI) [(cB, .byte)] [(h, .inr (10, mdF qa x0 (nI LL) x3 x4 x13 x14 x15 x16 x17 x18 x19 x20 x21 x22 x23 x24 x26 x27 x28)), (qa 1, .inl (cB, 9000, .inl ft))] sz)) (va_Qv (fun u : va_W × gT => ∃ (ft2 : Nat → Int32), u = ([(h, .inr (10, mdF qa x0 (nI (LL + 1)) x3 x4 x13 x14 x15 x16 x17 x18 x19 x20 x21 x22 x23 x24 x26 x27 x28)), (qa 1, .inl (cB, 9000, .inl ft2))], [])) (gB (dC, dI) (va_A [(h, .inr (10, mdF qa x0 (nI LL) x3 x4 x13 x14 x15 x16 x17 x18 x19 x20 x21 x22 x23 x24 x26 x27 x28)), (qa 1, .inl (cB, 9000, .inl ft))] sz)) (va_A [(h, .inr (10, mdF qa x0 (nI LL) x3 x4 x13 x14 x15 x16 x17 x18 x19 x20 x21 x22 x23 x24 x26 x27 x28)), (qa 1, .inl (cB, 9000, .inl ft))] sz)) 0 0 (va_A [(h, .inr (10, mdF qa x0 (nI LL) x3 x4 x13 x14 x15 x16 x17 x18 x19 x20 x21 x22 x23 x24 x26 x27 x28)), (qa 1, .inl (cB, 9000, .inl ft))] sz) := by
  refine Met.ofW (cc := cX11_put) (maxL := 2) (ret := none) (by decide) rfl ?_
  intro p e s m args below meth c s₁ B hml hv
  obtain ⟨rfl, hsz, hP, hK, hD0, hN, hZ⟩ := hv
  have hx := B.exec
  have hb := B.bytes
  have hr := B.returns
  have hts := atoms_spec (ws := (wsG (.code yX11_put cX11_put 2 none))) B.pre
  have hown : s.vm.findClass RX11 = some m.cls := findClass_of_methodNamed B.named
  have hlocks := B.notSynchronized
  subst hsz
  have hD := hD0.self (sz := s.heap.size)
  generalize hAe : va_A [(h, .inr (10, mdF qa x0 (nI LL) x3 x4 x13 x14 x15 x16 x17 x18 x19 x20 x21 x22 x23 x24 x26 x27 x28)), (qa 1, .inl (cB, 9000, .inl ft))] s.heap.size = A at hD hZ ⊢
  have hA : ∀ q : Nat, s.heap.size ≤ q → A q := fun q h => by rw [← hAe]; exact Or.inr h
  have hl := lv_entry ([.ref h, .int v]) (n := 2) (Nat.le_of_ble_eq_true rfl)
  rw [lg_entry_eq]
  generalize (lg_sl ([.ref h, .int v]) ++ List.replicate (2 - (lg_sl ([.ref h, .int v])).length) Slot.unset).toArray = ls at hl ⊢
  have hl : lv_has ls 2 [(0, .ref h), (1, .int v)] := hl
  refine g_start (A := A) hP (fun H locs hP hS => ?_)
  refine lv_aload_n hx hb dX11_put_0 rfl (lv_at hl 0 rfl) ?_
  refine va_get (D := (dC, dI)) (ci := 10) (v := .ref (qa 1)) (C := RX11) (T := TX11) (N := 53) hx hb hts iwX11 hown hK hP 0 rfl rfl 1 (by decide) (hts (.fieldLink RX11 9 "ModulePlayerModel" "tape" "[B") (List.mem_cons_of_mem _ kw_171)) (fun _ h9 => h9) rfl dX11_put_1 ?_
  refine lv_aload_n hx hb dX11_put_4 rfl (lv_at hl 0 rfl) ?_
  refine va_get (D := (dC, dI)) (ci := 10) (v := .int (nI LL)) (C := RX11) (T := TX11) (N := 53) hx hb hts iwX11 hown hK hP 0 rfl rfl 2 (by decide) (hts (.fieldLink RX11 138 "ModulePlayerModel" "taped" "I") (List.mem_cons_of_mem _ kw_253)) (fun _ h9 => h9) rfl dX11_put_5 ?_
  refine lv_iload_n hx hb dX11_put_8 rfl (lv_at hl 1 rfl) ?_
  refine lv_i2b (v := v.toInt8.toInt32) hx hb dX11_put_9 rfl ?_
  refine g_bast hx hb hK hP hD hS 1 0 rfl rfl (x' := v.toInt8.toInt32) (pk_vb _) LL (nI_clamp (Nat.lt_trans (show LL < 9000 from hLL) (by decide))) (vp_in_nI (hLL) (by decide)) dX11_put_10 (fun H locs hP hD hS => ?_)
  have hP : va_P (dC, dI) vwCl [(h, .inr (10, mdF qa x0 (nI LL) x3 x4 x13 x14 x15 x16 x17 x18 x19 x20 x21 x22 x23 x24 x26 x27 x28)), (qa 1, .inl (cB, 9000, .inl (upd ft LL v.toInt8.toInt32)))] H := hP
  have hD : va_D A [(h, .inr (10, mdF qa x0 (nI LL) x3 x4 x13 x14 x15 x16 x17 x18 x19 x20 x21 x22 x23 x24 x26 x27 x28)), (qa 1, .inl (cB, 9000, .inl (upd ft LL v.toInt8.toInt32)))] := hD
  generalize upd ft LL v.toInt8.toInt32 = fg__10 at hP hD
  refine lv_aload_n hx hb dX11_put_11 rfl (lv_at hl 0 rfl) ?_
  refine lv_dup hx hb dX11_put_12 rfl ?_
  refine va_get (D := (dC, dI)) (ci := 10) (v := .int (nI LL)) (C := RX11) (T := TX11) (N := 53) hx hb hts iwX11 hown hK hP 0 rfl rfl 2 (by decide) (hts (.fieldLink RX11 138 "ModulePlayerModel" "taped" "I") (List.mem_cons_of_mem _ kw_253)) (fun _ h9 => h9) rfl dX11_put_13 ?_
  refine lv_iconst (v := 1) hx hb dX11_put_16 (by decide) ?_
  refine lv_iadd hx hb dX11_put_17 ?_
  refine g_topi (y := nI (LL + 1)) (nI_1 _) ?_
  refine va_put (D := (dC, dI)) (ci := 10) (v := .int (nI (LL + 1))) (ty := tyX11 2) (C := RX11) (T := TX11) (N := 53) hx hb hts iwX11 tyX11 tyX11_ok nmX11 hown hK hP hD hS 0 rfl rfl 2 (by decide) (hts (.fieldLink RX11 138 "ModulePlayerModel" "taped" "I") (List.mem_cons_of_mem _ kw_253)) (fun _ h9 => h9) rfl (by decide +kernel) (rfl) (rfl) (Nat.le_of_ble_eq_true rfl) dX11_put_18 (fun H locs hP hD hS => ?_)
  have hP : va_P (dC, dI) vwCl [(h, .inr (10, mdF qa x0 (nI (LL + 1)) x3 x4 x13 x14 x15 x16 x17 x18 x19 x20 x21 x22 x23 x24 x26 x27 x28)), (qa 1, .inl (cB, 9000, .inl fg__10))] H := hP
  have hD : va_D A [(h, .inr (10, mdF qa x0 (nI (LL + 1)) x3 x4 x13 x14 x15 x16 x17 x18 x19 x20 x21 x22 x23 x24 x26 x27 x28)), (qa 1, .inl (cB, 9000, .inl fg__10))] := hD
  have hP9 := hP.sub (ws' := [(h, .inr (10, mdF qa x0 (nI (LL + 1)) x3 x4 x13 x14 x15 x16 x17 x18 x19 x20 x21 x22 x23 x24 x26 x27 x28)), (qa 1, .inl (cB, 9000, .inl fg__10))]) [0, 1] rfl
  have hD9 := hD.sub (ws' := [(h, .inr (10, mdF qa x0 (nI (LL + 1)) x3 x4 x13 x14 x15 x16 x17 x18 x19 x20 x21 x22 x23 x24 x26 x27 x28)), (qa 1, .inl (cB, 9000, .inl fg__10))]) [0, 1] (by decide) rfl
  have hK9 := hK.sub (tys' := []) [] rfl
  exact W.vret hx hb hr (fun t ht hW => ⟨⟨([(h, .inr (10, mdF qa x0 (nI (LL + 1)) x3 x4 x13 x14 x15 x16 x17 x18 x19 x20 x21 x22 x23 x24 x26 x27 x28)), (qa 1, .inl (cB, 9000, .inl fg__10))], []), rfl, ⟨fg__10, rfl⟩, by rw [ht]; exact hP9, va_K.moved hW.alike hK9, hD9⟩, hS.F ht⟩) hS.2.2 dX11_put_21

set_option maxHeartbeats 400000 in
set_option maxRecDepth 100000 in
/-- putTwo -/
theorem m_putTwo (l : Launch) (dC : Nat → ClassId) (dI : Nat → Nat → Nat) (sz : Nat) (h : Nat) (qa : Nat → Nat) (x0 x3 x4 x13 x14 x15 x16 x17 x18 x19 x20 x21 x22 x23 x24 x26 x27 x28 : Int32) (cB : ClassId) (LL : Nat) (ft : Nat → Int32) (v : Int32) (hLL : LL + 1 < 9000) : Met l yX11_putTwo (wsG (.code yX11_putTwo cX11_putTwo 2 none)) ({ frames := 1, cells := 0, slots := 0, locals := 21 }) (va_Pc [.ref h, .int v] (gP (dC, dI) [(cB, .byte)] [(h, .inr (10, mdF qa x0 (nI LL) x3 x4 x13 x14 x15 x16 x17 x18 x19 x20 x21 x22 x23 x24 x26 x27 x28)), (qa 1, .inl (cB, 9000, .inl ft))] sz)) (va_Qv (fun u : va_W × gT => ∃ (ft2 : Nat → Int32), u = ([(h, .inr (10, mdF qa x0 (nI (LL + 2)) x3 x4 x13 x14 x15 x16 x17 x18 x19 x20 x21 x22 x23 x24 x26 x27 x28)), (qa 1, .inl (cB, 9000, .inl ft2))], [])) (gB (dC, dI) (va_A [(h, .inr (10, mdF qa x0 (nI LL) x3 x4 x13 x14 x15 x16 x17 x18 x19 x20 x21 x22 x23 x24 x26 x27 x28)), (qa 1, .inl (cB, 9000, .inl ft))] sz)) (va_A [(h, .inr (10, mdF qa x0 (nI LL) x3 x4 x13 x14 x15 x16 x17 x18 x19 x20 x21 x22 x23 x24 x26 x27 x28)), (qa 1, .inl (cB, 9000, .inl ft))] sz)) 0 0 (va_A [(h, .inr (10, mdF qa x0 (nI LL) x3 x4 x13 x14 x15 x16 x17 x18 x19 x20 x21 x22 x23 x24 x26 x27 x28)), (qa 1, .inl (cB, 9000, .inl ft))] sz) := by
  refine Met.ofW (cc := cX11_putTwo) (maxL := 2) (ret := none) (by decide) rfl ?_
  intro p e s m args below meth c s₁ B hml hv
  obtain ⟨rfl, hsz, hP, hK, hD0, hN, hZ⟩ := hv
  have hx := B.exec
  have hb := B.bytes
  have hr := B.returns
  have hts := atoms_spec (ws := (wsG (.code yX11_putTwo cX11_putTwo 2 none))) B.pre
  have hown : s.vm.findClass RX11 = some m.cls := findClass_of_methodNamed B.named
  have hlocks := B.notSynchronized
  subst hsz
  have hD := hD0.self (sz := s.heap.size)
  generalize hAe : va_A [(h, .inr (10, mdF qa x0 (nI LL) x3 x4 x13 x14 x15 x16 x17 x18 x19 x20 x21 x22 x23 x24 x26 x27 x28)), (qa 1, .inl (cB, 9000, .inl ft))] s.heap.size = A at hD hZ ⊢
  have hA : ∀ q : Nat, s.heap.size ≤ q → A q := fun q h => by rw [← hAe]; exact Or.inr h
  have hl := lv_entry ([.ref h, .int v]) (n := 2) (Nat.le_of_ble_eq_true rfl)
  rw [lg_entry_eq]
  generalize (lg_sl ([.ref h, .int v]) ++ List.replicate (2 - (lg_sl ([.ref h, .int v])).length) Slot.unset).toArray = ls at hl ⊢
  have hl : lv_has ls 2 [(0, .ref h), (1, .int v)] := hl
  refine g_start (A := A) hP (fun H locs hP hS => ?_)
  refine lv_aload_n hx hb dX11_putTwo_0 rfl (lv_at hl 0 rfl) ?_
  refine lv_iload_n hx hb dX11_putTwo_1 rfl (lv_at hl 1 rfl) ?_
  refine lv_iconst (v := 2) hx hb dX11_putTwo_2 (by decide) ?_
  refine lv_idiv hx hb dX11_putTwo_3 (by decide) ?_
  refine lv_topi (fun d3_ ed3_ => ?_)
  refine lv_bipush (v := 8) hx hb dX11_putTwo_4 (by decide) ?_
  refine lv_ishr hx hb dX11_putTwo_6 ?_
  refine lv_topi (fun d6_ ed6_ => ?_)
  refine g_callv (wr := []) (va_runV (As := [.int d6_]) (rest := []) ⟨hx, hb, hml, hown, hts⟩ (m_put l dC dI H.size h qa x0 x3 x4 x13 x14 x15 x16 x17 x18 x19 x20 x21 x22 x23 x24 x26 x27 x28 cB LL ft d6_ (by omega)) (cwV 1 hts (gG_V kw_514 kw_515 kw_516 kw_5 kw_517) rfl rfl rfl (by decide +kernel) ⟨Nat.le_of_ble_eq_true rfl, Nat.le_of_ble_eq_true rfl⟩) (g_preV (C := RX11) (T := TX11) (N := 53) hP hD hK hS hA hN hZ (q0 := 0) rfl rfl [0, 1] (by decide) rfl [0] rfl) rfl rfl hl.1 rfl (lv_room (Nat.le_of_ble_eq_true rfl)) dX11_putTwo_7 ⟨Nat.le_of_ble_eq_true rfl, Nat.le_of_ble_eq_true rfl⟩) hP hD hK hS hA [0, 1] [] rfl rfl (by decide) (by decide) (fun w ty1 H locs hw_7 hP hD _ hS => ?_)
  rcases hw_7 with ⟨ft2_7, hu⟩
  cases hu
  have hP : va_P (dC, dI) vwCl [(h, .inr (10, mdF qa x0 (nI (LL + 1)) x3 x4 x13 x14 x15 x16 x17 x18 x19 x20 x21 x22 x23 x24 x26 x27 x28)), (qa 1, .inl (cB, 9000, .inl ft2_7))] H := hP
  have hD : va_D A [(h, .inr (10, mdF qa x0 (nI (LL + 1)) x3 x4 x13 x14 x15 x16 x17 x18 x19 x20 x21 x22 x23 x24 x26 x27 x28)), (qa 1, .inl (cB, 9000, .inl ft2_7))] := hD
  refine lv_aload_n hx hb dX11_putTwo_10 rfl (lv_at hl 0 rfl) ?_
  refine lv_iload_n hx hb dX11_putTwo_11 rfl (lv_at hl 1 rfl) ?_
  refine lv_iconst (v := 2) hx hb dX11_putTwo_12 (by decide) ?_
  refine lv_idiv hx hb dX11_putTwo_13 (by decide) ?_
  refine lv_topi (fun d13_ ed13_ => ?_)
  refine g_callv (wr := []) (va_runV (As := [.int d13_]) (rest := []) ⟨hx, hb, hml, hown, hts⟩ (m_put l dC dI H.size h qa x0 x3 x4 x13 x14 x15 x16 x17 x18 x19 x20 x21 x22 x23 x24 x26 x27 x28 cB (LL + 1) ft2_7 d13_ (by omega)) (cwV 1 hts (gG_V kw_514 kw_515 kw_516 kw_5 kw_517) rfl rfl rfl (by decide +kernel) ⟨Nat.le_of_ble_eq_true rfl, Nat.le_of_ble_eq_true rfl⟩) (g_preV (C := RX11) (T := TX11) (N := 53) hP hD hK hS hA hN hZ (q0 := 0) rfl rfl [0, 1] (by decide) rfl [0] rfl) rfl rfl hl.1 rfl (lv_room (Nat.le_of_ble_eq_true rfl)) dX11_putTwo_14 ⟨Nat.le_of_ble_eq_true rfl, Nat.le_of_ble_eq_true rfl⟩) hP hD hK hS hA [0, 1] [] rfl rfl (by decide) (by decide) (fun w ty1 H locs hw_14 hP hD _ hS => ?_)
  rcases hw_14 with ⟨ft2_14, hu⟩
  cases hu
  have hP : va_P (dC, dI) vwCl [(h, .inr (10, mdF qa x0 (nI ((LL + 1) + 1)) x3 x4 x13 x14 x15 x16 x17 x18 x19 x20 x21 x22 x23 x24 x26 x27 x28)), (qa 1, .inl (cB, 9000, .inl ft2_14))] H := hP
  have hD : va_D A [(h, .inr (10, mdF qa x0 (nI ((LL + 1) + 1)) x3 x4 x13 x14 x15 x16 x17 x18 x19 x20 x21 x22 x23 x24 x26 x27 x28)), (qa 1, .inl (cB, 9000, .inl ft2_14))] := hD
  have hP9 := hP.sub (ws' := [(h, .inr (10, mdF qa x0 (nI ((LL + 1) + 1)) x3 x4 x13 x14 x15 x16 x17 x18 x19 x20 x21 x22 x23 x24 x26 x27 x28)), (qa 1, .inl (cB, 9000, .inl ft2_14))]) [0, 1] rfl
  have hD9 := hD.sub (ws' := [(h, .inr (10, mdF qa x0 (nI ((LL + 1) + 1)) x3 x4 x13 x14 x15 x16 x17 x18 x19 x20 x21 x22 x23 x24 x26 x27 x28)), (qa 1, .inl (cB, 9000, .inl ft2_14))]) [0, 1] (by decide) rfl
  have hK9 := hK.sub (tys' := []) [] rfl
  exact W.vret hx hb hr (fun t ht hW => ⟨⟨([(h, .inr (10, mdF qa x0 (nI ((LL + 1) + 1)) x3 x4 x13 x14 x15 x16 x17 x18 x19 x20 x21 x22 x23 x24 x26 x27 x28)), (qa 1, .inl (cB, 9000, .inl ft2_14))], []), rfl, ⟨ft2_14, rfl⟩, by rw [ht]; exact hP9, va_K.moved hW.alike hK9, hD9⟩, hS.F ht⟩) hS.2.2 dX11_putTwo_17

set_option maxHeartbeats 400000 in
set_option maxRecDepth 100000 in
/-- types -/
theorem m_types (l : Launch) (dC : Nat → ClassId) (dI : Nat → Nat → Nat) (sz : Nat) (h : Nat) (qa : Nat → Nat) (x0 x3 x4 x13 x14 x15 x16 x17 x18 x19 x20 x21 x22 x23 x24 x26 x27 x28 : Int32) (cB : ClassId) (LL : Nat) (ft : Nat → Int32) (v : Int32) (hLL : LL + 4 ≤ 9000) : Met l yX11_types (wsG (.code yX11_types cX11_types 3 none)) ({ frames := 0, cells := 0, slots := 0, locals := 0 }) (va_Pc [.ref h, .int v] (gP (dC, dI) [(cB, .byte)] [(h, .inr (10, mdF qa x0 (nI LL) x3 x4 x13 x14 x15 x16 x17 x18 x19 x20 x21 x22 x23 x24 x26 x27 x28)), (qa 1, .inl (cB, 9000, .inl ft))] sz)) (va_Qv (fun u : va_W × gT => ∃ (ft2 : Nat → Int32), u = ([(h, .inr (10, mdF qa x0 (nI (LL + 4)) x3 x4 x13 x14 x15 x16 x17 x18 x19 x20 x21 x22 x23 x24 x26 x27 x28)), (qa 1, .inl (cB, 9000, .inl ft2))], [])) (gB (dC, dI) (va_A [(h, .inr (10, mdF qa x0 (nI LL) x3 x4 x13 x14 x15 x16 x17 x18 x19 x20 x21 x22 x23 x24 x26 x27 x28)), (qa 1, .inl (cB, 9000, .inl ft))] sz)) (va_A [(h, .inr (10, mdF qa x0 (nI LL) x3 x4 x13 x14 x15 x16 x17 x18 x19 x20 x21 x22 x23 x24 x26 x27 x28)), (qa 1, .inl (cB, 9000, .inl ft))] sz)) 0 0 (va_A [(h, .inr (10, mdF qa x0 (nI LL) x3 x4 x13 x14 x15 x16 x17 x18 x19 x20 x21 x22 x23 x24 x26 x27 x28)), (qa 1, .inl (cB, 9000, .inl ft))] sz) := by
  refine Met.ofW (cc := cX11_types) (maxL := 3) (ret := none) (by decide) rfl ?_
  intro p e s m args below meth c s₁ B hml hv
  obtain ⟨rfl, hsz, hP, hK, hD0, hN, hZ⟩ := hv
  have hx := B.exec
  have hb := B.bytes
  have hr := B.returns
  have hts := atoms_spec (ws := (wsG (.code yX11_types cX11_types 3 none))) B.pre
  have hown : s.vm.findClass RX11 = some m.cls := findClass_of_methodNamed B.named
  have hlocks := B.notSynchronized
  subst hsz
  have hD := hD0.self (sz := s.heap.size)
  generalize hAe : va_A [(h, .inr (10, mdF qa x0 (nI LL) x3 x4 x13 x14 x15 x16 x17 x18 x19 x20 x21 x22 x23 x24 x26 x27 x28)), (qa 1, .inl (cB, 9000, .inl ft))] s.heap.size = A at hD hZ ⊢
  have hA : ∀ q : Nat, s.heap.size ≤ q → A q := fun q h => by rw [← hAe]; exact Or.inr h
  have hl := lv_entry ([.ref h, .int v]) (n := 3) (Nat.le_of_ble_eq_true rfl)
  rw [lg_entry_eq]
  generalize (lg_sl ([.ref h, .int v]) ++ List.replicate (3 - (lg_sl ([.ref h, .int v])).length) Slot.unset).toArray = ls at hl ⊢
  have hl : lv_has ls 3 [(0, .ref h), (1, .int v)] := hl
  refine g_start (A := A) hP (fun H locs hP hS => ?_)
  refine lv_bipush (v := 24) hx hb dX11_types_0 (by decide) ?_
  refine lv_istore_n (lv' := [(2, .int 24), (0, .ref h), (1, .int v)]) hx hb dX11_types_2 rfl hl (by decide) rfl (fun ls hl => ?_)
  refine lv_iload_n hx hb dX11_types_3 rfl (lv_at hl 0 rfl) ?_
  refine lv_if_lt (tgt := 36) hx hb dX11_types_4 (by decide) (fun c_4 => absurd c_4 (by decide)) (fun c_4 => ?_)
  refine lv_aload_n hx hb dX11_types_7 rfl (lv_at hl 1 rfl) ?_
  refine va_get (D := (dC, dI)) (ci := 10) (v := .ref (qa 1)) (C := RX11) (T := TX11) (N := 53) hx hb hts iwX11 hown hK hP 0 rfl rfl 1 (by decide) (hts (.fieldLink RX11 9 "ModulePlayerModel" "tape" "[B") (List.mem_cons_of_mem _ kw_171)) (fun _ h9 => h9) rfl dX11_types_8 ?_
  refine lv_aload_n hx hb dX11_types_11 rfl (lv_at hl 1 rfl) ?_
  refine va_get (D := (dC, dI)) (ci := 10) (v := .int (nI LL)) (C := RX11) (T := TX11) (N := 53) hx hb hts iwX11 hown hK hP 0 rfl rfl 2 (by decide) (hts (.fieldLink RX11 138 "ModulePlayerModel" "taped" "I") (List.mem_cons_of_mem _ kw_253)) (fun _ h9 => h9) rfl dX11_types_12 ?_
  refine lv_iload_n hx hb dX11_types_15 rfl (lv_at hl 2 rfl) ?_
  refine lv_iload_n hx hb dX11_types_16 rfl (lv_at hl 0 rfl) ?_
  refine lv_ishr hx hb dX11_types_17 ?_
  refine lv_topi (fun u17_0 eu17_0 => ?_)
  refine lv_i2b (v := u17_0.toInt8.toInt32) hx hb dX11_types_18 rfl ?_
  refine g_bast hx hb hK hP hD hS 1 0 rfl rfl (x' := u17_0.toInt8.toInt32) (pk_vb _) LL (nI_clamp (Nat.lt_trans (show LL < 9000 from by omega) (by decide))) (vp_in_nI (by omega) (by decide)) dX11_types_19 (fun H locs hP hD hS => ?_)
  have hP : va_P (dC, dI) vwCl [(h, .inr (10, mdF qa x0 (nI LL) x3 x4 x13 x14 x15 x16 x17 x18 x19 x20 x21 x22 x23 x24 x26 x27 x28)), (qa 1, .inl (cB, 9000, .inl (upd ft LL u17_0.toInt8.toInt32)))] H := hP
  have hD : va_D A [(h, .inr (10, mdF qa x0 (nI LL) x3 x4 x13 x14 x15 x16 x17 x18 x19 x20 x21 x22 x23 x24 x26 x27 x28)), (qa 1, .inl (cB, 9000, .inl (upd ft LL u17_0.toInt8.toInt32)))] := hD
  generalize upd ft LL u17_0.toInt8.toInt32 = fg__19 at hP hD
  refine lv_aload_n hx hb dX11_types_20 rfl (lv_at hl 1 rfl) ?_
  refine lv_dup hx hb dX11_types_21 rfl ?_
  refine va_get (D := (dC, dI)) (ci := 10) (v := .int (nI LL)) (C := RX11) (T := TX11) (N := 53) hx hb hts iwX11 hown hK hP 0 rfl rfl 2 (by decide) (hts (.fieldLink RX11 138 "ModulePlayerModel" "taped" "I") (List.mem_cons_of_mem _ kw_253)) (fun _ h9 => h9) rfl dX11_types_22 ?_
  refine lv_iconst (v := 1) hx hb dX11_types_25 (by decide) ?_
  refine lv_iadd hx hb dX11_types_26 ?_
  refine g_topi (y := nI (LL + 1)) (nI_1 _) ?_
  refine va_put (D := (dC, dI)) (ci := 10) (v := .int (nI (LL + 1))) (ty := tyX11 2) (C := RX11) (T := TX11) (N := 53) hx hb hts iwX11 tyX11 tyX11_ok nmX11 hown hK hP hD hS 0 rfl rfl 2 (by decide) (hts (.fieldLink RX11 138 "ModulePlayerModel" "taped" "I") (List.mem_cons_of_mem _ kw_253)) (fun _ h9 => h9) rfl (by decide +kernel) (rfl) (rfl) (Nat.le_of_ble_eq_true rfl) dX11_types_27 (fun H locs hP hD hS => ?_)
  have hP : va_P (dC, dI) vwCl [(h, .inr (10, mdF qa x0 (nI (LL + 1)) x3 x4 x13 x14 x15 x16 x17 x18 x19 x20 x21 x22 x23 x24 x26 x27 x28)), (qa 1, .inl (cB, 9000, .inl fg__19))] H := hP
  have hD : va_D A [(h, .inr (10, mdF qa x0 (nI (LL + 1)) x3 x4 x13 x14 x15 x16 x17 x18 x19 x20 x21 x22 x23 x24 x26 x27 x28)), (qa 1, .inl (cB, 9000, .inl fg__19))] := hD
  refine lv_iinc (v := 16) (lv' := [(2, .int 16), (0, .ref h), (1, .int v)]) hx hb dX11_types_30 hl (k := 0) rfl (by decide) (by decide) rfl (fun ls hl => ?_)
  refine lv_goto (tgt := 3) hx hb dX11_types_33 (by decide) ?_
  refine lv_iload_n hx hb dX11_types_3 rfl (lv_at hl 0 rfl) ?_
  refine lv_if_lt (tgt := 36) hx hb dX11_types_4 (by decide) (fun c_4_2 => absurd c_4_2 (by decide)) (fun c_4_2 => ?_)
  refine lv_aload_n hx hb dX11_types_7 rfl (lv_at hl 1 rfl) ?_
  refine va_get (D := (dC, dI)) (ci := 10) (v := .ref (qa 1)) (C := RX11) (T := TX11) (N := 53) hx hb hts iwX11 hown hK hP 0 rfl rfl 1 (by decide) (hts (.fieldLink RX11 9 "ModulePlayerModel" "tape" "[B") (List.mem_cons_of_mem _ kw_171)) (fun _ h9 => h9) rfl dX11_types_8 ?_
  refine lv_aload_n hx hb dX11_types_11 rfl (lv_at hl 1 rfl) ?_
  refine va_get (D := (dC, dI)) (ci := 10) (v := .int (nI (LL + 1))) (C := RX11) (T := TX11) (N := 53) hx hb hts iwX11 hown hK hP 0 rfl rfl 2 (by decide) (hts (.fieldLink RX11 138 "ModulePlayerModel" "taped" "I") (List.mem_cons_of_mem _ kw_253)) (fun _ h9 => h9) rfl dX11_types_12 ?_
  refine lv_iload_n hx hb dX11_types_15 rfl (lv_at hl 2 rfl) ?_
  refine lv_iload_n hx hb dX11_types_16 rfl (lv_at hl 0 rfl) ?_
  refine lv_ishr hx hb dX11_types_17 ?_
  refine lv_topi (fun u17_1 eu17_1 => ?_)
  refine lv_i2b (v := u17_1.toInt8.toInt32) hx hb dX11_types_18 rfl ?_
  refine g_bast hx hb hK hP hD hS 1 0 rfl rfl (x' := u17_1.toInt8.toInt32) (pk_vb _) (LL + 1) (nI_clamp (Nat.lt_trans (show LL + 1 < 9000 from by omega) (by decide))) (vp_in_nI (by omega) (by decide)) dX11_types_19 (fun H locs hP hD hS => ?_)
  have hP : va_P (dC, dI) vwCl [(h, .inr (10, mdF qa x0 (nI (LL + 1)) x3 x4 x13 x14 x15 x16 x17 x18 x19 x20 x21 x22 x23 x24 x26 x27 x28)), (qa 1, .inl (cB, 9000, .inl (upd fg__19 (LL + 1) u17_1.toInt8.toInt32)))] H := hP
  have hD : va_D A [(h, .inr (10, mdF qa x0 (nI (LL + 1)) x3 x4 x13 x14 x15 x16 x17 x18 x19 x20 x21 x22 x23 x24 x26 x27 x28)), (qa 1, .inl (cB, 9000, .inl (upd fg__19 (LL + 1) u17_1.toInt8.toInt32)))] := hD
  generalize upd fg__19 (LL + 1) u17_1.toInt8.toInt32 = fg__19_2 at hP hD
  refine lv_aload_n hx hb dX11_types_20 rfl (lv_at hl 1 rfl) ?_
  refine lv_dup hx hb dX11_types_21 rfl ?_
  refine va_get (D := (dC, dI)) (ci := 10) (v := .int (nI (LL + 1))) (C := RX11) (T := TX11) (N := 53) hx hb hts iwX11 hown hK hP 0 rfl rfl 2 (by decide) (hts (.fieldLink RX11 138 "ModulePlayerModel" "taped" "I") (List.mem_cons_of_mem _ kw_253)) (fun _ h9 => h9) rfl dX11_types_22 ?_
  refine lv_iconst (v := 1) hx hb dX11_types_25 (by decide) ?_
  refine lv_iadd hx hb dX11_types_26 ?_
  refine g_topi (y := nI ((LL + 1) + 1)) (nI_1 _) ?_
  refine va_put (D := (dC, dI)) (ci := 10) (v := .int (nI ((LL + 1) + 1))) (ty := tyX11 2) (C := RX11) (T := TX11) (N := 53) hx hb hts iwX11 tyX11 tyX11_ok nmX11 hown hK hP hD hS 0 rfl rfl 2 (by decide) (hts (.fieldLink RX11 138 "ModulePlayerModel" "taped" "I") (List.mem_cons_of_mem _ kw_253)) (fun _ h9 => h9) rfl (by decide +kernel) (rfl) (rfl) (Nat.le_of_ble_eq_true rfl) dX11_types_27 (fun H locs hP hD hS => ?_)
  have hP : va_P (dC, dI) vwCl [(h, .inr (10, mdF qa x0 (nI ((LL + 1) + 1)) x3 x4 x13 x14 x15 x16 x17 x18 x19 x20 x21 x22 x23 x24 x26 x27 x28)), (qa 1, .inl (cB, 9000, .inl fg__19_2))] H := hP
  have hD : va_D A [(h, .inr (10, mdF qa x0 (nI ((LL + 1) + 1)) x3 x4 x13 x14 x15 x16 x17 x18 x19 x20 x21 x22 x23 x24 x26 x27 x28)), (qa 1, .inl (cB, 9000, .inl fg__19_2))] := hD
  refine lv_iinc (v := 8) (lv' := [(2, .int 8), (0, .ref h), (1, .int v)]) hx hb dX11_types_30 hl (k := 0) rfl (by decide) (by decide) rfl (fun ls hl => ?_)
  refine lv_goto (tgt := 3) hx hb dX11_types_33 (by decide) ?_
  refine lv_iload_n hx hb dX11_types_3 rfl (lv_at hl 0 rfl) ?_
  refine lv_if_lt (tgt := 36) hx hb dX11_types_4 (by decide) (fun c_4_3 => absurd c_4_3 (by decide)) (fun c_4_3 => ?_)
  refine lv_aload_n hx hb dX11_types_7 rfl (lv_at hl 1 rfl) ?_
  refine va_get (D := (dC, dI)) (ci := 10) (v := .ref (qa 1)) (C := RX11) (T := TX11) (N := 53) hx hb hts iwX11 hown hK hP 0 rfl rfl 1 (by decide) (hts (.fieldLink RX11 9 "ModulePlayerModel" "tape" "[B") (List.mem_cons_of_mem _ kw_171)) (fun _ h9 => h9) rfl dX11_types_8 ?_
  refine lv_aload_n hx hb dX11_types_11 rfl (lv_at hl 1 rfl) ?_
  refine va_get (D := (dC, dI)) (ci := 10) (v := .int (nI ((LL + 1) + 1))) (C := RX11) (T := TX11) (N := 53) hx hb hts iwX11 hown hK hP 0 rfl rfl 2 (by decide) (hts (.fieldLink RX11 138 "ModulePlayerModel" "taped" "I") (List.mem_cons_of_mem _ kw_253)) (fun _ h9 => h9) rfl dX11_types_12 ?_
  refine lv_iload_n hx hb dX11_types_15 rfl (lv_at hl 2 rfl) ?_
  refine lv_iload_n hx hb dX11_types_16 rfl (lv_at hl 0 rfl) ?_
  refine lv_ishr hx hb dX11_types_17 ?_
  refine lv_topi (fun u17_2 eu17_2 => ?_)
  refine lv_i2b (v := u17_2.toInt8.toInt32) hx hb dX11_types_18 rfl ?_
  refine g_bast hx hb hK hP hD hS 1 0 rfl rfl (x' := u17_2.toInt8.toInt32) (pk_vb _) ((LL + 1) + 1) (nI_clamp (Nat.lt_trans (show (LL + 1) + 1 < 9000 from by omega) (by decide))) (vp_in_nI (by omega) (by decide)) dX11_types_19 (fun H locs hP hD hS => ?_)
  have hP : va_P (dC, dI) vwCl [(h, .inr (10, mdF qa x0 (nI ((LL + 1) + 1)) x3 x4 x13 x14 x15 x16 x17 x18 x19 x20 x21 x22 x23 x24 x26 x27 x28)), (qa 1, .inl (cB, 9000, .inl (upd fg__19_2 ((LL + 1) + 1) u17_2.toInt8.toInt32)))] H := hP
  have hD : va_D A [(h, .inr (10, mdF qa x0 (nI ((LL + 1) + 1)) x3 x4 x13 x14 x15 x16 x17 x18 x19 x20 x21 x22 x23 x24 x26 x27 x28)), (qa 1, .inl (cB, 9000, .inl (upd fg__19_2 ((LL + 1) + 1) u17_2.toInt8.toInt32)))] := hD
  generalize upd fg__19_2 ((LL + 1) + 1) u17_2.toInt8.toInt32 = fg__19_3 at hP hD
  refine lv_aload_n hx hb dX11_types_20 rfl (lv_at hl 1 rfl) ?_
  refine lv_dup hx hb dX11_types_21 rfl ?_
  refine va_get (D := (dC, dI)) (ci := 10) (v := .int (nI ((LL + 1) + 1))) (C := RX11) (T := TX11) (N := 53) hx hb hts iwX11 hown hK hP 0 rfl rfl 2 (by decide) (hts (.fieldLink RX11 138 "ModulePlayerModel" "taped" "I") (List.mem_cons_of_mem _ kw_253)) (fun _ h9 => h9) rfl dX11_types_22 ?_
  refine lv_iconst (v := 1) hx hb dX11_types_25 (by decide) ?_
  refine lv_iadd hx hb dX11_types_26 ?_
  refine g_topi (y := nI (((LL + 1) + 1) + 1)) (nI_1 _) ?_
  refine va_put (D := (dC, dI)) (ci := 10) (v := .int (nI (((LL + 1) + 1) + 1))) (ty := tyX11 2) (C := RX11) (T := TX11) (N := 53) hx hb hts iwX11 tyX11 tyX11_ok nmX11 hown hK hP hD hS 0 rfl rfl 2 (by decide) (hts (.fieldLink RX11 138 "ModulePlayerModel" "taped" "I") (List.mem_cons_of_mem _ kw_253)) (fun _ h9 => h9) rfl (by decide +kernel) (rfl) (rfl) (Nat.le_of_ble_eq_true rfl) dX11_types_27 (fun H locs hP hD hS => ?_)
  have hP : va_P (dC, dI) vwCl [(h, .inr (10, mdF qa x0 (nI (((LL + 1) + 1) + 1)) x3 x4 x13 x14 x15 x16 x17 x18 x19 x20 x21 x22 x23 x24 x26 x27 x28)), (qa 1, .inl (cB, 9000, .inl fg__19_3))] H := hP
  have hD : va_D A [(h, .inr (10, mdF qa x0 (nI (((LL + 1) + 1) + 1)) x3 x4 x13 x14 x15 x16 x17 x18 x19 x20 x21 x22 x23 x24 x26 x27 x28)), (qa 1, .inl (cB, 9000, .inl fg__19_3))] := hD
  refine lv_iinc (v := 0) (lv' := [(2, .int 0), (0, .ref h), (1, .int v)]) hx hb dX11_types_30 hl (k := 0) rfl (by decide) (by decide) rfl (fun ls hl => ?_)
  refine lv_goto (tgt := 3) hx hb dX11_types_33 (by decide) ?_
  refine lv_iload_n hx hb dX11_types_3 rfl (lv_at hl 0 rfl) ?_
  refine lv_if_lt (tgt := 36) hx hb dX11_types_4 (by decide) (fun c_4_4 => absurd c_4_4 (by decide)) (fun c_4_4 => ?_)
  refine lv_aload_n hx hb dX11_types_7 rfl (lv_at hl 1 rfl) ?_
  refine va_get (D := (dC, dI)) (ci := 10) (v := .ref (qa 1)) (C := RX11) (T := TX11) (N := 53) hx hb hts iwX11 hown hK hP 0 rfl rfl 1 (by decide) (hts (.fieldLink RX11 9 "ModulePlayerModel" "tape" "[B") (List.mem_cons_of_mem _ kw_171)) (fun _ h9 => h9) rfl dX11_types_8 ?_
  refine lv_aload_n hx hb dX11_types_11 rfl (lv_at hl 1 rfl) ?_
  refine va_get (D := (dC, dI)) (ci := 10) (v := .int (nI (((LL + 1) + 1) + 1))) (C := RX11) (T := TX11) (N := 53) hx hb hts iwX11 hown hK hP 0 rfl rfl 2 (by decide) (hts (.fieldLink RX11 138 "ModulePlayerModel" "taped" "I") (List.mem_cons_of_mem _ kw_253)) (fun _ h9 => h9) rfl dX11_types_12 ?_
  refine lv_iload_n hx hb dX11_types_15 rfl (lv_at hl 2 rfl) ?_
  refine lv_iload_n hx hb dX11_types_16 rfl (lv_at hl 0 rfl) ?_
  refine lv_ishr hx hb dX11_types_17 ?_
  refine lv_topi (fun u17_3 eu17_3 => ?_)
  refine lv_i2b (v := u17_3.toInt8.toInt32) hx hb dX11_types_18 rfl ?_
  refine g_bast hx hb hK hP hD hS 1 0 rfl rfl (x' := u17_3.toInt8.toInt32) (pk_vb _) (((LL + 1) + 1) + 1) (nI_clamp (Nat.lt_trans (show ((LL + 1) + 1) + 1 < 9000 from by omega) (by decide))) (vp_in_nI (by omega) (by decide)) dX11_types_19 (fun H locs hP hD hS => ?_)
  have hP : va_P (dC, dI) vwCl [(h, .inr (10, mdF qa x0 (nI (((LL + 1) + 1) + 1)) x3 x4 x13 x14 x15 x16 x17 x18 x19 x20 x21 x22 x23 x24 x26 x27 x28)), (qa 1, .inl (cB, 9000, .inl (upd fg__19_3 (((LL + 1) + 1) + 1) u17_3.toInt8.toInt32)))] H := hP
  have hD : va_D A [(h, .inr (10, mdF qa x0 (nI (((LL + 1) + 1) + 1)) x3 x4 x13 x14 x15 x16 x17 x18 x19 x20 x21 x22 x23 x24 x26 x27 x28)), (qa 1, .inl (cB, 9000, .inl (upd fg__19_3 (((LL + 1) + 1) + 1) u17_3.toInt8.toInt32)))] := hD
  generalize upd fg__19_3 (((LL + 1) + 1) + 1) u17_3.toInt8.toInt32 = fg__19_4 at hP hD
  refine lv_aload_n hx hb dX11_types_20 rfl (lv_at hl 1 rfl) ?_
  refine lv_dup hx hb dX11_types_21 rfl ?_
  refine va_get (D := (dC, dI)) (ci := 10) (v := .int (nI (((LL + 1) + 1) + 1))) (C := RX11) (T := TX11) (N := 53) hx hb hts iwX11 hown hK hP 0 rfl rfl 2 (by decide) (hts (.fieldLink RX11 138 "ModulePlayerModel" "taped" "I") (List.mem_cons_of_mem _ kw_253)) (fun _ h9 => h9) rfl dX11_types_22 ?_
  refine lv_iconst (v := 1) hx hb dX11_types_25 (by decide) ?_
  refine lv_iadd hx hb dX11_types_26 ?_
  refine g_topi (y := nI ((((LL + 1) + 1) + 1) + 1)) (nI_1 _) ?_
  refine va_put (D := (dC, dI)) (ci := 10) (v := .int (nI ((((LL + 1) + 1) + 1) + 1))) (ty := tyX11 2) (C := RX11) (T := TX11) (N := 53) hx hb hts iwX11 tyX11 tyX11_ok nmX11 hown hK hP hD hS 0 rfl rfl 2 (by decide) (hts (.fieldLink RX11 138 "ModulePlayerModel" "taped" "I") (List.mem_cons_of_mem _ kw_253)) (fun _ h9 => h9) rfl (by decide +kernel) (rfl) (rfl) (Nat.le_of_ble_eq_true rfl) dX11_types_27 (fun H locs hP hD hS => ?_)
  have hP : va_P (dC, dI) vwCl [(h, .inr (10, mdF qa x0 (nI ((((LL + 1) + 1) + 1) + 1)) x3 x4 x13 x14 x15 x16 x17 x18 x19 x20 x21 x22 x23 x24 x26 x27 x28)), (qa 1, .inl (cB, 9000, .inl fg__19_4))] H := hP
  have hD : va_D A [(h, .inr (10, mdF qa x0 (nI ((((LL + 1) + 1) + 1) + 1)) x3 x4 x13 x14 x15 x16 x17 x18 x19 x20 x21 x22 x23 x24 x26 x27 x28)), (qa 1, .inl (cB, 9000, .inl fg__19_4))] := hD
  refine lv_iinc (v := (-8)) (lv' := [(2, .int (-8)), (0, .ref h), (1, .int v)]) hx hb dX11_types_30 hl (k := 0) rfl (by decide) (by decide) rfl (fun ls hl => ?_)
  refine lv_goto (tgt := 3) hx hb dX11_types_33 (by decide) ?_
  refine lv_iload_n hx hb dX11_types_3 rfl (lv_at hl 0 rfl) ?_
  refine lv_if_lt (tgt := 36) hx hb dX11_types_4 (by decide) (fun c_4_5 => ?_) (fun c_4_5 => absurd c_4_5 (by decide))
  have hP9 := hP.sub (ws' := [(h, .inr (10, mdF qa x0 (nI ((((LL + 1) + 1) + 1) + 1)) x3 x4 x13 x14 x15 x16 x17 x18 x19 x20 x21 x22 x23 x24 x26 x27 x28)), (qa 1, .inl (cB, 9000, .inl fg__19_4))]) [0, 1] rfl
  have hD9 := hD.sub (ws' := [(h, .inr (10, mdF qa x0 (nI ((((LL + 1) + 1) + 1) + 1)) x3 x4 x13 x14 x15 x16 x17 x18 x19 x20 x21 x22 x23 x24 x26 x27 x28)), (qa 1, .inl (cB, 9000, .inl fg__19_4))]) [0, 1] (by decide) rfl
  have hK9 := hK.sub (tys' := []) [] rfl
  exact W.vret hx hb hr (fun t ht hW => ⟨⟨([(h, .inr (10, mdF qa x0 (nI ((((LL + 1) + 1) + 1) + 1)) x3 x4 x13 x14 x15 x16 x17 x18 x19 x20 x21 x22 x23 x24 x26 x27 x28)), (qa 1, .inl (cB, 9000, .inl fg__19_4))], []), rfl, ⟨fg__19_4, rfl⟩, by rw [ht]; exact hP9, va_K.moved hW.alike hK9, hD9⟩, hS.F ht⟩) hS.2.2 dX11_types_36

set_option maxHeartbeats 400000 in
set_option maxRecDepth 100000 in
/-- refuse -/
theorem m_refuse (l : Launch) (dC : Nat → ClassId) (dI : Nat → Nat → Nat) (sz : Nat) (h : Nat) (qa : Nat → Nat) (x0 x2 x3 x4 x13 x14 x15 x16 x17 x18 x19 x20 x21 x22 x23 x24 x26 x27 x28 : Int32) (a b : Int32) : Met l yX11_refuse (wsG (.code yX11_refuse cX11_refuse 3 (some .int))) ({ frames := 0, cells := 0, slots := 0, locals := 0 }) (va_Pc [.ref h, .int a, .int b] (gP (dC, dI) [] [(h, .inr (10, mdF qa x0 x2 x3 x4 x13 x14 x15 x16 x17 x18 x19 x20 x21 x22 x23 x24 x26 x27 x28))] sz)) (va_Qi (fun (r : Int32) (u : va_W × gT) => u = ([(h, .inr (10, mdF qa x0 x2 a b x13 x14 x15 x16 x17 x18 x19 x20 x21 x22 x23 x24 x26 x27 x28))], []) ∧ r = (-1)) (gB (dC, dI) (va_A [(h, .inr (10, mdF qa x0 x2 x3 x4 x13 x14 x15 x16 x17 x18 x19 x20 x21 x22 x23 x24 x26 x27 x28))] sz)) (va_A [(h, .inr (10, mdF qa x0 x2 x3 x4 x13 x14 x15 x16 x17 x18 x19 x20 x21 x22 x23 x24 x26 x27 x28))] sz)) 0 0 (va_A [(h, .inr (10, mdF qa x0 x2 x3 x4 x13 x14 x15 x16 x17 x18 x19 x20 x21 x22 x23 x24 x26 x27 x28))] sz) := by
  refine Met.ofW (cc := cX11_refuse) (maxL := 3) (ret := (some .int)) (by decide) rfl ?_
  intro p e s m args below meth c s₁ B hml hv
  obtain ⟨rfl, hsz, hP, hK, hD0, hN, hZ⟩ := hv
  have hx := B.exec
  have hb := B.bytes
  have hr := B.returns
  have hts := atoms_spec (ws := (wsG (.code yX11_refuse cX11_refuse 3 (some .int)))) B.pre
  have hown : s.vm.findClass RX11 = some m.cls := findClass_of_methodNamed B.named
  have hlocks := B.notSynchronized
  subst hsz
  have hD := hD0.self (sz := s.heap.size)
  generalize hAe : va_A [(h, .inr (10, mdF qa x0 x2 x3 x4 x13 x14 x15 x16 x17 x18 x19 x20 x21 x22 x23 x24 x26 x27 x28))] s.heap.size = A at hD hZ ⊢
  have hA : ∀ q : Nat, s.heap.size ≤ q → A q := fun q h => by rw [← hAe]; exact Or.inr h
  have hl := lv_entry ([.ref h, .int a, .int b]) (n := 3) (Nat.le_of_ble_eq_true rfl)
  rw [lg_entry_eq]
  generalize (lg_sl ([.ref h, .int a, .int b]) ++ List.replicate (3 - (lg_sl ([.ref h, .int a, .int b])).length) Slot.unset).toArray = ls at hl ⊢
  have hl : lv_has ls 3 [(0, .ref h), (1, .int a), (2, .int b)] := hl
  refine g_start (A := A) hP (fun H locs hP hS => ?_)
  refine lv_aload_n hx hb dX11_refuse_0 rfl (lv_at hl 0 rfl) ?_
  refine lv_iload_n hx hb dX11_refuse_1 rfl (lv_at hl 1 rfl) ?_
  refine va_put (D := (dC, dI)) (ci := 10) (v := .int a) (ty := tyX11 3) (C := RX11) (T := TX11) (N := 53) hx hb hts iwX11 tyX11 tyX11_ok nmX11 hown hK hP hD hS 0 rfl rfl 3 (by decide) (hts (.fieldLink RX11 149 "ModulePlayerModel" "faultKind" "I") (List.mem_cons_of_mem _ kw_430)) (fun _ h9 => h9) rfl (by decide +kernel) (rfl) (rfl) (Nat.le_of_ble_eq_true rfl) dX11_refuse_2 (fun H locs hP hD hS => ?_)
  have hP : va_P (dC, dI) vwCl [(h, .inr (10, mdF qa x0 x2 a x4 x13 x14 x15 x16 x17 x18 x19 x20 x21 x22 x23 x24 x26 x27 x28))] H := hP
  have hD : va_D A [(h, .inr (10, mdF qa x0 x2 a x4 x13 x14 x15 x16 x17 x18 x19 x20 x21 x22 x23 x24 x26 x27 x28))] := hD
  refine lv_aload_n hx hb dX11_refuse_5 rfl (lv_at hl 0 rfl) ?_
  refine lv_iload_n hx hb dX11_refuse_6 rfl (lv_at hl 2 rfl) ?_
  refine va_put (D := (dC, dI)) (ci := 10) (v := .int b) (ty := tyX11 4) (C := RX11) (T := TX11) (N := 53) hx hb hts iwX11 tyX11 tyX11_ok nmX11 hown hK hP hD hS 0 rfl rfl 4 (by decide) (hts (.fieldLink RX11 13 "ModulePlayerModel" "faultPlace" "I") (List.mem_cons_of_mem _ kw_172)) (fun _ h9 => h9) rfl (by decide +kernel) (rfl) (rfl) (Nat.le_of_ble_eq_true rfl) dX11_refuse_7 (fun H locs hP hD hS => ?_)
  have hP : va_P (dC, dI) vwCl [(h, .inr (10, mdF qa x0 x2 a b x13 x14 x15 x16 x17 x18 x19 x20 x21 x22 x23 x24 x26 x27 x28))] H := hP
  have hD : va_D A [(h, .inr (10, mdF qa x0 x2 a b x13 x14 x15 x16 x17 x18 x19 x20 x21 x22 x23 x24 x26 x27 x28))] := hD
  refine lv_iconst (v := (-1)) hx hb dX11_refuse_10 (by decide) ?_
  have hP9 := hP.sub (ws' := [(h, .inr (10, mdF qa x0 x2 a b x13 x14 x15 x16 x17 x18 x19 x20 x21 x22 x23 x24 x26 x27 x28))]) [0] rfl
  have hD9 := hD.sub (ws' := [(h, .inr (10, mdF qa x0 x2 a b x13 x14 x15 x16 x17 x18 x19 x20 x21 x22 x23 x24 x26 x27 x28))]) [0] (by decide) rfl
  have hK9 := hK.sub (tys' := []) [] rfl
  exact W.iret (v := (-1)) hx hb hr (fun t ht hW => ⟨⟨(-1), ([(h, .inr (10, mdF qa x0 x2 a b x13 x14 x15 x16 x17 x18 x19 x20 x21 x22 x23 x24 x26 x27 x28))], []), rfl, ⟨rfl, rfl⟩, by rw [ht]; exact hP9, va_K.moved hW.alike hK9, hD9⟩, hS.F ht⟩) hS.2.2 dX11_refuse_11

