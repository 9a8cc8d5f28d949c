set_option maxHeartbeats 400000 in
set_option maxRecDepth 100000 in
/-- cellIndex -/
theorem m_cellIndex (l : Launch) (dC : Nat → ClassId) (dI : Nat → Nat → Nat) (sz : Nat) (xa xb xc : Int32) : Met l yX11_cellIndex (wsG (.code yX11_cellIndex cX11_cellIndex 3 (some .int))) ({ frames := 1, cells := 0, slots := 0, locals := 22 }) (va_Pc [.int xa, .int xb, .int xc] (gP (dC, dI) [] [] sz)) (va_Qi (fun (r : Int32) (u : va_W × gT) => (∃ (ca_ : Nat) (cb_ : Nat) (cd_ : Nat), u = ([], []) ∧ r = nI (256 * ca_ + 4 * cb_ + cd_) ∧ ca_ < 8 ∧ cb_ < 64 ∧ cd_ < 4 ∧ xa = nI ca_ ∧ xb = nI cb_ ∧ xc = nI cd_) ∨ (u = ([], []) ∧ r = (-1) ∧ ¬ cellsP xa xb xc)) (gB (dC, dI) (va_A [] sz)) (va_A [] sz)) 0 0 (va_A [] sz) := by
  refine Met.ofW (cc := cX11_cellIndex) (maxL := 3) (ret := (some .int)) (by decide) rfl ?_
  intro p e s m args below meth c s₁ B hml hv
  obtain ⟨rfl, hsz, hP, hK, hD0, hN, hZ⟩ := hv
  have hx := B.exec
  have hb := B.bytes
  have hr := B.returns
  have hts := atoms_spec (ws := (wsG (.code yX11_cellIndex cX11_cellIndex 3 (some .int)))) B.pre
  have hown : s.vm.findClass RX11 = some m.cls := findClass_of_methodNamed B.named
  have hlocks := B.notSynchronized
  subst hsz
  have hD := hD0.self (sz := s.heap.size)
  generalize hAe : va_A [] s.heap.size = A at hD hZ ⊢
  have hA : ∀ q : Nat, s.heap.size ≤ q → A q := fun q h => by rw [← hAe]; exact Or.inr h
  have hl := lv_entry ([.int xa, .int xb, .int xc]) (n := 3) (Nat.le_of_ble_eq_true rfl)
  rw [lg_entry_eq]
  generalize (lg_sl ([.int xa, .int xb, .int xc]) ++ List.replicate (3 - (lg_sl ([.int xa, .int xb, .int xc])).length) Slot.unset).toArray = ls at hl ⊢
  have hl : lv_has ls 3 [(0, .int xa), (1, .int xb), (2, .int xc)] := hl
  refine g_start (A := A) hP (fun H locs hP hS => ?_)
  refine lv_iload_n hx hb dX11_cellIndex_0 rfl (lv_at hl 0 rfl) ?_
  refine lv_iconst (v := 0) hx hb dX11_cellIndex_1 (by decide) ?_
  refine lv_bipush (v := 7) hx hb dX11_cellIndex_2 (by decide) ?_
  refine g_calli (wr := []) (va_runS (As := [.int xa, .int 0, .int 7]) (rest := []) ⟨hx, hb, hml, hown, hts⟩ (m_in l dC dI H.size xa 0 7 ) (va_cwS 3 hts (gG_S kw_266 kw_267 kw_5 kw_268) rfl rfl rfl (by decide +kernel) ⟨Nat.le_of_ble_eq_true rfl, Nat.le_of_ble_eq_true rfl⟩) (g_preS hP hD hK hS hA hN hZ [] (by decide) rfl [] rfl) rfl rfl hl.1 rfl (lv_room (Nat.le_of_ble_eq_true rfl)) dX11_cellIndex_4 ⟨Nat.le_of_ble_eq_true rfl, Nat.le_of_ble_eq_true rfl⟩) hP hD hK hS hA [] [] rfl rfl (by decide +kernel) (by decide +kernel) (fun r_4 w ty1 H locs hw_4 hP hD _ hS => ?_)
  rcases hw_4 with ⟨hu, hr_4, hh_4⟩ | ⟨hu, hr_4, hh_4⟩
  · cases hu
    have hP : va_P (dC, dI) vwCl [] H := hP
    have hD : va_D A [] := hD
    refine g_topi (y := 1) hr_4 ?_
    refine lv_if_eq (tgt := 43) hx hb dX11_cellIndex_7 (by decide) (fun c_7 => absurd c_7 (by decide)) (fun c_7 => ?_)
    refine lv_iload_n hx hb dX11_cellIndex_10 rfl (lv_at hl 1 rfl) ?_
    refine lv_iconst (v := 0) hx hb dX11_cellIndex_11 (by decide) ?_
    refine lv_bipush (v := 63) hx hb dX11_cellIndex_12 (by decide) ?_
    refine g_calli (wr := []) (va_runS (As := [.int xb, .int 0, .int 63]) (rest := []) ⟨hx, hb, hml, hown, hts⟩ (m_in l dC dI H.size xb 0 63 ) (va_cwS 3 hts (gG_S kw_266 kw_267 kw_5 kw_268) rfl rfl rfl (by decide +kernel) ⟨Nat.le_of_ble_eq_true rfl, Nat.le_of_ble_eq_true rfl⟩) (g_preS hP hD hK hS hA hN hZ [] (by decide) rfl [] rfl) rfl rfl hl.1 rfl (lv_room (Nat.le_of_ble_eq_true rfl)) dX11_cellIndex_14 ⟨Nat.le_of_ble_eq_true rfl, Nat.le_of_ble_eq_true rfl⟩) hP hD hK hS hA [] [] rfl rfl (by decide +kernel) (by decide +kernel) (fun r_14 w ty1 H locs hw_14 hP hD _ hS => ?_)
    rcases hw_14 with ⟨hu, hr_14, hh_14⟩ | ⟨hu, hr_14, hh_14⟩
    · cases hu
      have hP : va_P (dC, dI) vwCl [] H := hP
      have hD : va_D A [] := hD
      refine g_topi (y := 1) hr_14 ?_
      refine lv_if_eq (tgt := 43) hx hb dX11_cellIndex_17 (by decide) (fun c_17 => absurd c_17 (by decide)) (fun c_17 => ?_)
      refine lv_iload_n hx hb dX11_cellIndex_20 rfl (lv_at hl 2 rfl) ?_
      refine lv_iconst (v := 0) hx hb dX11_cellIndex_21 (by decide) ?_
      refine lv_iconst (v := 3) hx hb dX11_cellIndex_22 (by decide) ?_
      refine g_calli (wr := []) (va_runS (As := [.int xc, .int 0, .int 3]) (rest := []) ⟨hx, hb, hml, hown, hts⟩ (m_in l dC dI H.size xc 0 3 ) (va_cwS 3 hts (gG_S kw_266 kw_267 kw_5 kw_268) rfl rfl rfl (by decide +kernel) ⟨Nat.le_of_ble_eq_true rfl, Nat.le_of_ble_eq_true rfl⟩) (g_preS hP hD hK hS hA hN hZ [] (by decide) rfl [] rfl) rfl rfl hl.1 rfl (lv_room (Nat.le_of_ble_eq_true rfl)) dX11_cellIndex_23 ⟨Nat.le_of_ble_eq_true rfl, Nat.le_of_ble_eq_true rfl⟩) hP hD hK hS hA [] [] rfl rfl (by decide +kernel) (by decide +kernel) (fun r_23 w ty1 H locs hw_23 hP hD _ hS => ?_)
      rcases hw_23 with ⟨hu, hr_23, hh_23⟩ | ⟨hu, hr_23, hh_23⟩
      · cases hu
        have hP : va_P (dC, dI) vwCl [] H := hP
        have hD : va_D A [] := hD
        refine g_topi (y := 1) hr_23 ?_
        obtain ⟨ca_, cb_, cd_, hca, hcb, hcd, eca, ecb, ecd⟩ := cells_n ⟨in7_8.mp hh_4, in63.mp hh_14, in3_4.mp hh_23⟩
        refine lv_if_eq (tgt := 43) hx hb dX11_cellIndex_26 (by decide) (fun c_26 => absurd c_26 (by decide)) (fun c_26 => ?_)
        refine lv_sipush (v := 256) hx hb dX11_cellIndex_29 (by decide) ?_
        refine lv_iload_n hx hb dX11_cellIndex_32 rfl (lv_at hl 0 rfl) ?_
        refine lv_imul hx hb dX11_cellIndex_33 ?_
        refine g_topi (y := nI (256 * ca_)) (by rw [eca]; exact pk_mul 256 _) ?_
        refine lv_iconst (v := 4) hx hb dX11_cellIndex_34 (by decide) ?_
        refine lv_iload_n hx hb dX11_cellIndex_35 rfl (lv_at hl 1 rfl) ?_
        refine lv_imul hx hb dX11_cellIndex_36 ?_
        refine g_topi (y := nI (4 * cb_)) (by rw [ecb]; exact pk_mul 4 _) ?_
        refine lv_iadd hx hb dX11_cellIndex_37 ?_
        refine g_topi (y := nI (256 * ca_ + 4 * cb_)) (nI_add _ _) ?_
        refine lv_iload_n hx hb dX11_cellIndex_38 rfl (lv_at hl 2 rfl) ?_
        refine lv_iadd hx hb dX11_cellIndex_39 ?_
        refine g_topi (y := nI (256 * ca_ + 4 * cb_ + cd_)) (by rw [ecd]; exact nI_add _ _) ?_
        refine lv_goto (tgt := 44) hx hb dX11_cellIndex_40 (by decide) ?_
        have hP9 := hP
        have hD9 := hD
        have hK9 := hK.sub (tys' := []) [] rfl
        exact W.iret (v := nI (256 * ca_ + 4 * cb_ + cd_)) hx hb hr (fun t ht hW => ⟨⟨nI (256 * ca_ + 4 * cb_ + cd_), ([], []), rfl, (Or.inl ⟨ca_, cb_, cd_, rfl, rfl, hca, hcb, hcd, eca, ecb, ecd⟩), by rw [ht]; exact hP9, va_K.moved hW.alike hK9, hD9⟩, hS.F ht⟩) hS.2.2 dX11_cellIndex_44
      cases hu
      have hP : va_P (dC, dI) vwCl [] H := hP
      have hD : va_D A [] := hD
      refine g_topi (y := 0) hr_23 ?_
      refine lv_if_eq (tgt := 43) hx hb dX11_cellIndex_26 (by decide) (fun c_26 => ?_) (fun c_26 => absurd c_26 (by decide))
      refine lv_iconst (v := (-1)) hx hb dX11_cellIndex_43 (by decide) ?_
      have hP9 := hP
      have hD9 := hD
      have hK9 := hK.sub (tys' := []) [] rfl
      exact W.iret (v := (-1)) hx hb hr (fun t ht hW => ⟨⟨(-1), ([], []), rfl, (Or.inr ⟨rfl, rfl, (fun qv => hh_23 (in3_4.mpr qv.2.2))⟩), by rw [ht]; exact hP9, va_K.moved hW.alike hK9, hD9⟩, hS.F ht⟩) hS.2.2 dX11_cellIndex_44
    cases hu
    have hP : va_P (dC, dI) vwCl [] H := hP
    have hD : va_D A [] := hD
    refine g_topi (y := 0) hr_14 ?_
    refine lv_if_eq (tgt := 43) hx hb dX11_cellIndex_17 (by decide) (fun c_17 => ?_) (fun c_17 => absurd c_17 (by decide))
    refine lv_iconst (v := (-1)) hx hb dX11_cellIndex_43 (by decide) ?_
    have hP9 := hP
    have hD9 := hD
    have hK9 := hK.sub (tys' := []) [] rfl
    exact W.iret (v := (-1)) hx hb hr (fun t ht hW => ⟨⟨(-1), ([], []), rfl, (Or.inr ⟨rfl, rfl, (fun qv => hh_14 (in63.mpr qv.2.1))⟩), by rw [ht]; exact hP9, va_K.moved hW.alike hK9, hD9⟩, hS.F ht⟩) hS.2.2 dX11_cellIndex_44
  cases hu
  have hP : va_P (dC, dI) vwCl [] H := hP
  have hD : va_D A [] := hD
  refine g_topi (y := 0) hr_4 ?_
  refine lv_if_eq (tgt := 43) hx hb dX11_cellIndex_7 (by decide) (fun c_7 => ?_) (fun c_7 => absurd c_7 (by decide))
  refine lv_iconst (v := (-1)) hx hb dX11_cellIndex_43 (by decide) ?_
  have hP9 := hP
  have hD9 := hD
  have hK9 := hK.sub (tys' := []) [] rfl
  exact W.iret (v := (-1)) hx hb hr (fun t ht hW => ⟨⟨(-1), ([], []), rfl, (Or.inr ⟨rfl, rfl, (fun qv => hh_4 (in7_8.mpr qv.1))⟩), by rw [ht]; exact hP9, va_K.moved hW.alike hK9, hD9⟩, hS.F ht⟩) hS.2.2 dX11_cellIndex_44

set_option maxHeartbeats 400000 in
set_option maxRecDepth 100000 in
theorem M_feed (l : Launch) (dC : Nat → ClassId) (dI : Nat → Nat → Nat) (sz : Nat) (h : Nat) (qa : Nat → Nat) (x0 x3 x4 x13 x14 x15 x16 x17 x18 x19 x20 x21 x22 x23 x24 x26 x27 x28 : Int32) (cB : ClassId) (LL : Nat) (ft : Nat → Int32) (xa xb xc xd xe : Int32) (hLL : LL ≤ 9000) : Met l yX11_feed (wsG (.code yX11_feed cX11_feed 6 (some .int))) ({ frames := 1, cells := 0, slots := 0, locals := 22 }) (va_Pc [.ref h, .int xa, .int xb, .int xc, .int xd, .int xe] (gP (dC, dI) [(cB, .byte)] [(h, .inr (10, mdF qa x0 (nI LL) x3 x4 x13 x14 x15 x16 x17 x18 x19 x20 x21 x22 x23 x24 x26 x27 x28)), (qa 1, .inl (cB, 9000, .inl ft))] sz)) (va_Qi (fun (r : Int32) (u : va_W × gT) => (u = ([(h, .inr (10, mdF qa x0 (nI (LL + 20)) x3 x4 x13 x14 x15 x16 x17 x18 x19 x20 x21 x22 x23 x24 x26 x27 x28)), (qa 1, .inl (cB, 9000, .inl (fb20 ft LL xa xb xc xd xe)))], []) ∧ r = nI (LL + 20) ∧ LL ≤ 8980) ∨ (u = ([(h, .inr (10, mdF qa x0 (nI LL) x3 x4 x13 x14 x15 x16 x17 x18 x19 x20 x21 x22 x23 x24 x26 x27 x28)), (qa 1, .inl (cB, 9000, .inl ft))], []) ∧ r = (-1) ∧ 8980 < LL)) (gB (dC, dI) (va_A [(h, .inr (10, mdF qa x0 (nI LL) x3 x4 x13 x14 x15 x16 x17 x18 x19 x20 x21 x22 x23 x24 x26 x27 x28)), (qa 1, .inl (cB, 9000, .inl ft))] sz)) (va_A [(h, .inr (10, mdF qa x0 (nI LL) x3 x4 x13 x14 x15 x16 x17 x18 x19 x20 x21 x22 x23 x24 x26 x27 x28)), (qa 1, .inl (cB, 9000, .inl ft))] sz)) 0 0 (va_A [(h, .inr (10, mdF qa x0 (nI LL) x3 x4 x13 x14 x15 x16 x17 x18 x19 x20 x21 x22 x23 x24 x26 x27 x28)), (qa 1, .inl (cB, 9000, .inl ft))] sz) := by
  refine Met.ofW (cc := cX11_feed) (maxL := 6) (ret := (some .int)) (by decide) rfl ?_
  intro p e s m args below meth c s₁ B hml hv
  obtain ⟨rfl, hsz, hP, hK, hD0, hN, hZ⟩ := hv
  have hx := B.exec
  have hb := B.bytes
  have hr := B.returns
  have hts := atoms_spec (ws := (wsG (.code yX11_feed cX11_feed 6 (some .int)))) B.pre
  have hown : s.vm.findClass RX11 = some m.cls := findClass_of_methodNamed B.named
  have hlocks := B.notSynchronized
  subst hsz
  have hD := hD0.self (sz := s.heap.size)
  generalize hAe : va_A [(h, .inr (10, mdF qa x0 (nI LL) x3 x4 x13 x14 x15 x16 x17 x18 x19 x20 x21 x22 x23 x24 x26 x27 x28)), (qa 1, .inl (cB, 9000, .inl ft))] s.heap.size = A at hD hZ ⊢
  have hA : ∀ q : Nat, s.heap.size ≤ q → A q := fun q h => by rw [← hAe]; exact Or.inr h
  have hl := lv_entry ([.ref h, .int xa, .int xb, .int xc, .int xd, .int xe]) (n := 6) (Nat.le_of_ble_eq_true rfl)
  rw [lg_entry_eq]
  generalize (lg_sl ([.ref h, .int xa, .int xb, .int xc, .int xd, .int xe]) ++ List.replicate (6 - (lg_sl ([.ref h, .int xa, .int xb, .int xc, .int xd, .int xe])).length) Slot.unset).toArray = ls at hl ⊢
  have hl : lv_has ls 6 [(0, .ref h), (1, .int xa), (2, .int xb), (3, .int xc), (4, .int xd), (5, .int xe)] := hl
  refine g_start (A := A) hP (fun H locs hP hS => ?_)
  refine lv_aload_n hx hb dX11_feed_0 rfl (lv_at hl 0 rfl) ?_
  refine va_get (D := (dC, dI)) (ci := 10) (v := .int (nI LL)) (C := RX11) (T := TX11) (N := 53) hx hb hts iwX11 hown hK hP 0 rfl rfl 2 (by decide) (hts (.fieldLink RX11 138 "ModulePlayerModel" "taped" "I") (List.mem_cons_of_mem _ kw_253)) (fun _ h9 => h9) rfl dX11_feed_1 ?_
  refine lv_sipush (v := 8980) hx hb dX11_feed_4 (by decide) ?_
  refine lv_icmp_le (tgt := 12) hx hb dX11_feed_7 (by decide) (fun c_7 => ?_) (fun c_7 => ?_)
  · refine lv_aload_n hx hb dX11_feed_12 rfl (lv_at hl 0 rfl) ?_
    refine lv_iload_n hx hb dX11_feed_13 rfl (lv_at hl 1 rfl) ?_
    refine g_callv (wr := []) (va_runV (As := [.int xa]) (rest := []) ⟨hx, hb, hml, hown, hts⟩ (g_types l dC dI H.size h qa x0 x3 x4 x13 x14 x15 x16 x17 x18 x19 x20 x21 x22 x23 x24 x26 x27 x28 cB LL ft xa (by have := nI_le' (b := 8980) c_7 (by omega) (by decide); omega)) (cwV 1 hts (gG_V kw_254 kw_255 kw_256 kw_5 kw_257) rfl rfl rfl (by decide +kernel) ⟨Nat.le_of_ble_eq_true rfl, Nat.le_of_ble_eq_true rfl⟩) (g_preV (C := RX11) (T := TX11) (N := 53) hP hD hK hS hA hN hZ (q0 := 0) rfl rfl [0, 1] (by decide +kernel) rfl [0] rfl) rfl rfl hl.1 rfl (lv_room (Nat.le_of_ble_eq_true rfl)) dX11_feed_14 ⟨Nat.le_of_ble_eq_true rfl, Nat.le_of_ble_eq_true rfl⟩) hP hD hK hS hA [0, 1] [] rfl rfl (by decide +kernel) (by decide +kernel) (fun w ty1 H locs hw_14 hP hD _ hS => ?_)
    have hu := hw_14
    cases hu
    have hP : va_P (dC, dI) vwCl [(h, .inr (10, mdF qa x0 (nI (LL + 4)) x3 x4 x13 x14 x15 x16 x17 x18 x19 x20 x21 x22 x23 x24 x26 x27 x28)), (qa 1, .inl (cB, 9000, .inl (fb4 ft LL xa)))] H := hP
    have hD : va_D A [(h, .inr (10, mdF qa x0 (nI (LL + 4)) x3 x4 x13 x14 x15 x16 x17 x18 x19 x20 x21 x22 x23 x24 x26 x27 x28)), (qa 1, .inl (cB, 9000, .inl (fb4 ft LL xa)))] := hD
    refine lv_aload_n hx hb dX11_feed_17 rfl (lv_at hl 0 rfl) ?_
    refine lv_iload_n hx hb dX11_feed_18 rfl (lv_at hl 2 rfl) ?_
    refine g_callv (wr := []) (va_runV (As := [.int xb]) (rest := []) ⟨hx, hb, hml, hown, hts⟩ (g_types l dC dI H.size h qa x0 x3 x4 x13 x14 x15 x16 x17 x18 x19 x20 x21 x22 x23 x24 x26 x27 x28 cB (LL + 4) (fb4 ft LL xa) xb (by have := nI_le' (b := 8980) c_7 (by omega) (by decide); omega)) (cwV 1 hts (gG_V kw_254 kw_255 kw_256 kw_5 kw_257) rfl rfl rfl (by decide +kernel) ⟨Nat.le_of_ble_eq_true rfl, Nat.le_of_ble_eq_true rfl⟩) (g_preV (C := RX11) (T := TX11) (N := 53) hP hD hK hS hA hN hZ (q0 := 0) rfl rfl [0, 1] (by decide +kernel) rfl [0] rfl) rfl rfl hl.1 rfl (lv_room (Nat.le_of_ble_eq_true rfl)) dX11_feed_19 ⟨Nat.le_of_ble_eq_true rfl, Nat.le_of_ble_eq_true rfl⟩) hP hD hK hS hA [0, 1] [] rfl rfl (by decide +kernel) (by decide +kernel) (fun w ty1 H locs hw_19 hP hD _ hS => ?_)
    have hu := hw_19
    cases hu
    have hP : va_P (dC, dI) vwCl [(h, .inr (10, mdF qa x0 (nI ((LL + 4) + 4)) x3 x4 x13 x14 x15 x16 x17 x18 x19 x20 x21 x22 x23 x24 x26 x27 x28)), (qa 1, .inl (cB, 9000, .inl (fb4 (fb4 ft LL xa) (LL + 4) xb)))] H := hP
    have hD : va_D A [(h, .inr (10, mdF qa x0 (nI ((LL + 4) + 4)) x3 x4 x13 x14 x15 x16 x17 x18 x19 x20 x21 x22 x23 x24 x26 x27 x28)), (qa 1, .inl (cB, 9000, .inl (fb4 (fb4 ft LL xa) (LL + 4) xb)))] := hD
    refine lv_aload_n hx hb dX11_feed_22 rfl (lv_at hl 0 rfl) ?_
    refine lv_iload_n hx hb dX11_feed_23 rfl (lv_at hl 3 rfl) ?_
    refine g_callv (wr := []) (va_runV (As := [.int xc]) (rest := []) ⟨hx, hb, hml, hown, hts⟩ (g_types l dC dI H.size h qa x0 x3 x4 x13 x14 x15 x16 x17 x18 x19 x20 x21 x22 x23 x24 x26 x27 x28 cB ((LL + 4) + 4) (fb4 (fb4 ft LL xa) (LL + 4) xb) xc (by have := nI_le' (b := 8980) c_7 (by omega) (by decide); omega)) (cwV 1 hts (gG_V kw_254 kw_255 kw_256 kw_5 kw_257) rfl rfl rfl (by decide +kernel) ⟨Nat.le_of_ble_eq_true rfl, Nat.le_of_ble_eq_true rfl⟩) (g_preV (C := RX11) (T := TX11) (N := 53) hP hD hK hS hA hN hZ (q0 := 0) rfl rfl [0, 1] (by decide +kernel) rfl [0] rfl) rfl rfl hl.1 rfl (lv_room (Nat.le_of_ble_eq_true rfl)) dX11_feed_24 ⟨Nat.le_of_ble_eq_true rfl, Nat.le_of_ble_eq_true rfl⟩) hP hD hK hS hA [0, 1] [] rfl rfl (by decide +kernel) (by decide +kernel) (fun w ty1 H locs hw_24 hP hD _ hS => ?_)
    have hu := hw_24
    cases hu
    have hP : va_P (dC, dI) vwCl [(h, .inr (10, mdF qa x0 (nI (((LL + 4) + 4) + 4)) x3 x4 x13 x14 x15 x16 x17 x18 x19 x20 x21 x22 x23 x24 x26 x27 x28)), (qa 1, .inl (cB, 9000, .inl (fb4 (fb4 (fb4 ft LL xa) (LL + 4) xb) ((LL + 4) + 4) xc)))] H := hP
    have hD : va_D A [(h, .inr (10, mdF qa x0 (nI (((LL + 4) + 4) + 4)) x3 x4 x13 x14 x15 x16 x17 x18 x19 x20 x21 x22 x23 x24 x26 x27 x28)), (qa 1, .inl (cB, 9000, .inl (fb4 (fb4 (fb4 ft LL xa) (LL + 4) xb) ((LL + 4) + 4) xc)))] := hD
    refine lv_aload_n hx hb dX11_feed_27 rfl (lv_at hl 0 rfl) ?_
    refine lv_iload hx hb dX11_feed_28 (lv_at hl 4 rfl) ?_
    refine g_callv (wr := []) (va_runV (As := [.int xd]) (rest := []) ⟨hx, hb, hml, hown, hts⟩ (g_types l dC dI H.size h qa x0 x3 x4 x13 x14 x15 x16 x17 x18 x19 x20 x21 x22 x23 x24 x26 x27 x28 cB (((LL + 4) + 4) + 4) (fb4 (fb4 (fb4 ft LL xa) (LL + 4) xb) ((LL + 4) + 4) xc) xd (by have := nI_le' (b := 8980) c_7 (by omega) (by decide); omega)) (cwV 1 hts (gG_V kw_254 kw_255 kw_256 kw_5 kw_257) rfl rfl rfl (by decide +kernel) ⟨Nat.le_of_ble_eq_true rfl, Nat.le_of_ble_eq_true rfl⟩) (g_preV (C := RX11) (T := TX11) (N := 53) hP hD hK hS hA hN hZ (q0 := 0) rfl rfl [0, 1] (by decide +kernel) rfl [0] rfl) rfl rfl hl.1 rfl (lv_room (Nat.le_of_ble_eq_true rfl)) dX11_feed_30 ⟨Nat.le_of_ble_eq_true rfl, Nat.le_of_ble_eq_true rfl⟩) hP hD hK hS hA [0, 1] [] rfl rfl (by decide +kernel) (by decide +kernel) (fun w ty1 H locs hw_30 hP hD _ hS => ?_)
    have hu := hw_30
    cases hu
    have hP : va_P (dC, dI) vwCl [(h, .inr (10, mdF qa x0 (nI ((((LL + 4) + 4) + 4) + 4)) x3 x4 x13 x14 x15 x16 x17 x18 x19 x20 x21 x22 x23 x24 x26 x27 x28)), (qa 1, .inl (cB, 9000, .inl (fb4 (fb4 (fb4 (fb4 ft LL xa) (LL + 4) xb) ((LL + 4) + 4) xc) (((LL + 4) + 4) + 4) xd)))] H := hP
    have hD : va_D A [(h, .inr (10, mdF qa x0 (nI ((((LL + 4) + 4) + 4) + 4)) x3 x4 x13 x14 x15 x16 x17 x18 x19 x20 x21 x22 x23 x24 x26 x27 x28)), (qa 1, .inl (cB, 9000, .inl (fb4 (fb4 (fb4 (fb4 ft LL xa) (LL + 4) xb) ((LL + 4) + 4) xc) (((LL + 4) + 4) + 4) xd)))] := hD
    refine lv_aload_n hx hb dX11_feed_33 rfl (lv_at hl 0 rfl) ?_
    refine lv_iload hx hb dX11_feed_34 (lv_at hl 5 rfl) ?_
    refine g_callv (wr := []) (va_runV (As := [.int xe]) (rest := []) ⟨hx, hb, hml, hown, hts⟩ (g_types l dC dI H.size h qa x0 x3 x4 x13 x14 x15 x16 x17 x18 x19 x20 x21 x22 x23 x24 x26 x27 x28 cB ((((LL + 4) + 4) + 4) + 4) (fb4 (fb4 (fb4 (fb4 ft LL xa) (LL + 4) xb) ((LL + 4) + 4) xc) (((LL + 4) + 4) + 4) xd) xe (by have := nI_le' (b := 8980) c_7 (by omega) (by decide); omega)) (cwV 1 hts (gG_V kw_254 kw_255 kw_256 kw_5 kw_257) rfl rfl rfl (by decide +kernel) ⟨Nat.le_of_ble_eq_true rfl, Nat.le_of_ble_eq_true rfl⟩) (g_preV (C := RX11) (T := TX11) (N := 53) hP hD hK hS hA hN hZ (q0 := 0) rfl rfl [0, 1] (by decide +kernel) rfl [0] rfl) rfl rfl hl.1 rfl (lv_room (Nat.le_of_ble_eq_true rfl)) dX11_feed_36 ⟨Nat.le_of_ble_eq_true rfl, Nat.le_of_ble_eq_true rfl⟩) hP hD hK hS hA [0, 1] [] rfl rfl (by decide +kernel) (by decide +kernel) (fun w ty1 H locs hw_36 hP hD _ hS => ?_)
    have hu := hw_36
    cases hu
    have hP : va_P (dC, dI) vwCl [(h, .inr (10, mdF qa x0 (nI (((((LL + 4) + 4) + 4) + 4) + 4)) x3 x4 x13 x14 x15 x16 x17 x18 x19 x20 x21 x22 x23 x24 x26 x27 x28)), (qa 1, .inl (cB, 9000, .inl (fb4 (fb4 (fb4 (fb4 (fb4 ft LL xa) (LL + 4) xb) ((LL + 4) + 4) xc) (((LL + 4) + 4) + 4) xd) ((((LL + 4) + 4) + 4) + 4) xe)))] H := hP
    have hD : va_D A [(h, .inr (10, mdF qa x0 (nI (((((LL + 4) + 4) + 4) + 4) + 4)) x3 x4 x13 x14 x15 x16 x17 x18 x19 x20 x21 x22 x23 x24 x26 x27 x28)), (qa 1, .inl (cB, 9000, .inl (fb4 (fb4 (fb4 (fb4 (fb4 ft LL xa) (LL + 4) xb) ((LL + 4) + 4) xc) (((LL + 4) + 4) + 4) xd) ((((LL + 4) + 4) + 4) + 4) xe)))] := hD
    refine lv_aload_n hx hb dX11_feed_39 rfl (lv_at hl 0 rfl) ?_
    refine va_get (D := (dC, dI)) (ci := 10) (v := .int (nI (((((LL + 4) + 4) + 4) + 4) + 4))) (C := RX11) (T := TX11) (N := 53) hx hb hts iwX11 hown hK hP 0 rfl rfl 2 (by decide) (hts (.fieldLink RX11 138 "ModulePlayerModel" "taped" "I") (List.mem_cons_of_mem _ kw_253)) (fun _ h9 => h9) rfl dX11_feed_40 ?_
    have hP9 := hP
    have hD9 := hD
    have hK9 := hK.sub (tys' := []) [] rfl
    exact W.iret (v := nI (((((LL + 4) + 4) + 4) + 4) + 4)) hx hb hr (fun t ht hW => ⟨⟨nI (((((LL + 4) + 4) + 4) + 4) + 4), _, rfl, (Or.inl ⟨rfl, rfl, (nI_le' (b := 8980) c_7 (by omega) (by decide))⟩), by rw [ht]; exact hP9, va_K.moved hW.alike hK9, hD9⟩, hS.F ht⟩) hS.2.2 dX11_feed_43
  refine lv_iconst (v := (-1)) hx hb dX11_feed_10 (by decide) ?_
  have hP9 := hP
  have hD9 := hD
  have hK9 := hK.sub (tys' := []) [] rfl
  exact W.iret (v := (-1)) hx hb hr (fun t ht hW => ⟨⟨(-1), _, rfl, (Or.inr ⟨rfl, rfl, (nI_nle' (b := 8980) c_7 (by decide))⟩), by rw [ht]; exact hP9, va_K.moved hW.alike hK9, hD9⟩, hS.F ht⟩) hS.2.2 dX11_feed_11

set_option maxHeartbeats 400000 in
set_option maxRecDepth 100000 in
theorem M_end (l : Launch) (dC : Nat → ClassId) (dI : Nat → Nat → Nat) (sz : Nat) (h : Nat) (qa : Nat → Nat) (x0 x3 x4 x13 x14 x15 x16 x17 x18 x19 x20 x21 x22 x23 x24 x26 x27 x28 : Int32) (LL : Nat) (n : Int32) (hLL : LL ≤ 9000) : Met l yX11_end (wsG (.code yX11_end cX11_end 2 (some .boolean))) ({ frames := 1, cells := 0, slots := 0, locals := 22 }) (va_Pc [.ref h, .int n] (gP (dC, dI) [] [(h, .inr (10, mdF qa x0 (nI LL) x3 x4 x13 x14 x15 x16 x17 x18 x19 x20 x21 x22 x23 x24 x26 x27 x28))] sz)) (va_Qi (fun (r : Int32) (u : va_W × gT) => (∃ (jn : Nat), u = ([(h, .inr (10, mdF qa x0 (nI jn) x3 x4 x13 x14 x15 x16 x17 x18 x19 x20 x21 x22 x23 x24 x26 x27 x28))], []) ∧ r = 1 ∧ jn ≤ LL ∧ n = nI jn) ∨ (u = ([(h, .inr (10, mdF qa x0 (nI LL) x3 x4 x13 x14 x15 x16 x17 x18 x19 x20 x21 x22 x23 x24 x26 x27 x28))], []) ∧ r = 0 ∧ ¬ (0 ≤ n ∧ n ≤ nI LL))) (gB (dC, dI) (va_A [(h, .inr (10, mdF qa x0 (nI LL) x3 x4 x13 x14 x15 x16 x17 x18 x19 x20 x21 x22 x23 x24 x26 x27 x28))] sz)) (va_A [(h, .inr (10, mdF qa x0 (nI LL) x3 x4 x13 x14 x15 x16 x17 x18 x19 x20 x21 x22 x23 x24 x26 x27 x28))] sz)) 0 0 (va_A [(h, .inr (10, mdF qa x0 (nI LL) x3 x4 x13 x14 x15 x16 x17 x18 x19 x20 x21 x22 x23 x24 x26 x27 x28))] sz) := by
  refine Met.ofW (cc := cX11_end) (maxL := 2) (ret := (some .boolean)) (by decide) rfl ?_
  intro p e s m args below meth c s₁ B hml hv
  obtain ⟨rfl, hsz, hP, hK, hD0, hN, hZ⟩ := hv
  have hx := B.exec
  have hb := B.bytes
  have hr := B.returns
  have hts := atoms_spec (ws := (wsG (.code yX11_end cX11_end 2 (some .boolean)))) B.pre
  have hown : s.vm.findClass RX11 = some m.cls := findClass_of_methodNamed B.named
  have hlocks := B.notSynchronized
  subst hsz
  have hD := hD0.self (sz := s.heap.size)
  generalize hAe : va_A [(h, .inr (10, mdF qa x0 (nI LL) x3 x4 x13 x14 x15 x16 x17 x18 x19 x20 x21 x22 x23 x24 x26 x27 x28))] s.heap.size = A at hD hZ ⊢
  have hA : ∀ q : Nat, s.heap.size ≤ q → A q := fun q h => by rw [← hAe]; exact Or.inr h
  have hl := lv_entry ([.ref h, .int n]) (n := 2) (Nat.le_of_ble_eq_true rfl)
  rw [lg_entry_eq]
  generalize (lg_sl ([.ref h, .int n]) ++ List.replicate (2 - (lg_sl ([.ref h, .int n])).length) Slot.unset).toArray = ls at hl ⊢
  have hl : lv_has ls 2 [(0, .ref h), (1, .int n)] := hl
  refine g_start (A := A) hP (fun H locs hP hS => ?_)
  refine lv_iload_n hx hb dX11_end_0 rfl (lv_at hl 1 rfl) ?_
  refine lv_iconst (v := 0) hx hb dX11_end_1 (by decide) ?_
  refine lv_aload_n hx hb dX11_end_2 rfl (lv_at hl 0 rfl) ?_
  refine va_get (D := (dC, dI)) (ci := 10) (v := .int (nI LL)) (C := RX11) (T := TX11) (N := 53) hx hb hts iwX11 hown hK hP 0 rfl rfl 2 (by decide) (hts (.fieldLink RX11 138 "ModulePlayerModel" "taped" "I") (List.mem_cons_of_mem _ kw_253)) (fun _ h9 => h9) rfl dX11_end_3 ?_
  refine g_calli (wr := [(h, .inr (10, mdF qa x0 (nI LL) x3 x4 x13 x14 x15 x16 x17 x18 x19 x20 x21 x22 x23 x24 x26 x27 x28))]) (va_runS (As := [.int n, .int 0, .int (nI LL)]) (rest := []) ⟨hx, hb, hml, hown, hts⟩ (m_in l dC dI H.size n 0 (nI LL) ) (va_cwS 3 hts (gG_S kw_266 kw_267 kw_5 kw_268) rfl rfl rfl (by decide +kernel) ⟨Nat.le_of_ble_eq_true rfl, Nat.le_of_ble_eq_true rfl⟩) (g_preS hP hD hK hS hA hN hZ [] (by decide) rfl [] rfl) rfl rfl hl.1 rfl (lv_room (Nat.le_of_ble_eq_true rfl)) dX11_end_6 ⟨Nat.le_of_ble_eq_true rfl, Nat.le_of_ble_eq_true rfl⟩) hP hD hK hS hA [] [0] rfl rfl (by decide +kernel) (by decide +kernel) (fun r_6 w ty1 H locs hw_6 hP hD _ hS => ?_)
  rcases hw_6 with ⟨hu, hr_6, hh_6⟩ | ⟨hu, hr_6, hh_6⟩
  · cases hu
    have hP : va_P (dC, dI) vwCl [(h, .inr (10, mdF qa x0 (nI LL) x3 x4 x13 x14 x15 x16 x17 x18 x19 x20 x21 x22 x23 x24 x26 x27 x28))] H := hP
    have hD : va_D A [(h, .inr (10, mdF qa x0 (nI LL) x3 x4 x13 x14 x15 x16 x17 x18 x19 x20 x21 x22 x23 x24 x26 x27 x28))] := hD
    refine g_topi (y := 1) hr_6 ?_
    refine lv_if_ne (tgt := 14) hx hb dX11_end_9 (by decide) (fun c_9 => ?_) (fun c_9 => absurd c_9 (by decide))
    obtain ⟨jn, hjn, ejn⟩ := nI_of2 (M := nI LL) (n := LL) (nI_toInt (by omega)) (i_nlt.mpr hh_6.1) hh_6.2
    refine lv_aload_n hx hb dX11_end_14 rfl (lv_at hl 0 rfl) ?_
    refine lv_iload_n hx hb dX11_end_15 rfl (lv_at hl 1 rfl) ?_
    refine va_put (D := (dC, dI)) (ci := 10) (v := .int n) (ty := tyX11 2) (C := RX11) (T := TX11) (N := 53) hx hb hts iwX11 tyX11 tyX11_ok nmX11 hown hK hP hD hS 0 rfl rfl 2 (by decide) (hts (.fieldLink RX11 138 "ModulePlayerModel" "taped" "I") (List.mem_cons_of_mem _ kw_253)) (fun _ h9 => h9) rfl (by decide +kernel) (rfl) (rfl) (Nat.le_of_ble_eq_true rfl) dX11_end_16 (fun H locs hP hD hS => ?_)
    have hP : va_P (dC, dI) vwCl [(h, .inr (10, mdF qa x0 n x3 x4 x13 x14 x15 x16 x17 x18 x19 x20 x21 x22 x23 x24 x26 x27 x28))] H := hP
    have hD : va_D A [(h, .inr (10, mdF qa x0 n x3 x4 x13 x14 x15 x16 x17 x18 x19 x20 x21 x22 x23 x24 x26 x27 x28))] := hD
    rw [ejn] at hP hD
    refine lv_iconst (v := 1) hx hb dX11_end_19 (by decide) ?_
    have hP9 := hP
    have hD9 := hD
    have hK9 := hK.sub (tys' := []) [] rfl
    exact W.zret (v := 1) hx hb hr (by decide) (fun t ht hW => ⟨⟨1, _, rfl, (Or.inl ⟨jn, rfl, rfl, hjn, ejn⟩), by rw [ht]; exact hP9, va_K.moved hW.alike hK9, hD9⟩, hS.F ht⟩) hS.2.2 dX11_end_20
  cases hu
  have hP : va_P (dC, dI) vwCl [(h, .inr (10, mdF qa x0 (nI LL) x3 x4 x13 x14 x15 x16 x17 x18 x19 x20 x21 x22 x23 x24 x26 x27 x28))] H := hP
  have hD : va_D A [(h, .inr (10, mdF qa x0 (nI LL) x3 x4 x13 x14 x15 x16 x17 x18 x19 x20 x21 x22 x23 x24 x26 x27 x28))] := hD
  refine g_topi (y := 0) hr_6 ?_
  refine lv_if_ne (tgt := 14) hx hb dX11_end_9 (by decide) (fun c_9 => absurd c_9 (by decide)) (fun c_9 => ?_)
  refine lv_iconst (v := 0) hx hb dX11_end_12 (by decide) ?_
  have hP9 := hP
  have hD9 := hD
  have hK9 := hK.sub (tys' := []) [] rfl
  exact W.zret (v := 0) hx hb hr (by decide) (fun t ht hW => ⟨⟨0, _, rfl, (Or.inr ⟨rfl, rfl, hh_6⟩), by rw [ht]; exact hP9, va_K.moved hW.alike hK9, hD9⟩, hS.F ht⟩) hS.2.2 dX11_end_13

set_option maxHeartbeats 400000 in
set_option maxRecDepth 100000 in
theorem M_poke (l : Launch) (dC : Nat → ClassId) (dI : Nat → Nat → Nat) (sz : Nat) (h : Nat) (qa : Nat → Nat) (x0 x3 x4 x13 x14 x15 x16 x17 x18 x19 x20 x21 x22 x23 x24 x26 x27 x28 : Int32) (cB : ClassId) (LL : Nat) (ft : Nat → Int32) (i v : Int32) (hLL : LL ≤ 9000) : Met l yX11_poke (wsG (.code yX11_poke cX11_poke 3 (some .int))) ({ frames := 1, cells := 0, slots := 0, locals := 22 }) (va_Pc [.ref h, .int i, .int v] (gP (dC, dI) [(cB, .byte)] [(h, .inr (10, mdF qa x0 (nI LL) x3 x4 x13 x14 x15 x16 x17 x18 x19 x20 x21 x22 x23 x24 x26 x27 x28)), (qa 1, .inl (cB, 9000, .inl ft))] sz)) (va_Qi (fun (r : Int32) (u : va_W × gT) => (∃ (jp : Nat) (km : Nat), u = ([(h, .inr (10, mdF qa x0 (nI km) x3 x4 x13 x14 x15 x16 x17 x18 x19 x20 x21 x22 x23 x24 x26 x27 x28)), (qa 1, .inl (cB, 9000, .inl (upd (fzb ft LL km) jp v.toInt8.toInt32)))], []) ∧ r = nI km ∧ jp < 9000 ∧ i = nI jp ∧ jp < km ∧ ((km = LL ∨ km = jp + 1)) ∧ LL ≤ km) ∨ (u = ([(h, .inr (10, mdF qa x0 (nI LL) x3 x4 x13 x14 x15 x16 x17 x18 x19 x20 x21 x22 x23 x24 x26 x27 x28)), (qa 1, .inl (cB, 9000, .inl ft))], []) ∧ r = (-1) ∧ ¬ (0 ≤ i ∧ i < 9000))) (gB (dC, dI) (va_A [(h, .inr (10, mdF qa x0 (nI LL) x3 x4 x13 x14 x15 x16 x17 x18 x19 x20 x21 x22 x23 x24 x26 x27 x28)), (qa 1, .inl (cB, 9000, .inl ft))] sz)) (va_A [(h, .inr (10, mdF qa x0 (nI LL) x3 x4 x13 x14 x15 x16 x17 x18 x19 x20 x21 x22 x23 x24 x26 x27 x28)), (qa 1, .inl (cB, 9000, .inl ft))] sz)) 0 0 (va_A [(h, .inr (10, mdF qa x0 (nI LL) x3 x4 x13 x14 x15 x16 x17 x18 x19 x20 x21 x22 x23 x24 x26 x27 x28)), (qa 1, .inl (cB, 9000, .inl ft))] sz) := by
  refine Met.ofW (cc := cX11_poke) (maxL := 3) (ret := (some .int)) (by decide) rfl ?_
  intro p e s m args below meth c s₁ B hml hv
  obtain ⟨rfl, hsz, hP, hK, hD0, hN, hZ⟩ := hv
  have hx := B.exec
  have hb := B.bytes
  have hr := B.returns
  have hts := atoms_spec (ws := (wsG (.code yX11_poke cX11_poke 3 (some .int)))) B.pre
  have hown : s.vm.findClass RX11 = some m.cls := findClass_of_methodNamed B.named
  have hlocks := B.notSynchronized
  subst hsz
  have hD := hD0.self (sz := s.heap.size)
  generalize hAe : va_A [(h, .inr (10, mdF qa x0 (nI LL) x3 x4 x13 x14 x15 x16 x17 x18 x19 x20 x21 x22 x23 x24 x26 x27 x28)), (qa 1, .inl (cB, 9000, .inl ft))] s.heap.size = A at hD hZ ⊢
  have hA : ∀ q : Nat, s.heap.size ≤ q → A q := fun q h => by rw [← hAe]; exact Or.inr h
  have hl := lv_entry ([.ref h, .int i, .int v]) (n := 3) (Nat.le_of_ble_eq_true rfl)
  rw [lg_entry_eq]
  generalize (lg_sl ([.ref h, .int i, .int v]) ++ List.replicate (3 - (lg_sl ([.ref h, .int i, .int v])).length) Slot.unset).toArray = ls at hl ⊢
  have hl : lv_has ls 3 [(0, .ref h), (1, .int i), (2, .int v)] := hl
  refine g_start (A := A) hP (fun H locs hP hS => ?_)
  refine lv_iload_n hx hb dX11_poke_0 rfl (lv_at hl 1 rfl) ?_
  refine lv_iconst (v := 0) hx hb dX11_poke_1 (by decide) ?_
  refine lv_sipush (v := 8999) hx hb dX11_poke_2 (by decide) ?_
  refine g_calli (wr := [(h, .inr (10, mdF qa x0 (nI LL) x3 x4 x13 x14 x15 x16 x17 x18 x19 x20 x21 x22 x23 x24 x26 x27 x28)), (qa 1, .inl (cB, 9000, .inl ft))]) (va_runS (As := [.int i, .int 0, .int 8999]) (rest := []) ⟨hx, hb, hml, hown, hts⟩ (m_in l dC dI H.size i 0 8999 ) (va_cwS 3 hts (gG_S kw_266 kw_267 kw_5 kw_268) rfl rfl rfl (by decide +kernel) ⟨Nat.le_of_ble_eq_true rfl, Nat.le_of_ble_eq_true rfl⟩) (g_preS hP hD hK hS hA hN hZ [] (by decide) rfl [] rfl) rfl rfl hl.1 rfl (lv_room (Nat.le_of_ble_eq_true rfl)) dX11_poke_5 ⟨Nat.le_of_ble_eq_true rfl, Nat.le_of_ble_eq_true rfl⟩) hP hD hK hS hA [] [0, 1] rfl rfl (by decide +kernel) (by decide +kernel) (fun r_5 w ty1 H locs hw_5 hP hD _ hS => ?_)
  rcases hw_5 with ⟨hu, hr_5, hh_5⟩ | ⟨hu, hr_5, hh_5⟩
  · cases hu
    have hP : va_P (dC, dI) vwCl [(h, .inr (10, mdF qa x0 (nI LL) x3 x4 x13 x14 x15 x16 x17 x18 x19 x20 x21 x22 x23 x24 x26 x27 x28)), (qa 1, .inl (cB, 9000, .inl ft))] H := hP
    have hD : va_D A [(h, .inr (10, mdF qa x0 (nI LL) x3 x4 x13 x14 x15 x16 x17 x18 x19 x20 x21 x22 x23 x24 x26 x27 x28)), (qa 1, .inl (cB, 9000, .inl ft))] := hD
    refine g_topi (y := 1) hr_5 ?_
    obtain ⟨jo, hjo, hij⟩ := i_in (n := 9000) (by decide) (in8999.mp hh_5).1 (in8999.mp hh_5).2
    subst hij
    refine lv_if_ne (tgt := 13) hx hb dX11_poke_8 (by decide) (fun c_8 => ?_) (fun c_8 => absurd c_8 (by decide))
    rw [← fzb_0 ft LL] at hP hD
    have LP13 : ∀ (fu13 : Nat) (km : Nat) (hkm1 : LL ≤ km) (hkm2 : km = LL ∨ km ≤ jo + 1) (hm13 : 9001 - km < fu13) (H : Heap) (locs : List Loc), va_P (dC, dI) vwCl [(h, .inr (10, mdF qa x0 (nI km) x3 x4 x13 x14 x15 x16 x17 x18 x19 x20 x21 x22 x23 x24 x26 x27 x28)), (qa 1, .inl (cB, 9000, .inl (fzb ft LL km)))] H → va_D A [(h, .inr (10, mdF qa x0 (nI km) x3 x4 x13 x14 x15 x16 x17 x18 x19 x20 x21 x22 x23 x24 x26 x27 x28)), (qa 1, .inl (cB, 9000, .inl (fzb ft LL km)))] → va_S A s.heap H locs → ∀ ls : Array Slot, lv_has ls 3 [(0, .ref h), (1, .int (nI jo)), (2, .int v)] → W p l e ({ frames := 1, cells := 0, slots := 0, locals := 22 }) s m ([.ref h, .int (nI jo), .int v] : List Value).toArray below meth c H locs (0) (0) (MQ below (va_Qi (fun (r : Int32) (u : va_W × gT) => (∃ (jp : Nat) (km : Nat), u = ([(h, .inr (10, mdF qa x0 (nI km) x3 x4 x13 x14 x15 x16 x17 x18 x19 x20 x21 x22 x23 x24 x26 x27 x28)), (qa 1, .inl (cB, 9000, .inl (upd (fzb ft LL km) jp v.toInt8.toInt32)))], []) ∧ r = nI km ∧ jp < 9000 ∧ (nI jo) = nI jp ∧ jp < km ∧ ((km = LL ∨ km = jp + 1)) ∧ LL ≤ km) ∨ (u = ([(h, .inr (10, mdF qa x0 (nI LL) x3 x4 x13 x14 x15 x16 x17 x18 x19 x20 x21 x22 x23 x24 x26 x27 x28)), (qa 1, .inl (cB, 9000, .inl ft))], []) ∧ r = (-1) ∧ ¬ (0 ≤ (nI jo) ∧ (nI jo) < 9000))) (gB (dC, dI) A) A) ([.ref h, .int (nI jo), .int v] : List Value).toArray s 0 0 A) (F0 m 13 ls []) := by
      intro fu13
      induction fu13 with
      | zero => intro km hkm1 hkm2 hm13; exact absurd hm13 (Nat.not_lt_zero _)
      | succ fu13 ih13 =>
        intro km hkm1 hkm2 hm13 H locs hP hD hS ls hl
        refine lv_aload_n hx hb dX11_poke_13 rfl (lv_at hl 0 rfl) ?_
        refine va_get (D := (dC, dI)) (ci := 10) (v := .int (nI km)) (C := RX11) (T := TX11) (N := 53) hx hb hts iwX11 hown hK hP 0 rfl rfl 2 (by decide) (hts (.fieldLink RX11 138 "ModulePlayerModel" "taped" "I") (List.mem_cons_of_mem _ kw_253)) (fun _ h9 => h9) rfl dX11_poke_14 ?_
        refine lv_iload_n hx hb dX11_poke_17 rfl (lv_at hl 1 rfl) ?_
        refine lv_icmp_gt (tgt := 44) hx hb dX11_poke_18 (by decide) (fun c_18 => ?_) (fun c_18 => ?_)
        · refine lv_aload_n hx hb dX11_poke_44 rfl (lv_at hl 0 rfl) ?_
          refine va_get (D := (dC, dI)) (ci := 10) (v := .ref (qa 1)) (C := RX11) (T := TX11) (N := 53) hx hb hts iwX11 hown hK hP 0 rfl rfl 1 (by decide) (hts (.fieldLink RX11 9 "ModulePlayerModel" "tape" "[B") (List.mem_cons_of_mem _ kw_171)) (fun _ h9 => h9) rfl dX11_poke_45 ?_
          refine lv_iload_n hx hb dX11_poke_48 rfl (lv_at hl 1 rfl) ?_
          refine lv_iload_n hx hb dX11_poke_49 rfl (lv_at hl 2 rfl) ?_
          refine lv_i2b (v := v.toInt8.toInt32) hx hb dX11_poke_50 rfl ?_
          refine g_bast hx hb hK hP hD hS 1 0 rfl rfl (x' := v.toInt8.toInt32) (pk_vb _) jo (nI_clamp (Nat.lt_trans (show jo < 9000 from hjo) (by decide))) (vp_in_nI (hjo) (by decide)) dX11_poke_51 (fun H locs hP hD hS => ?_)
          have hP : va_P (dC, dI) vwCl [(h, .inr (10, mdF qa x0 (nI km) x3 x4 x13 x14 x15 x16 x17 x18 x19 x20 x21 x22 x23 x24 x26 x27 x28)), (qa 1, .inl (cB, 9000, .inl (upd (fzb ft LL km) jo v.toInt8.toInt32)))] H := hP
          have hD : va_D A [(h, .inr (10, mdF qa x0 (nI km) x3 x4 x13 x14 x15 x16 x17 x18 x19 x20 x21 x22 x23 x24 x26 x27 x28)), (qa 1, .inl (cB, 9000, .inl (upd (fzb ft LL km) jo v.toInt8.toInt32)))] := hD
          refine lv_aload_n hx hb dX11_poke_52 rfl (lv_at hl 0 rfl) ?_
          refine va_get (D := (dC, dI)) (ci := 10) (v := .int (nI km)) (C := RX11) (T := TX11) (N := 53) hx hb hts iwX11 hown hK hP 0 rfl rfl 2 (by decide) (hts (.fieldLink RX11 138 "ModulePlayerModel" "taped" "I") (List.mem_cons_of_mem _ kw_253)) (fun _ h9 => h9) rfl dX11_poke_53 ?_
          have hP9 := hP
          have hD9 := hD
          have hK9 := hK.sub (tys' := []) [] rfl
          exact W.iret (v := nI km) hx hb hr (fun t ht hW => ⟨⟨nI km, _, rfl, (Or.inl ⟨jo, km, rfl, rfl, hjo, rfl, (nI_lt' c_18 (by omega) (by omega)), (by have := nI_lt' c_18 (by omega) (by omega); omega), hkm1⟩), by rw [ht]; exact hP9, va_K.moved hW.alike hK9, hD9⟩, hS.F ht⟩) hS.2.2 dX11_poke_56
        refine lv_aload_n hx hb dX11_poke_21 rfl (lv_at hl 0 rfl) ?_
        refine va_get (D := (dC, dI)) (ci := 10) (v := .ref (qa 1)) (C := RX11) (T := TX11) (N := 53) hx hb hts iwX11 hown hK hP 0 rfl rfl 1 (by decide) (hts (.fieldLink RX11 9 "ModulePlayerModel" "tape" "[B") (List.mem_cons_of_mem _ kw_171)) (fun _ h9 => h9) rfl dX11_poke_22 ?_
        refine lv_aload_n hx hb dX11_poke_25 rfl (lv_at hl 0 rfl) ?_
        refine va_get (D := (dC, dI)) (ci := 10) (v := .int (nI km)) (C := RX11) (T := TX11) (N := 53) hx hb hts iwX11 hown hK hP 0 rfl rfl 2 (by decide) (hts (.fieldLink RX11 138 "ModulePlayerModel" "taped" "I") (List.mem_cons_of_mem _ kw_253)) (fun _ h9 => h9) rfl dX11_poke_26 ?_
        refine lv_iconst (v := 0) hx hb dX11_poke_29 (by decide) ?_
        refine g_bast hx hb hK hP hD hS 1 0 rfl rfl (x' := 0) (by decide) km (nI_clamp (Nat.lt_trans (show km < 9000 from by have := nI_nlt2 c_18 (by omega); omega) (by decide))) (vp_in_nI (by have := nI_nlt2 c_18 (by omega); omega) (by decide)) dX11_poke_30 (fun H locs hP hD hS => ?_)
        have hP : va_P (dC, dI) vwCl [(h, .inr (10, mdF qa x0 (nI km) x3 x4 x13 x14 x15 x16 x17 x18 x19 x20 x21 x22 x23 x24 x26 x27 x28)), (qa 1, .inl (cB, 9000, .inl (upd (fzb ft LL km) km 0)))] H := hP
        have hD : va_D A [(h, .inr (10, mdF qa x0 (nI km) x3 x4 x13 x14 x15 x16 x17 x18 x19 x20 x21 x22 x23 x24 x26 x27 x28)), (qa 1, .inl (cB, 9000, .inl (upd (fzb ft LL km) km 0)))] := hD
        have hfe_30 : upd (fzb ft LL km) km 0 = fzb ft LL (km + 1) := fzb_s hkm1
        rw [hfe_30] at hP hD
        refine lv_aload_n hx hb dX11_poke_31 rfl (lv_at hl 0 rfl) ?_
        refine lv_dup hx hb dX11_poke_32 rfl ?_
        refine va_get (D := (dC, dI)) (ci := 10) (v := .int (nI km)) (C := RX11) (T := TX11) (N := 53) hx hb hts iwX11 hown hK hP 0 rfl rfl 2 (by decide) (hts (.fieldLink RX11 138 "ModulePlayerModel" "taped" "I") (List.mem_cons_of_mem _ kw_253)) (fun _ h9 => h9) rfl dX11_poke_33 ?_
        refine lv_iconst (v := 1) hx hb dX11_poke_36 (by decide) ?_
        refine lv_iadd hx hb dX11_poke_37 ?_
        refine g_topi (y := nI (km + 1)) (nI_1 _) ?_
        refine va_put (D := (dC, dI)) (ci := 10) (v := .int (nI (km + 1))) (ty := tyX11 2) (C := RX11) (T := TX11) (N := 53) hx hb hts iwX11 tyX11 tyX11_ok nmX11 hown hK hP hD hS 0 rfl rfl 2 (by decide) (hts (.fieldLink RX11 138 "ModulePlayerModel" "taped" "I") (List.mem_cons_of_mem _ kw_253)) (fun _ h9 => h9) rfl (by decide +kernel) (rfl) (rfl) (Nat.le_of_ble_eq_true rfl) dX11_poke_38 (fun H locs hP hD hS => ?_)
        have hP : va_P (dC, dI) vwCl [(h, .inr (10, mdF qa x0 (nI (km + 1)) x3 x4 x13 x14 x15 x16 x17 x18 x19 x20 x21 x22 x23 x24 x26 x27 x28)), (qa 1, .inl (cB, 9000, .inl (fzb ft LL (km + 1))))] H := hP
        have hD : va_D A [(h, .inr (10, mdF qa x0 (nI (km + 1)) x3 x4 x13 x14 x15 x16 x17 x18 x19 x20 x21 x22 x23 x24 x26 x27 x28)), (qa 1, .inl (cB, 9000, .inl (fzb ft LL (km + 1))))] := hD
        refine lv_goto (tgt := 13) hx hb dX11_poke_41 (by decide) ?_
        exact ih13 (km + 1) (by omega) (by have := nI_nlt2 c_18 (by omega); omega) (by have := nI_nlt2 c_18 (by omega); omega) _ _ hP hD hS _ (lv_sub hl [0, 1, 2] rfl)
    exact LP13 _ LL (Nat.le_refl _) (Or.inl rfl) (Nat.lt_succ_self _) _ _ hP hD hS _ (lv_sub hl [0, 1, 2] rfl)
  cases hu
  have hP : va_P (dC, dI) vwCl [(h, .inr (10, mdF qa x0 (nI LL) x3 x4 x13 x14 x15 x16 x17 x18 x19 x20 x21 x22 x23 x24 x26 x27 x28)), (qa 1, .inl (cB, 9000, .inl ft))] H := hP
  have hD : va_D A [(h, .inr (10, mdF qa x0 (nI LL) x3 x4 x13 x14 x15 x16 x17 x18 x19 x20 x21 x22 x23 x24 x26 x27 x28)), (qa 1, .inl (cB, 9000, .inl ft))] := hD
  refine g_topi (y := 0) hr_5 ?_
  refine lv_if_ne (tgt := 13) hx hb dX11_poke_8 (by decide) (fun c_8 => absurd c_8 (by decide)) (fun c_8 => ?_)
  refine lv_iconst (v := (-1)) hx hb dX11_poke_11 (by decide) ?_
  have hP9 := hP
  have hD9 := hD
  have hK9 := hK.sub (tys' := []) [] rfl
  exact W.iret (v := (-1)) hx hb hr (fun t ht hW => ⟨⟨(-1), _, rfl, (Or.inr ⟨rfl, rfl, (fun qv => hh_5 (in8999.mpr qv))⟩), by rw [ht]; exact hP9, va_K.moved hW.alike hK9, hD9⟩, hS.F ht⟩) hS.2.2 dX11_poke_12

set_option maxHeartbeats 400000 in
set_option maxRecDepth 100000 in
theorem M_tape (l : Launch) (dC : Nat → ClassId) (dI : Nat → Nat → Nat) (sz : Nat) (h : Nat) (qa : Nat → Nat) (x0 x3 x4 x13 x14 x15 x16 x17 x18 x19 x20 x21 x22 x23 x24 x26 x27 x28 : Int32) (cB : ClassId) (LL : Nat) (ft : Nat → Int32) (i : Int32) (hLL : LL ≤ 9000) : Met l yX11_tape (wsG (.code yX11_tape cX11_tape 2 (some .int))) ({ frames := 1, cells := 0, slots := 0, locals := 22 }) (va_Pc [.ref h, .int i] (gP (dC, dI) [(cB, .byte)] [(h, .inr (10, mdF qa x0 (nI LL) x3 x4 x13 x14 x15 x16 x17 x18 x19 x20 x21 x22 x23 x24 x26 x27 x28)), (qa 1, .inl (cB, 9000, .inl ft))] sz)) (va_Qi (fun (r : Int32) (u : va_W × gT) => (∃ (kt_ : Nat), u = ([(h, .inr (10, mdF qa x0 (nI LL) x3 x4 x13 x14 x15 x16 x17 x18 x19 x20 x21 x22 x23 x24 x26 x27 x28)), (qa 1, .inl (cB, 9000, .inl ft))], []) ∧ r = ft kt_ &&& 255 ∧ kt_ < LL ∧ i = nI kt_) ∨ (u = ([(h, .inr (10, mdF qa x0 (nI LL) x3 x4 x13 x14 x15 x16 x17 x18 x19 x20 x21 x22 x23 x24 x26 x27 x28)), (qa 1, .inl (cB, 9000, .inl ft))], []) ∧ r = (-1) ∧ ¬ (0 ≤ i ∧ i < nI LL))) (gB (dC, dI) (va_A [(h, .inr (10, mdF qa x0 (nI LL) x3 x4 x13 x14 x15 x16 x17 x18 x19 x20 x21 x22 x23 x24 x26 x27 x28)), (qa 1, .inl (cB, 9000, .inl ft))] sz)) (va_A [(h, .inr (10, mdF qa x0 (nI LL) x3 x4 x13 x14 x15 x16 x17 x18 x19 x20 x21 x22 x23 x24 x26 x27 x28)), (qa 1, .inl (cB, 9000, .inl ft))] sz)) 0 0 (va_A [(h, .inr (10, mdF qa x0 (nI LL) x3 x4 x13 x14 x15 x16 x17 x18 x19 x20 x21 x22 x23 x24 x26 x27 x28)), (qa 1, .inl (cB, 9000, .inl ft))] sz) := by
  refine Met.ofW (cc := cX11_tape) (maxL := 2) (ret := (some .int)) (by decide) rfl ?_
  intro p e s m args below meth c s₁ B hml hv
  obtain ⟨rfl, hsz, hP, hK, hD0, hN, hZ⟩ := hv
  have hx := B.exec
  have hb := B.bytes
  have hr := B.returns
  have hts := atoms_spec (ws := (wsG (.code yX11_tape cX11_tape 2 (some .int)))) B.pre
  have hown : s.vm.findClass RX11 = some m.cls := findClass_of_methodNamed B.named
  have hlocks := B.notSynchronized
  subst hsz
  have hD := hD0.self (sz := s.heap.size)
  generalize hAe : va_A [(h, .inr (10, mdF qa x0 (nI LL) x3 x4 x13 x14 x15 x16 x17 x18 x19 x20 x21 x22 x23 x24 x26 x27 x28)), (qa 1, .inl (cB, 9000, .inl ft))] s.heap.size = A at hD hZ ⊢
  have hA : ∀ q : Nat, s.heap.size ≤ q → A q := fun q h => by rw [← hAe]; exact Or.inr h
  have hl := lv_entry ([.ref h, .int i]) (n := 2) (Nat.le_of_ble_eq_true rfl)
  rw [lg_entry_eq]
  generalize (lg_sl ([.ref h, .int i]) ++ List.replicate (2 - (lg_sl ([.ref h, .int i])).length) Slot.unset).toArray = ls at hl ⊢
  have hl : lv_has ls 2 [(0, .ref h), (1, .int i)] := hl
  refine g_start (A := A) hP (fun H locs hP hS => ?_)
  refine lv_iload_n hx hb dX11_tape_0 rfl (lv_at hl 1 rfl) ?_
  refine lv_iconst (v := 0) hx hb dX11_tape_1 (by decide) ?_
  refine lv_aload_n hx hb dX11_tape_2 rfl (lv_at hl 0 rfl) ?_
  refine va_get (D := (dC, dI)) (ci := 10) (v := .int (nI LL)) (C := RX11) (T := TX11) (N := 53) hx hb hts iwX11 hown hK hP 0 rfl rfl 2 (by decide) (hts (.fieldLink RX11 138 "ModulePlayerModel" "taped" "I") (List.mem_cons_of_mem _ kw_253)) (fun _ h9 => h9) rfl dX11_tape_3 ?_
  refine lv_iconst (v := 1) hx hb dX11_tape_6 (by decide) ?_
  refine lv_isub hx hb dX11_tape_7 ?_
  refine g_calli (wr := [(h, .inr (10, mdF qa x0 (nI LL) x3 x4 x13 x14 x15 x16 x17 x18 x19 x20 x21 x22 x23 x24 x26 x27 x28)), (qa 1, .inl (cB, 9000, .inl ft))]) (va_runS (As := [.int i, .int 0, .int ((nI LL) - 1)]) (rest := []) ⟨hx, hb, hml, hown, hts⟩ (m_in l dC dI H.size i 0 ((nI LL) - 1) ) (va_cwS 3 hts (gG_S kw_266 kw_267 kw_5 kw_268) rfl rfl rfl (by decide +kernel) ⟨Nat.le_of_ble_eq_true rfl, Nat.le_of_ble_eq_true rfl⟩) (g_preS hP hD hK hS hA hN hZ [] (by decide) rfl [] rfl) rfl rfl hl.1 rfl (lv_room (Nat.le_of_ble_eq_true rfl)) dX11_tape_8 ⟨Nat.le_of_ble_eq_true rfl, Nat.le_of_ble_eq_true rfl⟩) hP hD hK hS hA [] [0, 1] rfl rfl (by decide +kernel) (by decide +kernel) (fun r_8 w ty1 H locs hw_8 hP hD _ hS => ?_)
  rcases hw_8 with ⟨hu, hr_8, hh_8⟩ | ⟨hu, hr_8, hh_8⟩
  · cases hu
    have hP : va_P (dC, dI) vwCl [(h, .inr (10, mdF qa x0 (nI LL) x3 x4 x13 x14 x15 x16 x17 x18 x19 x20 x21 x22 x23 x24 x26 x27 x28)), (qa 1, .inl (cB, 9000, .inl ft))] H := hP
    have hD : va_D A [(h, .inr (10, mdF qa x0 (nI LL) x3 x4 x13 x14 x15 x16 x17 x18 x19 x20 x21 x22 x23 x24 x26 x27 x28)), (qa 1, .inl (cB, 9000, .inl ft))] := hD
    refine g_topi (y := 1) hr_8 ?_
    obtain ⟨kt_, hkt, hik⟩ := i_in (n := LL) (by omega) ((tp_in (by omega)).mp hh_8).1 ((tp_in (by omega)).mp hh_8).2
    subst hik
    refine lv_if_eq (tgt := 27) hx hb dX11_tape_11 (by decide) (fun c_11 => absurd c_11 (by decide)) (fun c_11 => ?_)
    refine lv_aload_n hx hb dX11_tape_14 rfl (lv_at hl 0 rfl) ?_
    refine va_get (D := (dC, dI)) (ci := 10) (v := .ref (qa 1)) (C := RX11) (T := TX11) (N := 53) hx hb hts iwX11 hown hK hP 0 rfl rfl 1 (by decide) (hts (.fieldLink RX11 9 "ModulePlayerModel" "tape" "[B") (List.mem_cons_of_mem _ kw_171)) (fun _ h9 => h9) rfl dX11_tape_15 ?_
    refine lv_iload_n hx hb dX11_tape_18 rfl (lv_at hl 1 rfl) ?_
    refine g_bald hx hb hK hP 1 0 rfl rfl kt_ (nI_clamp (Nat.lt_trans (show kt_ < 9000 from by omega) (by decide))) (vp_in_nI (by omega) (by decide)) dX11_tape_19 ?_
    refine lv_sipush (v := 255) hx hb dX11_tape_20 (by decide) ?_
    refine lv_iand hx hb dX11_tape_23 ?_
    refine lv_goto (tgt := 28) hx hb dX11_tape_24 (by decide) ?_
    have hP9 := hP
    have hD9 := hD
    have hK9 := hK.sub (tys' := []) [] rfl
    exact W.iret (v := (ft kt_) &&& 255) hx hb hr (fun t ht hW => ⟨⟨(ft kt_) &&& 255, _, rfl, (Or.inl ⟨kt_, rfl, rfl, hkt, rfl⟩), by rw [ht]; exact hP9, va_K.moved hW.alike hK9, hD9⟩, hS.F ht⟩) hS.2.2 dX11_tape_28
  cases hu
  have hP : va_P (dC, dI) vwCl [(h, .inr (10, mdF qa x0 (nI LL) x3 x4 x13 x14 x15 x16 x17 x18 x19 x20 x21 x22 x23 x24 x26 x27 x28)), (qa 1, .inl (cB, 9000, .inl ft))] H := hP
  have hD : va_D A [(h, .inr (10, mdF qa x0 (nI LL) x3 x4 x13 x14 x15 x16 x17 x18 x19 x20 x21 x22 x23 x24 x26 x27 x28)), (qa 1, .inl (cB, 9000, .inl ft))] := hD
  refine g_topi (y := 0) hr_8 ?_
  refine lv_if_eq (tgt := 27) hx hb dX11_tape_11 (by decide) (fun c_11 => ?_) (fun c_11 => absurd c_11 (by decide))
  refine lv_iconst (v := (-1)) hx hb dX11_tape_27 (by decide) ?_
  have hP9 := hP
  have hD9 := hD
  have hK9 := hK.sub (tys' := []) [] rfl
  exact W.iret (v := (-1)) hx hb hr (fun t ht hW => ⟨⟨(-1), _, rfl, (Or.inr ⟨rfl, rfl, (fun qv => hh_8 ((tp_in (by omega)).mpr qv))⟩), by rw [ht]; exact hP9, va_K.moved hW.alike hK9, hD9⟩, hS.F ht⟩) hS.2.2 dX11_tape_28

set_option maxHeartbeats 400000 in
set_option maxRecDepth 100000 in
theorem M_fault (l : Launch) (dC : Nat → ClassId) (dI : Nat → Nat → Nat) (sz : Nat) (h : Nat) (qa : Nat → Nat) (x0 x2 x3 x4 x13 x14 x15 x16 x17 x18 x19 x20 x21 x22 x23 x24 x26 x27 x28 : Int32) (x : Int32) : Met l yX11_fault (wsG (.code yX11_fault cX11_fault 2 (some .int))) ({ frames := 0, cells := 0, slots := 0, locals := 0 }) (va_Pc [.ref h, .int x] (gP (dC, dI) [] [(h, .inr (10, mdF qa x0 x2 x3 x4 x13 x14 x15 x16 x17 x18 x19 x20 x21 x22 x23 x24 x26 x27 x28))] sz)) (va_Qi (fun (r : Int32) (u : va_W × gT) => u = ([(h, .inr (10, mdF qa x0 x2 x3 x4 x13 x14 x15 x16 x17 x18 x19 x20 x21 x22 x23 x24 x26 x27 x28))], []) ∧ r = (if x = 0 then x3 else if x = 1 then x4 else -1)) (gB (dC, dI) (va_A [(h, .inr (10, mdF qa x0 x2 x3 x4 x13 x14 x15 x16 x17 x18 x19 x20 x21 x22 x23 x24 x26 x27 x28))] sz)) (va_A [(h, .inr (10, mdF qa x0 x2 x3 x4 x13 x14 x15 x16 x17 x18 x19 x20 x21 x22 x23 x24 x26 x27 x28))] sz)) 0 0 (va_A [(h, .inr (10, mdF qa x0 x2 x3 x4 x13 x14 x15 x16 x17 x18 x19 x20 x21 x22 x23 x24 x26 x27 x28))] sz) := by
  refine Met.ofW (cc := cX11_fault) (maxL := 2) (ret := (some .int)) (by decide) rfl ?_
  intro p e s m args below meth c s₁ B hml hv
  obtain ⟨rfl, hsz, hP, hK, hD0, hN, hZ⟩ := hv
  have hx := B.exec
  have hb := B.bytes
  have hr := B.returns
  have hts := atoms_spec (ws := (wsG (.code yX11_fault cX11_fault 2 (some .int)))) B.pre
  have hown : s.vm.findClass RX11 = some m.cls := findClass_of_methodNamed B.named
  have hlocks := B.notSynchronized
  subst hsz
  have hD := hD0.self (sz := s.heap.size)
  generalize hAe : va_A [(h, .inr (10, mdF qa x0 x2 x3 x4 x13 x14 x15 x16 x17 x18 x19 x20 x21 x22 x23 x24 x26 x27 x28))] s.heap.size = A at hD hZ ⊢
  have hA : ∀ q : Nat, s.heap.size ≤ q → A q := fun q h => by rw [← hAe]; exact Or.inr h
  have hl := lv_entry ([.ref h, .int x]) (n := 2) (Nat.le_of_ble_eq_true rfl)
  rw [lg_entry_eq]
  generalize (lg_sl ([.ref h, .int x]) ++ List.replicate (2 - (lg_sl ([.ref h, .int x])).length) Slot.unset).toArray = ls at hl ⊢
  have hl : lv_has ls 2 [(0, .ref h), (1, .int x)] := hl
  refine g_start (A := A) hP (fun H locs hP hS => ?_)
  refine lv_iload_n hx hb dX11_fault_0 rfl (lv_at hl 1 rfl) ?_
  refine lv_if_ne (tgt := 11) hx hb dX11_fault_1 (by decide) (fun c_1 => ?_) (fun c_1 => ?_)
  · refine lv_iload_n hx hb dX11_fault_11 rfl (lv_at hl 1 rfl) ?_
    refine lv_iconst (v := 1) hx hb dX11_fault_12 (by decide) ?_
    refine lv_icmp_ne (tgt := 23) hx hb dX11_fault_13 (by decide) (fun c_13 => ?_) (fun c_13 => ?_)
    · refine lv_iconst (v := (-1)) hx hb dX11_fault_23 (by decide) ?_
      have hP9 := hP
      have hD9 := hD
      have hK9 := hK.sub (tys' := []) [] rfl
      exact W.iret (v := (-1)) hx hb hr (fun t ht hW => ⟨⟨(-1), _, rfl, ⟨rfl, by rw [if_neg c_1, if_neg c_13]⟩, by rw [ht]; exact hP9, va_K.moved hW.alike hK9, hD9⟩, hS.F ht⟩) hS.2.2 dX11_fault_24
    refine lv_aload_n hx hb dX11_fault_16 rfl (lv_at hl 0 rfl) ?_
    refine va_get (D := (dC, dI)) (ci := 10) (v := .int x4) (C := RX11) (T := TX11) (N := 53) hx hb hts iwX11 hown hK hP 0 rfl rfl 4 (by decide) (hts (.fieldLink RX11 13 "ModulePlayerModel" "faultPlace" "I") (List.mem_cons_of_mem _ kw_172)) (fun _ h9 => h9) rfl dX11_fault_17 ?_
    refine lv_goto (tgt := 24) hx hb dX11_fault_20 (by decide) ?_
    have hP9 := hP
    have hD9 := hD
    have hK9 := hK.sub (tys' := []) [] rfl
    exact W.iret (v := x4) hx hb hr (fun t ht hW => ⟨⟨x4, _, rfl, ⟨rfl, by rw [if_neg c_1, if_pos c_13]⟩, by rw [ht]; exact hP9, va_K.moved hW.alike hK9, hD9⟩, hS.F ht⟩) hS.2.2 dX11_fault_24
  refine lv_aload_n hx hb dX11_fault_4 rfl (lv_at hl 0 rfl) ?_
  refine va_get (D := (dC, dI)) (ci := 10) (v := .int x3) (C := RX11) (T := TX11) (N := 53) hx hb hts iwX11 hown hK hP 0 rfl rfl 3 (by decide) (hts (.fieldLink RX11 149 "ModulePlayerModel" "faultKind" "I") (List.mem_cons_of_mem _ kw_430)) (fun _ h9 => h9) rfl dX11_fault_5 ?_
  refine lv_goto (tgt := 24) hx hb dX11_fault_8 (by decide) ?_
  have hP9 := hP
  have hD9 := hD
  have hK9 := hK.sub (tys' := []) [] rfl
  exact W.iret (v := x3) hx hb hr (fun t ht hW => ⟨⟨x3, _, rfl, ⟨rfl, (if_pos c_1).symm⟩, by rw [ht]; exact hP9, va_K.moved hW.alike hK9, hD9⟩, hS.F ht⟩) hS.2.2 dX11_fault_24

set_option maxHeartbeats 400000 in
set_option maxRecDepth 100000 in
theorem M_cell (l : Launch) (dC : Nat → ClassId) (dI : Nat → Nat → Nat) (sz : Nat) (h : Nat) (qa : Nat → Nat) (x0 x2 x3 x4 x13 x14 x15 x16 x17 x18 x19 x20 x21 x22 x23 x24 x26 x27 x28 : Int32) (cI : ClassId) (g11 : Nat → Int32) (xa xb xd v : Int32) : Met l yX11_cell (wsG (.code yX11_cell cX11_cell 6 (some .boolean))) ({ frames := 2, cells := 0, slots := 0, locals := 44 }) (va_Pc [.ref h, .int xa, .int xb, .int xd, .int v] (gP (dC, dI) [(cI, .int)] [(h, .inr (10, mdF qa x0 x2 x3 x4 x13 x14 x15 x16 x17 x18 x19 x20 x21 x22 x23 x24 x26 x27 x28)), (qa 11, .inl (cI, 2048, .inl g11))] sz)) (va_Qi (fun (r : Int32) (u : va_W × gT) => (∃ (ca : Nat) (cb : Nat) (cd : Nat), u = ([(h, .inr (10, mdF qa x0 x2 x3 x4 x13 x14 x15 x16 x17 x18 x19 x20 x21 x22 x23 x24 x26 x27 x28)), (qa 11, .inl (cI, 2048, .inl (upd g11 (256 * ca + 4 * cb + cd) v)))], []) ∧ r = 1 ∧ ca < 8 ∧ cb < 64 ∧ cd < 4 ∧ xa = nI ca ∧ xb = nI cb ∧ xd = nI cd ∧ 0 ≤ v ∧ v ≤ 536870911) ∨ (u = ([(h, .inr (10, mdF qa x0 x2 x3 x4 x13 x14 x15 x16 x17 x18 x19 x20 x21 x22 x23 x24 x26 x27 x28)), (qa 11, .inl (cI, 2048, .inl g11))], []) ∧ r = 0 ∧ ¬ (cellsP xa xb xd ∧ 0 ≤ v ∧ v ≤ 536870911))) (gB (dC, dI) (va_A [(h, .inr (10, mdF qa x0 x2 x3 x4 x13 x14 x15 x16 x17 x18 x19 x20 x21 x22 x23 x24 x26 x27 x28)), (qa 11, .inl (cI, 2048, .inl g11))] sz)) (va_A [(h, .inr (10, mdF qa x0 x2 x3 x4 x13 x14 x15 x16 x17 x18 x19 x20 x21 x22 x23 x24 x26 x27 x28)), (qa 11, .inl (cI, 2048, .inl g11))] sz)) 0 0 (va_A [(h, .inr (10, mdF qa x0 x2 x3 x4 x13 x14 x15 x16 x17 x18 x19 x20 x21 x22 x23 x24 x26 x27 x28)), (qa 11, .inl (cI, 2048, .inl g11))] sz) := by
  refine Met.ofW (cc := cX11_cell) (maxL := 6) (ret := (some .boolean)) (by decide) rfl ?_
  intro p e s m args below meth c s₁ B hml hv
  obtain ⟨rfl, hsz, hP, hK, hD0, hN, hZ⟩ := hv
  have hx := B.exec
  have hb := B.bytes
  have hr := B.returns
  have hts := atoms_spec (ws := (wsG (.code yX11_cell cX11_cell 6 (some .boolean)))) B.pre
  have hown : s.vm.findClass RX11 = some m.cls := findClass_of_methodNamed B.named
  have hlocks := B.notSynchronized
  subst hsz
  have hD := hD0.self (sz := s.heap.size)
  generalize hAe : va_A [(h, .inr (10, mdF qa x0 x2 x3 x4 x13 x14 x15 x16 x17 x18 x19 x20 x21 x22 x23 x24 x26 x27 x28)), (qa 11, .inl (cI, 2048, .inl g11))] s.heap.size = A at hD hZ ⊢
  have hA : ∀ q : Nat, s.heap.size ≤ q → A q := fun q h => by rw [← hAe]; exact Or.inr h
  have hl := lv_entry ([.ref h, .int xa, .int xb, .int xd, .int v]) (n := 6) (Nat.le_of_ble_eq_true rfl)
  rw [lg_entry_eq]
  generalize (lg_sl ([.ref h, .int xa, .int xb, .int xd, .int v]) ++ List.replicate (6 - (lg_sl ([.ref h, .int xa, .int xb, .int xd, .int v])).length) Slot.unset).toArray = ls at hl ⊢
  have hl : lv_has ls 6 [(0, .ref h), (1, .int xa), (2, .int xb), (3, .int xd), (4, .int v)] := hl
  refine g_start (A := A) hP (fun H locs hP hS => ?_)
  refine lv_iload_n hx hb dX11_cell_0 rfl (lv_at hl 1 rfl) ?_
  refine lv_iload_n hx hb dX11_cell_1 rfl (lv_at hl 2 rfl) ?_
  refine lv_iload_n hx hb dX11_cell_2 rfl (lv_at hl 3 rfl) ?_
  refine g_calli (wr := [(h, .inr (10, mdF qa x0 x2 x3 x4 x13 x14 x15 x16 x17 x18 x19 x20 x21 x22 x23 x24 x26 x27 x28)), (qa 11, .inl (cI, 2048, .inl g11))]) (va_runS (As := [.int xa, .int xb, .int xd]) (rest := []) ⟨hx, hb, hml, hown, hts⟩ (m_cellIndex l dC dI H.size xa xb xd ) (va_cwS 3 hts (gG_S kw_579 kw_580 kw_5 kw_581) rfl rfl rfl (by decide +kernel) ⟨Nat.le_of_ble_eq_true rfl, Nat.le_of_ble_eq_true rfl⟩) (g_preS hP hD hK hS hA hN hZ [] (by decide) rfl [] rfl) rfl rfl hl.1 rfl (lv_room (Nat.le_of_ble_eq_true rfl)) dX11_cell_3 ⟨Nat.le_of_ble_eq_true rfl, Nat.le_of_ble_eq_true rfl⟩) hP hD hK hS hA [] [0, 1] rfl rfl (by decide +kernel) (by decide +kernel) (fun r_3 w ty1 H locs hw_3 hP hD _ hS => ?_)
  rcases hw_3 with ⟨ca__3, cb__3, cd__3, hu, hr_3, hca_3, hcb_3, hcd_3, eca_3, ecb_3, ecd_3⟩ | ⟨hu, hr_3, hh_3⟩
  · cases hu
    have hP : va_P (dC, dI) vwCl [(h, .inr (10, mdF qa x0 x2 x3 x4 x13 x14 x15 x16 x17 x18 x19 x20 x21 x22 x23 x24 x26 x27 x28)), (qa 11, .inl (cI, 2048, .inl g11))] H := hP
    have hD : va_D A [(h, .inr (10, mdF qa x0 x2 x3 x4 x13 x14 x15 x16 x17 x18 x19 x20 x21 x22 x23 x24 x26 x27 x28)), (qa 11, .inl (cI, 2048, .inl g11))] := hD
    refine g_topi (y := nI (256 * ca__3 + 4 * cb__3 + cd__3)) hr_3 ?_
    refine lv_istore (lv' := [(5, .int (nI (256 * ca__3 + 4 * cb__3 + cd__3))), (0, .ref h), (1, .int xa), (2, .int xb), (3, .int xd), (4, .int v)]) hx hb dX11_cell_6 hl (by decide) rfl (fun ls hl => ?_)
    refine lv_iload hx hb dX11_cell_8 (lv_at hl 0 rfl) ?_
    refine lv_iconst (v := (-1)) hx hb dX11_cell_10 (by decide) ?_
    refine lv_icmp_eq (tgt := 25) hx hb dX11_cell_11 (by decide) (fun c_11 => absurd c_11 (nI_ne1 (by omega))) (fun c_11 => ?_)
    refine lv_iload hx hb dX11_cell_14 (lv_at hl 5 rfl) ?_
    refine lv_iconst (v := 0) hx hb dX11_cell_16 (by decide) ?_
    refine lv_ldc (v := 536870911) hx hb hown (hts (.constant RX11 196 (536870911)) (List.mem_cons_of_mem _ kw_578)) dX11_cell_17 ?_
    refine g_calli (wr := [(h, .inr (10, mdF qa x0 x2 x3 x4 x13 x14 x15 x16 x17 x18 x19 x20 x21 x22 x23 x24 x26 x27 x28)), (qa 11, .inl (cI, 2048, .inl g11))]) (va_runS (As := [.int v, .int 0, .int 536870911]) (rest := []) ⟨hx, hb, hml, hown, hts⟩ (m_in l dC dI H.size v 0 536870911 ) (va_cwS 3 hts (gG_S kw_266 kw_267 kw_5 kw_268) rfl rfl rfl (by decide +kernel) ⟨Nat.le_of_ble_eq_true rfl, Nat.le_of_ble_eq_true rfl⟩) (g_preS hP hD hK hS hA hN hZ [] (by decide) rfl [] rfl) rfl rfl hl.1 rfl (lv_room (Nat.le_of_ble_eq_true rfl)) dX11_cell_19 ⟨Nat.le_of_ble_eq_true rfl, Nat.le_of_ble_eq_true rfl⟩) hP hD hK hS hA [] [0, 1] rfl rfl (by decide +kernel) (by decide +kernel) (fun r_19 w ty1 H locs hw_19 hP hD _ hS => ?_)
    rcases hw_19 with ⟨hu, hr_19, hh_19⟩ | ⟨hu, hr_19, hh_19⟩
    · cases hu
      have hP : va_P (dC, dI) vwCl [(h, .inr (10, mdF qa x0 x2 x3 x4 x13 x14 x15 x16 x17 x18 x19 x20 x21 x22 x23 x24 x26 x27 x28)), (qa 11, .inl (cI, 2048, .inl g11))] H := hP
      have hD : va_D A [(h, .inr (10, mdF qa x0 x2 x3 x4 x13 x14 x15 x16 x17 x18 x19 x20 x21 x22 x23 x24 x26 x27 x28)), (qa 11, .inl (cI, 2048, .inl g11))] := hD
      refine g_topi (y := 1) hr_19 ?_
      refine lv_if_ne (tgt := 27) hx hb dX11_cell_22 (by decide) (fun c_22 => ?_) (fun c_22 => absurd c_22 (by decide))
      refine lv_aload_n hx hb dX11_cell_27 rfl (lv_at hl 1 rfl) ?_
      refine va_get (D := (dC, dI)) (ci := 10) (v := .ref (qa 11)) (C := RX11) (T := TX11) (N := 53) hx hb hts iwX11 hown hK hP 0 rfl rfl 11 (by decide) (hts (.fieldLink RX11 37 "ModulePlayerModel" "cells" "[I") (List.mem_cons_of_mem _ kw_180)) (fun _ h9 => h9) rfl dX11_cell_28 ?_
      refine lv_iload hx hb dX11_cell_31 (lv_at hl 0 rfl) ?_
      refine lv_iload hx hb dX11_cell_33 (lv_at hl 5 rfl) ?_
      refine g_iast hx hb hK hP hD hS 1 0 rfl rfl (256 * ca__3 + 4 * cb__3 + cd__3) (nI_clamp (Nat.lt_trans (show 256 * ca__3 + 4 * cb__3 + cd__3 < 2048 from by omega) (by decide))) (vp_in_nI (by omega) (by decide)) dX11_cell_35 (fun H locs hP hD hS => ?_)
      have hP : va_P (dC, dI) vwCl [(h, .inr (10, mdF qa x0 x2 x3 x4 x13 x14 x15 x16 x17 x18 x19 x20 x21 x22 x23 x24 x26 x27 x28)), (qa 11, .inl (cI, 2048, .inl (upd g11 (256 * ca__3 + 4 * cb__3 + cd__3) v)))] H := hP
      have hD : va_D A [(h, .inr (10, mdF qa x0 x2 x3 x4 x13 x14 x15 x16 x17 x18 x19 x20 x21 x22 x23 x24 x26 x27 x28)), (qa 11, .inl (cI, 2048, .inl (upd g11 (256 * ca__3 + 4 * cb__3 + cd__3) v)))] := hD
      refine lv_iconst (v := 1) hx hb dX11_cell_36 (by decide) ?_
      have hP9 := hP
      have hD9 := hD
      have hK9 := hK.sub (tys' := []) [] rfl
      exact W.zret (v := 1) hx hb hr (by decide) (fun t ht hW => ⟨⟨1, _, rfl, (Or.inl ⟨ca__3, cb__3, cd__3, rfl, rfl, hca_3, hcb_3, hcd_3, eca_3, ecb_3, ecd_3, hh_19⟩), by rw [ht]; exact hP9, va_K.moved hW.alike hK9, hD9⟩, hS.F ht⟩) hS.2.2 dX11_cell_37
    cases hu
    have hP : va_P (dC, dI) vwCl [(h, .inr (10, mdF qa x0 x2 x3 x4 x13 x14 x15 x16 x17 x18 x19 x20 x21 x22 x23 x24 x26 x27 x28)), (qa 11, .inl (cI, 2048, .inl g11))] H := hP
    have hD : va_D A [(h, .inr (10, mdF qa x0 x2 x3 x4 x13 x14 x15 x16 x17 x18 x19 x20 x21 x22 x23 x24 x26 x27 x28)), (qa 11, .inl (cI, 2048, .inl g11))] := hD
    refine g_topi (y := 0) hr_19 ?_
    refine lv_if_ne (tgt := 27) hx hb dX11_cell_22 (by decide) (fun c_22 => absurd c_22 (by decide)) (fun c_22 => ?_)
    refine lv_iconst (v := 0) hx hb dX11_cell_25 (by decide) ?_
    have hP9 := hP
    have hD9 := hD
    have hK9 := hK.sub (tys' := []) [] rfl
    exact W.zret (v := 0) hx hb hr (by decide) (fun t ht hW => ⟨⟨0, _, rfl, (Or.inr ⟨rfl, rfl, (fun qv => hh_19 qv.2)⟩), by rw [ht]; exact hP9, va_K.moved hW.alike hK9, hD9⟩, hS.F ht⟩) hS.2.2 dX11_cell_26
  cases hu
  have hP : va_P (dC, dI) vwCl [(h, .inr (10, mdF qa x0 x2 x3 x4 x13 x14 x15 x16 x17 x18 x19 x20 x21 x22 x23 x24 x26 x27 x28)), (qa 11, .inl (cI, 2048, .inl g11))] H := hP
  have hD : va_D A [(h, .inr (10, mdF qa x0 x2 x3 x4 x13 x14 x15 x16 x17 x18 x19 x20 x21 x22 x23 x24 x26 x27 x28)), (qa 11, .inl (cI, 2048, .inl g11))] := hD
  refine g_topi (y := (-1)) hr_3 ?_
  refine lv_istore (lv' := [(5, .int (-1)), (0, .ref h), (1, .int xa), (2, .int xb), (3, .int xd), (4, .int v)]) hx hb dX11_cell_6 hl (by decide) rfl (fun ls hl => ?_)
  refine lv_iload hx hb dX11_cell_8 (lv_at hl 0 rfl) ?_
  refine lv_iconst (v := (-1)) hx hb dX11_cell_10 (by decide) ?_
  refine lv_icmp_eq (tgt := 25) hx hb dX11_cell_11 (by decide) (fun c_11 => ?_) (fun c_11 => absurd c_11 (by decide))
  refine lv_iconst (v := 0) hx hb dX11_cell_25 (by decide) ?_
  have hP9 := hP
  have hD9 := hD
  have hK9 := hK.sub (tys' := []) [] rfl
  exact W.zret (v := 0) hx hb hr (by decide) (fun t ht hW => ⟨⟨0, _, rfl, (Or.inr ⟨rfl, rfl, (fun qv => hh_3 qv.1)⟩), by rw [ht]; exact hP9, va_K.moved hW.alike hK9, hD9⟩, hS.F ht⟩) hS.2.2 dX11_cell_26

set_option maxHeartbeats 400000 in
set_option maxRecDepth 100000 in
theorem M_cellOf (l : Launch) (dC : Nat → ClassId) (dI : Nat → Nat → Nat) (sz : Nat) (h : Nat) (qa : Nat → Nat) (x0 x2 x3 x4 x13 x14 x15 x16 x17 x18 x19 x20 x21 x22 x23 x24 x26 x27 x28 : Int32) (cI : ClassId) (g11 : Nat → Int32) (xa xb xd : Int32) : Met l yX11_cellOf (wsG (.code yX11_cellOf cX11_cellOf 5 (some .int))) ({ frames := 2, cells := 0, slots := 0, locals := 44 }) (va_Pc [.ref h, .int xa, .int xb, .int xd] (gP (dC, dI) [(cI, .int)] [(h, .inr (10, mdF qa x0 x2 x3 x4 x13 x14 x15 x16 x17 x18 x19 x20 x21 x22 x23 x24 x26 x27 x28)), (qa 11, .inl (cI, 2048, .inl g11))] sz)) (va_Qi (fun (r : Int32) (u : va_W × gT) => (∃ (ca : Nat) (cb : Nat) (cd : Nat), u = ([(h, .inr (10, mdF qa x0 x2 x3 x4 x13 x14 x15 x16 x17 x18 x19 x20 x21 x22 x23 x24 x26 x27 x28)), (qa 11, .inl (cI, 2048, .inl g11))], []) ∧ r = g11 (256 * ca + 4 * cb + cd) ∧ ca < 8 ∧ cb < 64 ∧ cd < 4 ∧ xa = nI ca ∧ xb = nI cb ∧ xd = nI cd) ∨ (u = ([(h, .inr (10, mdF qa x0 x2 x3 x4 x13 x14 x15 x16 x17 x18 x19 x20 x21 x22 x23 x24 x26 x27 x28)), (qa 11, .inl (cI, 2048, .inl g11))], []) ∧ r = (-1) ∧ ¬ cellsP xa xb xd)) (gB (dC, dI) (va_A [(h, .inr (10, mdF qa x0 x2 x3 x4 x13 x14 x15 x16 x17 x18 x19 x20 x21 x22 x23 x24 x26 x27 x28)), (qa 11, .inl (cI, 2048, .inl g11))] sz)) (va_A [(h, .inr (10, mdF qa x0 x2 x3 x4 x13 x14 x15 x16 x17 x18 x19 x20 x21 x22 x23 x24 x26 x27 x28)), (qa 11, .inl (cI, 2048, .inl g11))] sz)) 0 0 (va_A [(h, .inr (10, mdF qa x0 x2 x3 x4 x13 x14 x15 x16 x17 x18 x19 x20 x21 x22 x23 x24 x26 x27 x28)), (qa 11, .inl (cI, 2048, .inl g11))] sz) := by
  refine Met.ofW (cc := cX11_cellOf) (maxL := 5) (ret := (some .int)) (by decide) rfl ?_
  intro p e s m args below meth c s₁ B hml hv
  obtain ⟨rfl, hsz, hP, hK, hD0, hN, hZ⟩ := hv
  have hx := B.exec
  have hb := B.bytes
  have hr := B.returns
  have hts := atoms_spec (ws := (wsG (.code yX11_cellOf cX11_cellOf 5 (some .int)))) B.pre
  have hown : s.vm.findClass RX11 = some m.cls := findClass_of_methodNamed B.named
  have hlocks := B.notSynchronized
  subst hsz
  have hD := hD0.self (sz := s.heap.size)
  generalize hAe : va_A [(h, .inr (10, mdF qa x0 x2 x3 x4 x13 x14 x15 x16 x17 x18 x19 x20 x21 x22 x23 x24 x26 x27 x28)), (qa 11, .inl (cI, 2048, .inl g11))] s.heap.size = A at hD hZ ⊢
  have hA : ∀ q : Nat, s.heap.size ≤ q → A q := fun q h => by rw [← hAe]; exact Or.inr h
  have hl := lv_entry ([.ref h, .int xa, .int xb, .int xd]) (n := 5) (Nat.le_of_ble_eq_true rfl)
  rw [lg_entry_eq]
  generalize (lg_sl ([.ref h, .int xa, .int xb, .int xd]) ++ List.replicate (5 - (lg_sl ([.ref h, .int xa, .int xb, .int xd])).length) Slot.unset).toArray = ls at hl ⊢
  have hl : lv_has ls 5 [(0, .ref h), (1, .int xa), (2, .int xb), (3, .int xd)] := hl
  refine g_start (A := A) hP (fun H locs hP hS => ?_)
  refine lv_iload_n hx hb dX11_cellOf_0 rfl (lv_at hl 1 rfl) ?_
  refine lv_iload_n hx hb dX11_cellOf_1 rfl (lv_at hl 2 rfl) ?_
  refine lv_iload_n hx hb dX11_cellOf_2 rfl (lv_at hl 3 rfl) ?_
  refine g_calli (wr := [(h, .inr (10, mdF qa x0 x2 x3 x4 x13 x14 x15 x16 x17 x18 x19 x20 x21 x22 x23 x24 x26 x27 x28)), (qa 11, .inl (cI, 2048, .inl g11))]) (va_runS (As := [.int xa, .int xb, .int xd]) (rest := []) ⟨hx, hb, hml, hown, hts⟩ (m_cellIndex l dC dI H.size xa xb xd ) (va_cwS 3 hts (gG_S kw_579 kw_580 kw_5 kw_581) rfl rfl rfl (by decide +kernel) ⟨Nat.le_of_ble_eq_true rfl, Nat.le_of_ble_eq_true rfl⟩) (g_preS hP hD hK hS hA hN hZ [] (by decide) rfl [] rfl) rfl rfl hl.1 rfl (lv_room (Nat.le_of_ble_eq_true rfl)) dX11_cellOf_3 ⟨Nat.le_of_ble_eq_true rfl, Nat.le_of_ble_eq_true rfl⟩) hP hD hK hS hA [] [0, 1] rfl rfl (by decide +kernel) (by decide +kernel) (fun r_3 w ty1 H locs hw_3 hP hD _ hS => ?_)
  rcases hw_3 with ⟨ca__3, cb__3, cd__3, hu, hr_3, hca_3, hcb_3, hcd_3, eca_3, ecb_3, ecd_3⟩ | ⟨hu, hr_3, hh_3⟩
  · cases hu
    have hP : va_P (dC, dI) vwCl [(h, .inr (10, mdF qa x0 x2 x3 x4 x13 x14 x15 x16 x17 x18 x19 x20 x21 x22 x23 x24 x26 x27 x28)), (qa 11, .inl (cI, 2048, .inl g11))] H := hP
    have hD : va_D A [(h, .inr (10, mdF qa x0 x2 x3 x4 x13 x14 x15 x16 x17 x18 x19 x20 x21 x22 x23 x24 x26 x27 x28)), (qa 11, .inl (cI, 2048, .inl g11))] := hD
    refine g_topi (y := nI (256 * ca__3 + 4 * cb__3 + cd__3)) hr_3 ?_
    refine lv_istore (lv' := [(4, .int (nI (256 * ca__3 + 4 * cb__3 + cd__3))), (0, .ref h), (1, .int xa), (2, .int xb), (3, .int xd)]) hx hb dX11_cellOf_6 hl (by decide) rfl (fun ls hl => ?_)
    refine lv_iload hx hb dX11_cellOf_8 (lv_at hl 0 rfl) ?_
    refine lv_iconst (v := (-1)) hx hb dX11_cellOf_10 (by decide) ?_
    refine lv_icmp_ne (tgt := 18) hx hb dX11_cellOf_11 (by decide) (fun c_11 => ?_) (fun c_11 => absurd c_11 (nI_ne1 (by omega)))
    refine lv_aload_n hx hb dX11_cellOf_18 rfl (lv_at hl 1 rfl) ?_
    refine va_get (D := (dC, dI)) (ci := 10) (v := .ref (qa 11)) (C := RX11) (T := TX11) (N := 53) hx hb hts iwX11 hown hK hP 0 rfl rfl 11 (by decide) (hts (.fieldLink RX11 37 "ModulePlayerModel" "cells" "[I") (List.mem_cons_of_mem _ kw_180)) (fun _ h9 => h9) rfl dX11_cellOf_19 ?_
    refine lv_iload hx hb dX11_cellOf_22 (lv_at hl 0 rfl) ?_
    refine g_iald hx hb hK hP 1 0 rfl rfl (256 * ca__3 + 4 * cb__3 + cd__3) (nI_clamp (Nat.lt_trans (show 256 * ca__3 + 4 * cb__3 + cd__3 < 2048 from by omega) (by decide))) (vp_in_nI (by omega) (by decide)) dX11_cellOf_24 ?_
    have hP9 := hP
    have hD9 := hD
    have hK9 := hK.sub (tys' := []) [] rfl
    exact W.iret (v := g11 (256 * ca__3 + 4 * cb__3 + cd__3)) hx hb hr (fun t ht hW => ⟨⟨g11 (256 * ca__3 + 4 * cb__3 + cd__3), _, rfl, (Or.inl ⟨ca__3, cb__3, cd__3, rfl, rfl, hca_3, hcb_3, hcd_3, eca_3, ecb_3, ecd_3⟩), by rw [ht]; exact hP9, va_K.moved hW.alike hK9, hD9⟩, hS.F ht⟩) hS.2.2 dX11_cellOf_25
  cases hu
  have hP : va_P (dC, dI) vwCl [(h, .inr (10, mdF qa x0 x2 x3 x4 x13 x14 x15 x16 x17 x18 x19 x20 x21 x22 x23 x24 x26 x27 x28)), (qa 11, .inl (cI, 2048, .inl g11))] H := hP
  have hD : va_D A [(h, .inr (10, mdF qa x0 x2 x3 x4 x13 x14 x15 x16 x17 x18 x19 x20 x21 x22 x23 x24 x26 x27 x28)), (qa 11, .inl (cI, 2048, .inl g11))] := hD
  refine g_topi (y := (-1)) hr_3 ?_
  refine lv_istore (lv' := [(4, .int (-1)), (0, .ref h), (1, .int xa), (2, .int xb), (3, .int xd)]) hx hb dX11_cellOf_6 hl (by decide) rfl (fun ls hl => ?_)
  refine lv_iload hx hb dX11_cellOf_8 (lv_at hl 0 rfl) ?_
  refine lv_iconst (v := (-1)) hx hb dX11_cellOf_10 (by decide) ?_
  refine lv_icmp_ne (tgt := 18) hx hb dX11_cellOf_11 (by decide) (fun c_11 => absurd c_11 (by decide)) (fun c_11 => ?_)
  refine lv_iconst (v := (-1)) hx hb dX11_cellOf_14 (by decide) ?_
  refine lv_goto (tgt := 25) hx hb dX11_cellOf_15 (by decide) ?_
  have hP9 := hP
  have hD9 := hD
  have hK9 := hK.sub (tys' := []) [] rfl
  exact W.iret (v := (-1)) hx hb hr (fun t ht hW => ⟨⟨(-1), _, rfl, (Or.inr ⟨rfl, rfl, hh_3⟩), by rw [ht]; exact hP9, va_K.moved hW.alike hK9, hD9⟩, hS.F ht⟩) hS.2.2 dX11_cellOf_25

set_option maxHeartbeats 400000 in
set_option maxRecDepth 100000 in
theorem M_place (l : Launch) (dC : Nat → ClassId) (dI : Nat → Nat → Nat) (sz : Nat) (h : Nat) (qa : Nat → Nat) (x0 x2 x3 x4 x13 x14 x15 x16 x17 x18 x19 x20 x21 x22 x23 x24 x26 x27 x28 : Int32) (cI : ClassId) (g12 : Nat → Int32) (i x : Int32) (r_g12 : rg 128 0 7 g12) : Met l yX11_place (wsG (.code yX11_place cX11_place 3 (some .boolean))) ({ frames := 1, cells := 0, slots := 0, locals := 22 }) (va_Pc [.ref h, .int i, .int x] (gP (dC, dI) [(cI, .int)] [(h, .inr (10, mdF qa x0 x2 x3 x4 x13 x14 x15 x16 x17 x18 x19 x20 x21 x22 x23 x24 x26 x27 x28)), (qa 12, .inl (cI, 128, .inl g12))] sz)) (va_Qi (fun (r : Int32) (u : va_W × gT) => (∃ (jp : Nat), u = ([(h, .inr (10, mdF qa x0 x2 x3 x4 x13 x14 x15 x16 x17 x18 x19 x20 x21 x22 x23 x24 x26 x27 x28)), (qa 12, .inl (cI, 128, .inl (upd g12 jp x)))], []) ∧ r = 1 ∧ jp < 128 ∧ i = nI jp ∧ (0 ≤ x ∧ x < 8) ∧ rg 128 0 7 (upd g12 jp x)) ∨ (u = ([(h, .inr (10, mdF qa x0 x2 x3 x4 x13 x14 x15 x16 x17 x18 x19 x20 x21 x22 x23 x24 x26 x27 x28)), (qa 12, .inl (cI, 128, .inl g12))], []) ∧ r = 0 ∧ ¬ ((0 ≤ i ∧ i < 128) ∧ (0 ≤ x ∧ x < 8)))) (gB (dC, dI) (va_A [(h, .inr (10, mdF qa x0 x2 x3 x4 x13 x14 x15 x16 x17 x18 x19 x20 x21 x22 x23 x24 x26 x27 x28)), (qa 12, .inl (cI, 128, .inl g12))] sz)) (va_A [(h, .inr (10, mdF qa x0 x2 x3 x4 x13 x14 x15 x16 x17 x18 x19 x20 x21 x22 x23 x24 x26 x27 x28)), (qa 12, .inl (cI, 128, .inl g12))] sz)) 0 0 (va_A [(h, .inr (10, mdF qa x0 x2 x3 x4 x13 x14 x15 x16 x17 x18 x19 x20 x21 x22 x23 x24 x26 x27 x28)), (qa 12, .inl (cI, 128, .inl g12))] sz) := by
  refine Met.ofW (cc := cX11_place) (maxL := 3) (ret := (some .boolean)) (by decide) rfl ?_
  intro p e s m args below meth c s₁ B hml hv
  obtain ⟨rfl, hsz, hP, hK, hD0, hN, hZ⟩ := hv
  have hx := B.exec
  have hb := B.bytes
  have hr := B.returns
  have hts := atoms_spec (ws := (wsG (.code yX11_place cX11_place 3 (some .boolean)))) B.pre
  have hown : s.vm.findClass RX11 = some m.cls := findClass_of_methodNamed B.named
  have hlocks := B.notSynchronized
  subst hsz
  have hD := hD0.self (sz := s.heap.size)
  generalize hAe : va_A [(h, .inr (10, mdF qa x0 x2 x3 x4 x13 x14 x15 x16 x17 x18 x19 x20 x21 x22 x23 x24 x26 x27 x28)), (qa 12, .inl (cI, 128, .inl g12))] s.heap.size = A at hD hZ ⊢
  have hA : ∀ q : Nat, s.heap.size ≤ q → A q := fun q h => by rw [← hAe]; exact Or.inr h
  have hl := lv_entry ([.ref h, .int i, .int x]) (n := 3) (Nat.le_of_ble_eq_true rfl)
  rw [lg_entry_eq]
  generalize (lg_sl ([.ref h, .int i, .int x]) ++ List.replicate (3 - (lg_sl ([.ref h, .int i, .int x])).length) Slot.unset).toArray = ls at hl ⊢
  have hl : lv_has ls 3 [(0, .ref h), (1, .int i), (2, .int x)] := hl
  refine g_start (A := A) hP (fun H locs hP hS => ?_)
  refine lv_iload_n hx hb dX11_place_0 rfl (lv_at hl 1 rfl) ?_
  refine lv_iconst (v := 0) hx hb dX11_place_1 (by decide) ?_
  refine lv_bipush (v := 127) hx hb dX11_place_2 (by decide) ?_
  refine g_calli (wr := [(h, .inr (10, mdF qa x0 x2 x3 x4 x13 x14 x15 x16 x17 x18 x19 x20 x21 x22 x23 x24 x26 x27 x28)), (qa 12, .inl (cI, 128, .inl g12))]) (va_runS (As := [.int i, .int 0, .int 127]) (rest := []) ⟨hx, hb, hml, hown, hts⟩ (m_in l dC dI H.size i 0 127 ) (va_cwS 3 hts (gG_S kw_266 kw_267 kw_5 kw_268) rfl rfl rfl (by decide +kernel) ⟨Nat.le_of_ble_eq_true rfl, Nat.le_of_ble_eq_true rfl⟩) (g_preS hP hD hK hS hA hN hZ [] (by decide) rfl [] rfl) rfl rfl hl.1 rfl (lv_room (Nat.le_of_ble_eq_true rfl)) dX11_place_4 ⟨Nat.le_of_ble_eq_true rfl, Nat.le_of_ble_eq_true rfl⟩) hP hD hK hS hA [] [0, 1] rfl rfl (by decide +kernel) (by decide +kernel) (fun r_4 w ty1 H locs hw_4 hP hD _ hS => ?_)
  rcases hw_4 with ⟨hu, hr_4, hh_4⟩ | ⟨hu, hr_4, hh_4⟩
  · cases hu
    have hP : va_P (dC, dI) vwCl [(h, .inr (10, mdF qa x0 x2 x3 x4 x13 x14 x15 x16 x17 x18 x19 x20 x21 x22 x23 x24 x26 x27 x28)), (qa 12, .inl (cI, 128, .inl g12))] H := hP
    have hD : va_D A [(h, .inr (10, mdF qa x0 x2 x3 x4 x13 x14 x15 x16 x17 x18 x19 x20 x21 x22 x23 x24 x26 x27 x28)), (qa 12, .inl (cI, 128, .inl g12))] := hD
    refine g_topi (y := 1) hr_4 ?_
    obtain ⟨jp, hjp, hij⟩ := i_in (n := 128) (by decide) (in127.mp hh_4).1 (in127.mp hh_4).2
    subst hij
    refine lv_if_eq (tgt := 20) hx hb dX11_place_7 (by decide) (fun c_7 => absurd c_7 (by decide)) (fun c_7 => ?_)
    refine lv_iload_n hx hb dX11_place_10 rfl (lv_at hl 2 rfl) ?_
    refine lv_iconst (v := 0) hx hb dX11_place_11 (by decide) ?_
    refine lv_bipush (v := 7) hx hb dX11_place_12 (by decide) ?_
    refine g_calli (wr := [(h, .inr (10, mdF qa x0 x2 x3 x4 x13 x14 x15 x16 x17 x18 x19 x20 x21 x22 x23 x24 x26 x27 x28)), (qa 12, .inl (cI, 128, .inl g12))]) (va_runS (As := [.int x, .int 0, .int 7]) (rest := []) ⟨hx, hb, hml, hown, hts⟩ (m_in l dC dI H.size x 0 7 ) (va_cwS 3 hts (gG_S kw_266 kw_267 kw_5 kw_268) rfl rfl rfl (by decide +kernel) ⟨Nat.le_of_ble_eq_true rfl, Nat.le_of_ble_eq_true rfl⟩) (g_preS hP hD hK hS hA hN hZ [] (by decide) rfl [] rfl) rfl rfl hl.1 rfl (lv_room (Nat.le_of_ble_eq_true rfl)) dX11_place_14 ⟨Nat.le_of_ble_eq_true rfl, Nat.le_of_ble_eq_true rfl⟩) hP hD hK hS hA [] [0, 1] rfl rfl (by decide +kernel) (by decide +kernel) (fun r_14 w ty1 H locs hw_14 hP hD _ hS => ?_)
    rcases hw_14 with ⟨hu, hr_14, hh_14⟩ | ⟨hu, hr_14, hh_14⟩
    · cases hu
      have hP : va_P (dC, dI) vwCl [(h, .inr (10, mdF qa x0 x2 x3 x4 x13 x14 x15 x16 x17 x18 x19 x20 x21 x22 x23 x24 x26 x27 x28)), (qa 12, .inl (cI, 128, .inl g12))] H := hP
      have hD : va_D A [(h, .inr (10, mdF qa x0 x2 x3 x4 x13 x14 x15 x16 x17 x18 x19 x20 x21 x22 x23 x24 x26 x27 x28)), (qa 12, .inl (cI, 128, .inl g12))] := hD
      refine g_topi (y := 1) hr_14 ?_
      refine lv_if_ne (tgt := 22) hx hb dX11_place_17 (by decide) (fun c_17 => ?_) (fun c_17 => absurd c_17 (by decide))
      refine lv_aload_n hx hb dX11_place_22 rfl (lv_at hl 0 rfl) ?_
      refine va_get (D := (dC, dI)) (ci := 10) (v := .ref (qa 12)) (C := RX11) (T := TX11) (N := 53) hx hb hts iwX11 hown hK hP 0 rfl rfl 12 (by decide) (hts (.fieldLink RX11 40 "ModulePlayerModel" "song" "[I") (List.mem_cons_of_mem _ kw_181)) (fun _ h9 => h9) rfl dX11_place_23 ?_
      refine lv_iload_n hx hb dX11_place_26 rfl (lv_at hl 1 rfl) ?_
      refine lv_iload_n hx hb dX11_place_27 rfl (lv_at hl 2 rfl) ?_
      refine g_iast hx hb hK hP hD hS 1 0 rfl rfl jp (nI_clamp (Nat.lt_trans (show jp < 128 from hjp) (by decide))) (vp_in_nI (hjp) (by decide)) dX11_place_28 (fun H locs hP hD hS => ?_)
      have hP : va_P (dC, dI) vwCl [(h, .inr (10, mdF qa x0 x2 x3 x4 x13 x14 x15 x16 x17 x18 x19 x20 x21 x22 x23 x24 x26 x27 x28)), (qa 12, .inl (cI, 128, .inl (upd g12 jp x)))] H := hP
      have hD : va_D A [(h, .inr (10, mdF qa x0 x2 x3 x4 x13 x14 x15 x16 x17 x18 x19 x20 x21 x22 x23 x24 x26 x27 x28)), (qa 12, .inl (cI, 128, .inl (upd g12 jp x)))] := hD
      refine lv_iconst (v := 1) hx hb dX11_place_29 (by decide) ?_
      have hP9 := hP
      have hD9 := hD
      have hK9 := hK.sub (tys' := []) [] rfl
      exact W.zret (v := 1) hx hb hr (by decide) (fun t ht hW => ⟨⟨1, _, rfl, (Or.inl ⟨jp, rfl, rfl, hjp, rfl, (in7_8.mp hh_14), (rg_upd r_g12 (in7' hh_14).1 (in7' hh_14).2)⟩), by rw [ht]; exact hP9, va_K.moved hW.alike hK9, hD9⟩, hS.F ht⟩) hS.2.2 dX11_place_30
    cases hu
    have hP : va_P (dC, dI) vwCl [(h, .inr (10, mdF qa x0 x2 x3 x4 x13 x14 x15 x16 x17 x18 x19 x20 x21 x22 x23 x24 x26 x27 x28)), (qa 12, .inl (cI, 128, .inl g12))] H := hP
    have hD : va_D A [(h, .inr (10, mdF qa x0 x2 x3 x4 x13 x14 x15 x16 x17 x18 x19 x20 x21 x22 x23 x24 x26 x27 x28)), (qa 12, .inl (cI, 128, .inl g12))] := hD
    refine g_topi (y := 0) hr_14 ?_
    refine lv_if_ne (tgt := 22) hx hb dX11_place_17 (by decide) (fun c_17 => absurd c_17 (by decide)) (fun c_17 => ?_)
    refine lv_iconst (v := 0) hx hb dX11_place_20 (by decide) ?_
    have hP9 := hP
    have hD9 := hD
    have hK9 := hK.sub (tys' := []) [] rfl
    exact W.zret (v := 0) hx hb hr (by decide) (fun t ht hW => ⟨⟨0, _, rfl, (Or.inr ⟨rfl, rfl, (fun qv => hh_14 (in7_8.mpr qv.2))⟩), by rw [ht]; exact hP9, va_K.moved hW.alike hK9, hD9⟩, hS.F ht⟩) hS.2.2 dX11_place_21
  cases hu
  have hP : va_P (dC, dI) vwCl [(h, .inr (10, mdF qa x0 x2 x3 x4 x13 x14 x15 x16 x17 x18 x19 x20 x21 x22 x23 x24 x26 x27 x28)), (qa 12, .inl (cI, 128, .inl g12))] H := hP
  have hD : va_D A [(h, .inr (10, mdF qa x0 x2 x3 x4 x13 x14 x15 x16 x17 x18 x19 x20 x21 x22 x23 x24 x26 x27 x28)), (qa 12, .inl (cI, 128, .inl g12))] := hD
  refine g_topi (y := 0) hr_4 ?_
  refine lv_if_eq (tgt := 20) hx hb dX11_place_7 (by decide) (fun c_7 => ?_) (fun c_7 => absurd c_7 (by decide))
  refine lv_iconst (v := 0) hx hb dX11_place_20 (by decide) ?_
  have hP9 := hP
  have hD9 := hD
  have hK9 := hK.sub (tys' := []) [] rfl
  exact W.zret (v := 0) hx hb hr (by decide) (fun t ht hW => ⟨⟨0, _, rfl, (Or.inr ⟨rfl, rfl, (fun qv => hh_4 (in127.mpr qv.1))⟩), by rw [ht]; exact hP9, va_K.moved hW.alike hK9, hD9⟩, hS.F ht⟩) hS.2.2 dX11_place_21

set_option maxHeartbeats 400000 in
set_option maxRecDepth 100000 in
theorem M_song (l : Launch) (dC : Nat → ClassId) (dI : Nat → Nat → Nat) (sz : Nat) (h : Nat) (qa : Nat → Nat) (x0 x2 x3 x4 x13 x14 x15 x16 x17 x18 x19 x20 x21 x22 x23 x24 x26 x27 x28 : Int32) (n x : Int32) : Met l yX11_song (wsG (.code yX11_song cX11_song 3 (some .boolean))) ({ frames := 1, cells := 0, slots := 0, locals := 22 }) (va_Pc [.ref h, .int n, .int x] (gP (dC, dI) [] [(h, .inr (10, mdF qa x0 x2 x3 x4 x13 x14 x15 x16 x17 x18 x19 x20 x21 x22 x23 x24 x26 x27 x28))] sz)) (va_Qi (fun (r : Int32) (u : va_W × gT) => (u = ([(h, .inr (10, mdF qa x0 x2 x3 x4 n x x15 x16 x17 x18 x19 x20 x21 x22 x23 x24 x26 x27 x28))], []) ∧ r = 1 ∧ songP n x ∧ plc n ∧ rst x) ∨ (u = ([(h, .inr (10, mdF qa x0 x2 x3 x4 x13 x14 x15 x16 x17 x18 x19 x20 x21 x22 x23 x24 x26 x27 x28))], []) ∧ r = 0 ∧ ¬ songP n x)) (gB (dC, dI) (va_A [(h, .inr (10, mdF qa x0 x2 x3 x4 x13 x14 x15 x16 x17 x18 x19 x20 x21 x22 x23 x24 x26 x27 x28))] sz)) (va_A [(h, .inr (10, mdF qa x0 x2 x3 x4 x13 x14 x15 x16 x17 x18 x19 x20 x21 x22 x23 x24 x26 x27 x28))] sz)) 0 0 (va_A [(h, .inr (10, mdF qa x0 x2 x3 x4 x13 x14 x15 x16 x17 x18 x19 x20 x21 x22 x23 x24 x26 x27 x28))] sz) := by
  refine Met.ofW (cc := cX11_song) (maxL := 3) (ret := (some .boolean)) (by decide) rfl ?_
  intro p e s m args below meth c s₁ B hml hv
  obtain ⟨rfl, hsz, hP, hK, hD0, hN, hZ⟩ := hv
  have hx := B.exec
  have hb := B.bytes
  have hr := B.returns
  have hts := atoms_spec (ws := (wsG (.code yX11_song cX11_song 3 (some .boolean)))) B.pre
  have hown : s.vm.findClass RX11 = some m.cls := findClass_of_methodNamed B.named
  have hlocks := B.notSynchronized
  subst hsz
  have hD := hD0.self (sz := s.heap.size)
  generalize hAe : va_A [(h, .inr (10, mdF qa x0 x2 x3 x4 x13 x14 x15 x16 x17 x18 x19 x20 x21 x22 x23 x24 x26 x27 x28))] s.heap.size = A at hD hZ ⊢
  have hA : ∀ q : Nat, s.heap.size ≤ q → A q := fun q h => by rw [← hAe]; exact Or.inr h
  have hl := lv_entry ([.ref h, .int n, .int x]) (n := 3) (Nat.le_of_ble_eq_true rfl)
  rw [lg_entry_eq]
  generalize (lg_sl ([.ref h, .int n, .int x]) ++ List.replicate (3 - (lg_sl ([.ref h, .int n, .int x])).length) Slot.unset).toArray = ls at hl ⊢
  have hl : lv_has ls 3 [(0, .ref h), (1, .int n), (2, .int x)] := hl
  refine g_start (A := A) hP (fun H locs hP hS => ?_)
  refine lv_iload_n hx hb dX11_song_0 rfl (lv_at hl 1 rfl) ?_
  refine lv_iconst (v := 1) hx hb dX11_song_1 (by decide) ?_
  refine lv_sipush (v := 128) hx hb dX11_song_2 (by decide) ?_
  refine g_calli (wr := [(h, .inr (10, mdF qa x0 x2 x3 x4 x13 x14 x15 x16 x17 x18 x19 x20 x21 x22 x23 x24 x26 x27 x28))]) (va_runS (As := [.int n, .int 1, .int 128]) (rest := []) ⟨hx, hb, hml, hown, hts⟩ (m_in l dC dI H.size n 1 128 ) (va_cwS 3 hts (gG_S kw_266 kw_267 kw_5 kw_268) rfl rfl rfl (by decide +kernel) ⟨Nat.le_of_ble_eq_true rfl, Nat.le_of_ble_eq_true rfl⟩) (g_preS hP hD hK hS hA hN hZ [] (by decide) rfl [] rfl) rfl rfl hl.1 rfl (lv_room (Nat.le_of_ble_eq_true rfl)) dX11_song_5 ⟨Nat.le_of_ble_eq_true rfl, Nat.le_of_ble_eq_true rfl⟩) hP hD hK hS hA [] [0] rfl rfl (by decide +kernel) (by decide +kernel) (fun r_5 w ty1 H locs hw_5 hP hD _ hS => ?_)
  rcases hw_5 with ⟨hu, hr_5, hh_5⟩ | ⟨hu, hr_5, hh_5⟩
  · cases hu
    have hP : va_P (dC, dI) vwCl [(h, .inr (10, mdF qa x0 x2 x3 x4 x13 x14 x15 x16 x17 x18 x19 x20 x21 x22 x23 x24 x26 x27 x28))] H := hP
    have hD : va_D A [(h, .inr (10, mdF qa x0 x2 x3 x4 x13 x14 x15 x16 x17 x18 x19 x20 x21 x22 x23 x24 x26 x27 x28))] := hD
    refine g_topi (y := 1) hr_5 ?_
    refine lv_if_eq (tgt := 22) hx hb dX11_song_8 (by decide) (fun c_8 => absurd c_8 (by decide)) (fun c_8 => ?_)
    refine lv_iload_n hx hb dX11_song_11 rfl (lv_at hl 2 rfl) ?_
    refine lv_iconst (v := 0) hx hb dX11_song_12 (by decide) ?_
    refine lv_sipush (v := 255) hx hb dX11_song_13 (by decide) ?_
    refine g_calli (wr := [(h, .inr (10, mdF qa x0 x2 x3 x4 x13 x14 x15 x16 x17 x18 x19 x20 x21 x22 x23 x24 x26 x27 x28))]) (va_runS (As := [.int x, .int 0, .int 255]) (rest := []) ⟨hx, hb, hml, hown, hts⟩ (m_in l dC dI H.size x 0 255 ) (va_cwS 3 hts (gG_S kw_266 kw_267 kw_5 kw_268) rfl rfl rfl (by decide +kernel) ⟨Nat.le_of_ble_eq_true rfl, Nat.le_of_ble_eq_true rfl⟩) (g_preS hP hD hK hS hA hN hZ [] (by decide) rfl [] rfl) rfl rfl hl.1 rfl (lv_room (Nat.le_of_ble_eq_true rfl)) dX11_song_16 ⟨Nat.le_of_ble_eq_true rfl, Nat.le_of_ble_eq_true rfl⟩) hP hD hK hS hA [] [0] rfl rfl (by decide +kernel) (by decide +kernel) (fun r_16 w ty1 H locs hw_16 hP hD _ hS => ?_)
    rcases hw_16 with ⟨hu, hr_16, hh_16⟩ | ⟨hu, hr_16, hh_16⟩
    · cases hu
      have hP : va_P (dC, dI) vwCl [(h, .inr (10, mdF qa x0 x2 x3 x4 x13 x14 x15 x16 x17 x18 x19 x20 x21 x22 x23 x24 x26 x27 x28))] H := hP
      have hD : va_D A [(h, .inr (10, mdF qa x0 x2 x3 x4 x13 x14 x15 x16 x17 x18 x19 x20 x21 x22 x23 x24 x26 x27 x28))] := hD
      refine g_topi (y := 1) hr_16 ?_
      refine lv_if_ne (tgt := 24) hx hb dX11_song_19 (by decide) (fun c_19 => ?_) (fun c_19 => absurd c_19 (by decide))
      refine lv_aload_n hx hb dX11_song_24 rfl (lv_at hl 0 rfl) ?_
      refine lv_iload_n hx hb dX11_song_25 rfl (lv_at hl 1 rfl) ?_
      refine va_put (D := (dC, dI)) (ci := 10) (v := .int n) (ty := tyX11 13) (C := RX11) (T := TX11) (N := 53) hx hb hts iwX11 tyX11 tyX11_ok nmX11 hown hK hP hD hS 0 rfl rfl 13 (by decide) (hts (.fieldLink RX11 43 "ModulePlayerModel" "places" "I") (List.mem_cons_of_mem _ kw_182)) (fun _ h9 => h9) rfl (by decide +kernel) (rfl) (rfl) (Nat.le_of_ble_eq_true rfl) dX11_song_26 (fun H locs hP hD hS => ?_)
      have hP : va_P (dC, dI) vwCl [(h, .inr (10, mdF qa x0 x2 x3 x4 n x14 x15 x16 x17 x18 x19 x20 x21 x22 x23 x24 x26 x27 x28))] H := hP
      have hD : va_D A [(h, .inr (10, mdF qa x0 x2 x3 x4 n x14 x15 x16 x17 x18 x19 x20 x21 x22 x23 x24 x26 x27 x28))] := hD
      refine lv_aload_n hx hb dX11_song_29 rfl (lv_at hl 0 rfl) ?_
      refine lv_iload_n hx hb dX11_song_30 rfl (lv_at hl 2 rfl) ?_
      refine va_put (D := (dC, dI)) (ci := 10) (v := .int x) (ty := tyX11 14) (C := RX11) (T := TX11) (N := 53) hx hb hts iwX11 tyX11 tyX11_ok nmX11 hown hK hP hD hS 0 rfl rfl 14 (by decide) (hts (.fieldLink RX11 172 "ModulePlayerModel" "restart" "I") (List.mem_cons_of_mem _ kw_425)) (fun _ h9 => h9) rfl (by decide +kernel) (rfl) (rfl) (Nat.le_of_ble_eq_true rfl) dX11_song_31 (fun H locs hP hD hS => ?_)
      have hP : va_P (dC, dI) vwCl [(h, .inr (10, mdF qa x0 x2 x3 x4 n x x15 x16 x17 x18 x19 x20 x21 x22 x23 x24 x26 x27 x28))] H := hP
      have hD : va_D A [(h, .inr (10, mdF qa x0 x2 x3 x4 n x x15 x16 x17 x18 x19 x20 x21 x22 x23 x24 x26 x27 x28))] := hD
      refine lv_iconst (v := 1) hx hb dX11_song_34 (by decide) ?_
      have hP9 := hP
      have hD9 := hD
      have hK9 := hK.sub (tys' := []) [] rfl
      exact W.zret (v := 1) hx hb hr (by decide) (fun t ht hW => ⟨⟨1, _, rfl, (Or.inl ⟨rfl, rfl, (⟨hh_5, hh_16⟩), ((song_p ⟨hh_5, hh_16⟩).1), ((song_p ⟨hh_5, hh_16⟩).2)⟩), by rw [ht]; exact hP9, va_K.moved hW.alike hK9, hD9⟩, hS.F ht⟩) hS.2.2 dX11_song_35
    cases hu
    have hP : va_P (dC, dI) vwCl [(h, .inr (10, mdF qa x0 x2 x3 x4 x13 x14 x15 x16 x17 x18 x19 x20 x21 x22 x23 x24 x26 x27 x28))] H := hP
    have hD : va_D A [(h, .inr (10, mdF qa x0 x2 x3 x4 x13 x14 x15 x16 x17 x18 x19 x20 x21 x22 x23 x24 x26 x27 x28))] := hD
    refine g_topi (y := 0) hr_16 ?_
    refine lv_if_ne (tgt := 24) hx hb dX11_song_19 (by decide) (fun c_19 => absurd c_19 (by decide)) (fun c_19 => ?_)
    refine lv_iconst (v := 0) hx hb dX11_song_22 (by decide) ?_
    have hP9 := hP
    have hD9 := hD
    have hK9 := hK.sub (tys' := []) [] rfl
    exact W.zret (v := 0) hx hb hr (by decide) (fun t ht hW => ⟨⟨0, _, rfl, (Or.inr ⟨rfl, rfl, (fun qv => hh_16 qv.2)⟩), by rw [ht]; exact hP9, va_K.moved hW.alike hK9, hD9⟩, hS.F ht⟩) hS.2.2 dX11_song_23
  cases hu
  have hP : va_P (dC, dI) vwCl [(h, .inr (10, mdF qa x0 x2 x3 x4 x13 x14 x15 x16 x17 x18 x19 x20 x21 x22 x23 x24 x26 x27 x28))] H := hP
  have hD : va_D A [(h, .inr (10, mdF qa x0 x2 x3 x4 x13 x14 x15 x16 x17 x18 x19 x20 x21 x22 x23 x24 x26 x27 x28))] := hD
  refine g_topi (y := 0) hr_5 ?_
  refine lv_if_eq (tgt := 22) hx hb dX11_song_8 (by decide) (fun c_8 => ?_) (fun c_8 => absurd c_8 (by decide))
  refine lv_iconst (v := 0) hx hb dX11_song_22 (by decide) ?_
  have hP9 := hP
  have hD9 := hD
  have hK9 := hK.sub (tys' := []) [] rfl
  exact W.zret (v := 0) hx hb hr (by decide) (fun t ht hW => ⟨⟨0, _, rfl, (Or.inr ⟨rfl, rfl, (fun qv => hh_5 qv.1)⟩), by rw [ht]; exact hP9, va_K.moved hW.alike hK9, hD9⟩, hS.F ht⟩) hS.2.2 dX11_song_23

set_option maxHeartbeats 400000 in
set_option maxRecDepth 100000 in
theorem M_mute (l : Launch) (dC : Nat → ClassId) (dI : Nat → Nat → Nat) (sz : Nat) (h : Nat) (qa : Nat → Nat) (x0 x2 x3 x4 x13 x14 x15 x16 x17 x18 x19 x20 x21 x22 x23 x24 x26 x27 x28 : Int32) (cZ : ClassId) (g52 : Nat → Int32) (x1 zv : Int32) (r_g52 : rg 4 0 1 g52) (hz : b01 zv) : Met l yX11_mute (wsG (.code yX11_mute cX11_mute 4 (some .boolean))) ({ frames := 1, cells := 0, slots := 0, locals := 22 }) (va_Pc [.ref h, .int x1, .int zv] (gP (dC, dI) [(cZ, .boolean)] [(h, .inr (10, mdF qa x0 x2 x3 x4 x13 x14 x15 x16 x17 x18 x19 x20 x21 x22 x23 x24 x26 x27 x28)), (qa 52, .inl (cZ, 4, .inl g52))] sz)) (va_Qi (fun (r : Int32) (u : va_W × gT) => (∃ (jp : Nat), u = ([(h, .inr (10, mdF qa x0 x2 x3 x4 x13 x14 x15 x16 x17 x18 x19 x20 x21 x22 x23 x24 x26 x27 x28)), (qa 52, .inl (cZ, 4, .inl (upd g52 jp zv)))], []) ∧ r = g52 jp ∧ jp < 4 ∧ x1 = nI jp ∧ rg 4 0 1 (upd g52 jp zv)) ∨ (u = ([(h, .inr (10, mdF qa x0 x2 x3 x4 x13 x14 x15 x16 x17 x18 x19 x20 x21 x22 x23 x24 x26 x27 x28)), (qa 52, .inl (cZ, 4, .inl g52))], []) ∧ r = 0 ∧ ¬ (0 ≤ x1 ∧ x1 < 4))) (gB (dC, dI) (va_A [(h, .inr (10, mdF qa x0 x2 x3 x4 x13 x14 x15 x16 x17 x18 x19 x20 x21 x22 x23 x24 x26 x27 x28)), (qa 52, .inl (cZ, 4, .inl g52))] sz)) (va_A [(h, .inr (10, mdF qa x0 x2 x3 x4 x13 x14 x15 x16 x17 x18 x19 x20 x21 x22 x23 x24 x26 x27 x28)), (qa 52, .inl (cZ, 4, .inl g52))] sz)) 0 0 (va_A [(h, .inr (10, mdF qa x0 x2 x3 x4 x13 x14 x15 x16 x17 x18 x19 x20 x21 x22 x23 x24 x26 x27 x28)), (qa 52, .inl (cZ, 4, .inl g52))] sz) := by
  refine Met.ofW (cc := cX11_mute) (maxL := 4) (ret := (some .boolean)) (by decide) rfl ?_
  intro p e s m args below meth c s₁ B hml hv
  obtain ⟨rfl, hsz, hP, hK, hD0, hN, hZ⟩ := hv
  have hx := B.exec
  have hb := B.bytes
  have hr := B.returns
  have hts := atoms_spec (ws := (wsG (.code yX11_mute cX11_mute 4 (some .boolean)))) B.pre
  have hown : s.vm.findClass RX11 = some m.cls := findClass_of_methodNamed B.named
  have hlocks := B.notSynchronized
  subst hsz
  have hD := hD0.self (sz := s.heap.size)
  generalize hAe : va_A [(h, .inr (10, mdF qa x0 x2 x3 x4 x13 x14 x15 x16 x17 x18 x19 x20 x21 x22 x23 x24 x26 x27 x28)), (qa 52, .inl (cZ, 4, .inl g52))] s.heap.size = A at hD hZ ⊢
  have hA : ∀ q : Nat, s.heap.size ≤ q → A q := fun q h => by rw [← hAe]; exact Or.inr h
  have hl := lv_entry ([.ref h, .int x1, .int zv]) (n := 4) (Nat.le_of_ble_eq_true rfl)
  rw [lg_entry_eq]
  generalize (lg_sl ([.ref h, .int x1, .int zv]) ++ List.replicate (4 - (lg_sl ([.ref h, .int x1, .int zv])).length) Slot.unset).toArray = ls at hl ⊢
  have hl : lv_has ls 4 [(0, .ref h), (1, .int x1), (2, .int zv)] := hl
  refine g_start (A := A) hP (fun H locs hP hS => ?_)
  refine lv_iload_n hx hb dX11_mute_0 rfl (lv_at hl 1 rfl) ?_
  refine lv_iconst (v := 0) hx hb dX11_mute_1 (by decide) ?_
  refine lv_iconst (v := 3) hx hb dX11_mute_2 (by decide) ?_
  refine g_calli (wr := [(h, .inr (10, mdF qa x0 x2 x3 x4 x13 x14 x15 x16 x17 x18 x19 x20 x21 x22 x23 x24 x26 x27 x28)), (qa 52, .inl (cZ, 4, .inl g52))]) (va_runS (As := [.int x1, .int 0, .int 3]) (rest := []) ⟨hx, hb, hml, hown, hts⟩ (m_in l dC dI H.size x1 0 3 ) (va_cwS 3 hts (gG_S kw_266 kw_267 kw_5 kw_268) rfl rfl rfl (by decide +kernel) ⟨Nat.le_of_ble_eq_true rfl, Nat.le_of_ble_eq_true rfl⟩) (g_preS hP hD hK hS hA hN hZ [] (by decide) rfl [] rfl) rfl rfl hl.1 rfl (lv_room (Nat.le_of_ble_eq_true rfl)) dX11_mute_3 ⟨Nat.le_of_ble_eq_true rfl, Nat.le_of_ble_eq_true rfl⟩) hP hD hK hS hA [] [0, 1] rfl rfl (by decide +kernel) (by decide +kernel) (fun r_3 w ty1 H locs hw_3 hP hD _ hS => ?_)
  rcases hw_3 with ⟨hu, hr_3, hh_3⟩ | ⟨hu, hr_3, hh_3⟩
  · cases hu
    have hP : va_P (dC, dI) vwCl [(h, .inr (10, mdF qa x0 x2 x3 x4 x13 x14 x15 x16 x17 x18 x19 x20 x21 x22 x23 x24 x26 x27 x28)), (qa 52, .inl (cZ, 4, .inl g52))] H := hP
    have hD : va_D A [(h, .inr (10, mdF qa x0 x2 x3 x4 x13 x14 x15 x16 x17 x18 x19 x20 x21 x22 x23 x24 x26 x27 x28)), (qa 52, .inl (cZ, 4, .inl g52))] := hD
    refine g_topi (y := 1) hr_3 ?_
    obtain ⟨jp, hjp, hij⟩ := i_in (n := 4) (by decide) (in3_4.mp hh_3).1 (in3_4.mp hh_3).2
    subst hij
    refine lv_if_ne (tgt := 11) hx hb dX11_mute_6 (by decide) (fun c_6 => ?_) (fun c_6 => absurd c_6 (by decide))
    refine lv_aload_n hx hb dX11_mute_11 rfl (lv_at hl 0 rfl) ?_
    refine va_get (D := (dC, dI)) (ci := 10) (v := .ref (qa 52)) (C := RX11) (T := TX11) (N := 53) hx hb hts iwX11 hown hK hP 0 rfl rfl 52 (by decide) (hts (.fieldLink RX11 120 "ModulePlayerModel" "isMute" "[Z") (List.mem_cons_of_mem _ kw_208)) (fun _ h9 => h9) rfl dX11_mute_12 ?_
    refine lv_iload_n hx hb dX11_mute_15 rfl (lv_at hl 1 rfl) ?_
    refine g_zald hx hb hK hP 1 0 rfl rfl jp (nI_clamp (Nat.lt_trans (show jp < 4 from hjp) (by decide))) (vp_in_nI (hjp) (by decide)) dX11_mute_16 ?_
    refine lv_istore_n (lv' := [(3, .int (g52 jp)), (0, .ref h), (1, .int (nI jp)), (2, .int zv)]) hx hb dX11_mute_17 rfl hl (by decide) rfl (fun ls hl => ?_)
    refine lv_aload_n hx hb dX11_mute_18 rfl (lv_at hl 1 rfl) ?_
    refine va_get (D := (dC, dI)) (ci := 10) (v := .ref (qa 52)) (C := RX11) (T := TX11) (N := 53) hx hb hts iwX11 hown hK hP 0 rfl rfl 52 (by decide) (hts (.fieldLink RX11 120 "ModulePlayerModel" "isMute" "[Z") (List.mem_cons_of_mem _ kw_208)) (fun _ h9 => h9) rfl dX11_mute_19 ?_
    refine lv_iload_n hx hb dX11_mute_22 rfl (lv_at hl 2 rfl) ?_
    refine lv_iload_n hx hb dX11_mute_23 rfl (lv_at hl 3 rfl) ?_
    refine g_zast hx hb hK hP hD hS 1 0 rfl rfl (x' := zv) (by rcases hz with rfl | rfl <;> rfl) jp (nI_clamp (Nat.lt_trans (show jp < 4 from hjp) (by decide))) (vp_in_nI (hjp) (by decide)) dX11_mute_24 (fun H locs hP hD hS => ?_)
    have hP : va_P (dC, dI) vwCl [(h, .inr (10, mdF qa x0 x2 x3 x4 x13 x14 x15 x16 x17 x18 x19 x20 x21 x22 x23 x24 x26 x27 x28)), (qa 52, .inl (cZ, 4, .inl (upd g52 jp zv)))] H := hP
    have hD : va_D A [(h, .inr (10, mdF qa x0 x2 x3 x4 x13 x14 x15 x16 x17 x18 x19 x20 x21 x22 x23 x24 x26 x27 x28)), (qa 52, .inl (cZ, 4, .inl (upd g52 jp zv)))] := hD
    refine lv_iload_n hx hb dX11_mute_25 rfl (lv_at hl 0 rfl) ?_
    have hP9 := hP
    have hD9 := hD
    have hK9 := hK.sub (tys' := []) [] rfl
    exact W.zret (v := g52 jp) hx hb hr (by rcases rg01 r_g52 hjp with qv | qv <;> rw [qv] <;> rfl) (fun t ht hW => ⟨⟨g52 jp, _, rfl, (Or.inl ⟨jp, rfl, rfl, hjp, rfl, (rg_upd r_g52 (b01_rg hz).1 (b01_rg hz).2)⟩), by rw [ht]; exact hP9, va_K.moved hW.alike hK9, hD9⟩, hS.F ht⟩) hS.2.2 dX11_mute_26
  cases hu
  have hP : va_P (dC, dI) vwCl [(h, .inr (10, mdF qa x0 x2 x3 x4 x13 x14 x15 x16 x17 x18 x19 x20 x21 x22 x23 x24 x26 x27 x28)), (qa 52, .inl (cZ, 4, .inl g52))] H := hP
  have hD : va_D A [(h, .inr (10, mdF qa x0 x2 x3 x4 x13 x14 x15 x16 x17 x18 x19 x20 x21 x22 x23 x24 x26 x27 x28)), (qa 52, .inl (cZ, 4, .inl g52))] := hD
  refine g_topi (y := 0) hr_3 ?_
  refine lv_if_ne (tgt := 11) hx hb dX11_mute_6 (by decide) (fun c_6 => absurd c_6 (by decide)) (fun c_6 => ?_)
  refine lv_iconst (v := 0) hx hb dX11_mute_9 (by decide) ?_
  have hP9 := hP
  have hD9 := hD
  have hK9 := hK.sub (tys' := []) [] rfl
  exact W.zret (v := 0) hx hb hr (by decide) (fun t ht hW => ⟨⟨0, _, rfl, (Or.inr ⟨rfl, rfl, (fun qv => hh_3 (in3_4.mpr qv))⟩), by rw [ht]; exact hP9, va_K.moved hW.alike hK9, hD9⟩, hS.F ht⟩) hS.2.2 dX11_mute_10

set_option maxHeartbeats 400000 in
set_option maxRecDepth 100000 in
theorem M_now (l : Launch) (dC : Nat → ClassId) (dI : Nat → Nat → Nat) (sz : Nat) (h : Nat) (qa : Nat → Nat) (x0 x2 x3 x4 x13 x14 x15 x16 x17 x18 x19 x20 x21 x22 x23 x24 x26 x27 x28 : Int32) (x : Int32) : Met l yX11_now (wsG (.code yX11_now cX11_now 2 (some .int))) ({ frames := 0, cells := 0, slots := 0, locals := 0 }) (va_Pc [.ref h, .int x] (gP (dC, dI) [] [(h, .inr (10, mdF qa x0 x2 x3 x4 x13 x14 x15 x16 x17 x18 x19 x20 x21 x22 x23 x24 x26 x27 x28))] sz)) (va_Qi (fun (r : Int32) (u : va_W × gT) => u = ([(h, .inr (10, mdF qa x0 x2 x3 x4 x13 x14 x15 x16 x17 x18 x19 x20 x21 x22 x23 x24 x26 x27 x28))], [])) (gB (dC, dI) (va_A [(h, .inr (10, mdF qa x0 x2 x3 x4 x13 x14 x15 x16 x17 x18 x19 x20 x21 x22 x23 x24 x26 x27 x28))] sz)) (va_A [(h, .inr (10, mdF qa x0 x2 x3 x4 x13 x14 x15 x16 x17 x18 x19 x20 x21 x22 x23 x24 x26 x27 x28))] sz)) 0 0 (va_A [(h, .inr (10, mdF qa x0 x2 x3 x4 x13 x14 x15 x16 x17 x18 x19 x20 x21 x22 x23 x24 x26 x27 x28))] sz) := by
  refine Met.ofW (cc := cX11_now) (maxL := 2) (ret := (some .int)) (by decide) rfl ?_
  intro p e s m args below meth c s₁ B hml hv
  obtain ⟨rfl, hsz, hP, hK, hD0, hN, hZ⟩ := hv
  have hx := B.exec
  have hb := B.bytes
  have hr := B.returns
  have hts := atoms_spec (ws := (wsG (.code yX11_now cX11_now 2 (some .int)))) B.pre
  have hown : s.vm.findClass RX11 = some m.cls := findClass_of_methodNamed B.named
  have hlocks := B.notSynchronized
  subst hsz
  have hD := hD0.self (sz := s.heap.size)
  generalize hAe : va_A [(h, .inr (10, mdF qa x0 x2 x3 x4 x13 x14 x15 x16 x17 x18 x19 x20 x21 x22 x23 x24 x26 x27 x28))] s.heap.size = A at hD hZ ⊢
  have hA : ∀ q : Nat, s.heap.size ≤ q → A q := fun q h => by rw [← hAe]; exact Or.inr h
  have hl := lv_entry ([.ref h, .int x]) (n := 2) (Nat.le_of_ble_eq_true rfl)
  rw [lg_entry_eq]
  generalize (lg_sl ([.ref h, .int x]) ++ List.replicate (2 - (lg_sl ([.ref h, .int x])).length) Slot.unset).toArray = ls at hl ⊢
  have hl : lv_has ls 2 [(0, .ref h), (1, .int x)] := hl
  refine g_start (A := A) hP (fun H locs hP hS => ?_)
  refine lv_iload_n hx hb dX11_now_0 rfl (lv_at hl 1 rfl) ?_
  by_cases hlo_1 : x.toInt < 0
  · refine lv_tableOut (tgt := 97) hx hb dX11_now_1 (Or.inl hlo_1) (by decide) ?_
    refine lv_iconst (v := (-1)) hx hb dX11_now_97 (by decide) ?_
    have hP9 := hP
    have hD9 := hD
    have hK9 := hK.sub (tys' := []) [] rfl
    exact W.iret (v := (-1)) hx hb hr (fun t ht hW => ⟨⟨(-1), _, rfl, rfl, by rw [ht]; exact hP9, va_K.moved hW.alike hK9, hD9⟩, hS.F ht⟩) hS.2.2 dX11_now_98
  by_cases hhi_1 : 8 < x.toInt
  · refine lv_tableOut (tgt := 97) hx hb dX11_now_1 (Or.inr hhi_1) (by decide) ?_
    refine lv_iconst (v := (-1)) hx hb dX11_now_97 (by decide) ?_
    have hP9 := hP
    have hD9 := hD
    have hK9 := hK.sub (tys' := []) [] rfl
    exact W.iret (v := (-1)) hx hb hr (fun t ht hW => ⟨⟨(-1), _, rfl, rfl, by rw [ht]; exact hP9, va_K.moved hW.alike hK9, hD9⟩, hS.F ht⟩) hS.2.2 dX11_now_98
  have hsw_1 : x = 0 ∨ x = 1 ∨ x = 2 ∨ x = 3 ∨ x = 4 ∨ x = 5 ∨ x = 6 ∨ x = 7 ∨ x = 8 := by
    have h1 : x.toInt = 0 ∨ x.toInt = 1 ∨ x.toInt = 2 ∨ x.toInt = 3 ∨ x.toInt = 4 ∨ x.toInt = 5 ∨ x.toInt = 6 ∨ x.toInt = 7 ∨ x.toInt = 8 := by omega
    rcases h1 with h1 | h1 | h1 | h1 | h1 | h1 | h1 | h1 | h1 <;> simp only [i_eq, h1] <;> decide
  rcases hsw_1 with hq | hq | hq | hq | hq | hq | hq | hq | hq
  · refine lv_tableIn (off := 51) (tgt := 52) hx hb dX11_now_1 (by rw [hq]; decide) (by rw [hq]; decide) (by rw [hq]; decide) (by decide) ?_
    refine lv_aload_n hx hb dX11_now_52 rfl (lv_at hl 0 rfl) ?_
    refine va_get (D := (dC, dI)) (ci := 10) (v := .int x17) (C := RX11) (T := TX11) (N := 53) hx hb hts iwX11 hown hK hP 0 rfl rfl 17 (by decide) (hts (.fieldLink RX11 203 "ModulePlayerModel" "place" "I") (List.mem_cons_of_mem _ kw_220)) (fun _ h9 => h9) rfl dX11_now_53 ?_
    have hP9 := hP
    have hD9 := hD
    have hK9 := hK.sub (tys' := []) [] rfl
    exact W.iret (v := x17) hx hb hr (fun t ht hW => ⟨⟨x17, _, rfl, rfl, by rw [ht]; exact hP9, va_K.moved hW.alike hK9, hD9⟩, hS.F ht⟩) hS.2.2 dX11_now_56
  · refine lv_tableIn (off := 56) (tgt := 57) hx hb dX11_now_1 (by rw [hq]; decide) (by rw [hq]; decide) (by rw [hq]; decide) (by decide) ?_
    refine lv_aload_n hx hb dX11_now_57 rfl (lv_at hl 0 rfl) ?_
    refine va_get (D := (dC, dI)) (ci := 10) (v := .int x18) (C := RX11) (T := TX11) (N := 53) hx hb hts iwX11 hown hK hP 0 rfl rfl 18 (by decide) (hts (.fieldLink RX11 206 "ModulePlayerModel" "row" "I") (List.mem_cons_of_mem _ kw_221)) (fun _ h9 => h9) rfl dX11_now_58 ?_
    have hP9 := hP
    have hD9 := hD
    have hK9 := hK.sub (tys' := []) [] rfl
    exact W.iret (v := x18) hx hb hr (fun t ht hW => ⟨⟨x18, _, rfl, rfl, by rw [ht]; exact hP9, va_K.moved hW.alike hK9, hD9⟩, hS.F ht⟩) hS.2.2 dX11_now_61
  · refine lv_tableIn (off := 61) (tgt := 62) hx hb dX11_now_1 (by rw [hq]; decide) (by rw [hq]; decide) (by rw [hq]; decide) (by decide) ?_
    refine lv_aload_n hx hb dX11_now_62 rfl (lv_at hl 0 rfl) ?_
    refine va_get (D := (dC, dI)) (ci := 10) (v := .int x19) (C := RX11) (T := TX11) (N := 53) hx hb hts iwX11 hown hK hP 0 rfl rfl 19 (by decide) (hts (.fieldLink RX11 209 "ModulePlayerModel" "tick" "I") (List.mem_cons_of_mem _ kw_222)) (fun _ h9 => h9) rfl dX11_now_63 ?_
    have hP9 := hP
    have hD9 := hD
    have hK9 := hK.sub (tys' := []) [] rfl
    exact W.iret (v := x19) hx hb hr (fun t ht hW => ⟨⟨x19, _, rfl, rfl, by rw [ht]; exact hP9, va_K.moved hW.alike hK9, hD9⟩, hS.F ht⟩) hS.2.2 dX11_now_66
  · refine lv_tableIn (off := 66) (tgt := 67) hx hb dX11_now_1 (by rw [hq]; decide) (by rw [hq]; decide) (by rw [hq]; decide) (by decide) ?_
    refine lv_aload_n hx hb dX11_now_67 rfl (lv_at hl 0 rfl) ?_
    refine va_get (D := (dC, dI)) (ci := 10) (v := .int x24) (C := RX11) (T := TX11) (N := 53) hx hb hts iwX11 hown hK hP 0 rfl rfl 24 (by decide) (hts (.fieldLink RX11 212 "ModulePlayerModel" "frames" "I") (List.mem_cons_of_mem _ kw_223)) (fun _ h9 => h9) rfl dX11_now_68 ?_
    have hP9 := hP
    have hD9 := hD
    have hK9 := hK.sub (tys' := []) [] rfl
    exact W.iret (v := x24) hx hb hr (fun t ht hW => ⟨⟨x24, _, rfl, rfl, by rw [ht]; exact hP9, va_K.moved hW.alike hK9, hD9⟩, hS.F ht⟩) hS.2.2 dX11_now_71
  · refine lv_tableIn (off := 71) (tgt := 72) hx hb dX11_now_1 (by rw [hq]; decide) (by rw [hq]; decide) (by rw [hq]; decide) (by decide) ?_
    refine lv_aload_n hx hb dX11_now_72 rfl (lv_at hl 0 rfl) ?_
    refine va_get (D := (dC, dI)) (ci := 10) (v := .int x15) (C := RX11) (T := TX11) (N := 53) hx hb hts iwX11 hown hK hP 0 rfl rfl 15 (by decide) (hts (.fieldLink RX11 197 "ModulePlayerModel" "speed" "I") (List.mem_cons_of_mem _ kw_218)) (fun _ h9 => h9) rfl dX11_now_73 ?_
    have hP9 := hP
    have hD9 := hD
    have hK9 := hK.sub (tys' := []) [] rfl
    exact W.iret (v := x15) hx hb hr (fun t ht hW => ⟨⟨x15, _, rfl, rfl, by rw [ht]; exact hP9, va_K.moved hW.alike hK9, hD9⟩, hS.F ht⟩) hS.2.2 dX11_now_76
  · refine lv_tableIn (off := 76) (tgt := 77) hx hb dX11_now_1 (by rw [hq]; decide) (by rw [hq]; decide) (by rw [hq]; decide) (by decide) ?_
    refine lv_aload_n hx hb dX11_now_77 rfl (lv_at hl 0 rfl) ?_
    refine va_get (D := (dC, dI)) (ci := 10) (v := .int x16) (C := RX11) (T := TX11) (N := 53) hx hb hts iwX11 hown hK hP 0 rfl rfl 16 (by decide) (hts (.fieldLink RX11 200 "ModulePlayerModel" "tempo" "I") (List.mem_cons_of_mem _ kw_219)) (fun _ h9 => h9) rfl dX11_now_78 ?_
    have hP9 := hP
    have hD9 := hD
    have hK9 := hK.sub (tys' := []) [] rfl
    exact W.iret (v := x16) hx hb hr (fun t ht hW => ⟨⟨x16, _, rfl, rfl, by rw [ht]; exact hP9, va_K.moved hW.alike hK9, hD9⟩, hS.F ht⟩) hS.2.2 dX11_now_81
  · refine lv_tableIn (off := 81) (tgt := 82) hx hb dX11_now_1 (by rw [hq]; decide) (by rw [hq]; decide) (by rw [hq]; decide) (by decide) ?_
    refine lv_aload_n hx hb dX11_now_82 rfl (lv_at hl 0 rfl) ?_
    refine va_get (D := (dC, dI)) (ci := 10) (v := .int x21) (C := RX11) (T := TX11) (N := 53) hx hb hts iwX11 hown hK hP 0 rfl rfl 21 (by decide) (hts (.fieldLink RX11 218 "ModulePlayerModel" "again" "I") (List.mem_cons_of_mem _ kw_225)) (fun _ h9 => h9) rfl dX11_now_83 ?_
    have hP9 := hP
    have hD9 := hD
    have hK9 := hK.sub (tys' := []) [] rfl
    exact W.iret (v := x21) hx hb hr (fun t ht hW => ⟨⟨x21, _, rfl, rfl, by rw [ht]; exact hP9, va_K.moved hW.alike hK9, hD9⟩, hS.F ht⟩) hS.2.2 dX11_now_86
  · refine lv_tableIn (off := 86) (tgt := 87) hx hb dX11_now_1 (by rw [hq]; decide) (by rw [hq]; decide) (by rw [hq]; decide) (by decide) ?_
    refine lv_aload_n hx hb dX11_now_87 rfl (lv_at hl 0 rfl) ?_
    refine va_get (D := (dC, dI)) (ci := 10) (v := .int x22) (C := RX11) (T := TX11) (N := 53) hx hb hts iwX11 hown hK hP 0 rfl rfl 22 (by decide) (hts (.fieldLink RX11 221 "ModulePlayerModel" "sum" "I") (List.mem_cons_of_mem _ kw_226)) (fun _ h9 => h9) rfl dX11_now_88 ?_
    have hP9 := hP
    have hD9 := hD
    have hK9 := hK.sub (tys' := []) [] rfl
    exact W.iret (v := x22) hx hb hr (fun t ht hW => ⟨⟨x22, _, rfl, rfl, by rw [ht]; exact hP9, va_K.moved hW.alike hK9, hD9⟩, hS.F ht⟩) hS.2.2 dX11_now_91
  · refine lv_tableIn (off := 91) (tgt := 92) hx hb dX11_now_1 (by rw [hq]; decide) (by rw [hq]; decide) (by rw [hq]; decide) (by decide) ?_
    refine lv_aload_n hx hb dX11_now_92 rfl (lv_at hl 0 rfl) ?_
    refine va_get (D := (dC, dI)) (ci := 10) (v := .int x23) (C := RX11) (T := TX11) (N := 53) hx hb hts iwX11 hown hK hP 0 rfl rfl 23 (by decide) (hts (.fieldLink RX11 224 "ModulePlayerModel" "ticks" "I") (List.mem_cons_of_mem _ kw_227)) (fun _ h9 => h9) rfl dX11_now_93 ?_
    have hP9 := hP
    have hD9 := hD
    have hK9 := hK.sub (tys' := []) [] rfl
    exact W.iret (v := x23) hx hb hr (fun t ht hW => ⟨⟨x23, _, rfl, rfl, by rw [ht]; exact hP9, va_K.moved hW.alike hK9, hD9⟩, hS.F ht⟩) hS.2.2 dX11_now_96

set_option maxHeartbeats 400000 in
set_option maxRecDepth 100000 in
theorem M_channel (l : Launch) (dC : Nat → ClassId) (dI : Nat → Nat → Nat) (sz : Nat) (h : Nat) (qa : Nat → Nat) (x0 x2 x3 x4 x13 x14 x15 x16 x17 x18 x19 x20 x21 x22 x23 x24 x26 x27 x28 : Int32) (cI cJ cZ : ClassId) (g31 g32 g33 g34 g36 g39 g42 g45 g46 g48 g49 g51 : Nat → Int32) (g50 : Nat → Int64) (xa1 xa2 : Int32) : Met l yX11_channel (wsG (.code yX11_channel cX11_channel 3 (some .int))) ({ frames := 1, cells := 0, slots := 0, locals := 22 }) (va_Pc [.ref h, .int xa1, .int xa2] (gP (dC, dI) [(cI, .int), (cJ, .long), (cZ, .boolean)] [(h, .inr (10, mdF qa x0 x2 x3 x4 x13 x14 x15 x16 x17 x18 x19 x20 x21 x22 x23 x24 x26 x27 x28)), (qa 31, .inl (cI, 4, .inl g31)), (qa 32, .inl (cI, 4, .inl g32)), (qa 33, .inl (cI, 4, .inl g33)), (qa 34, .inl (cI, 4, .inl g34)), (qa 36, .inl (cI, 4, .inl g36)), (qa 39, .inl (cI, 4, .inl g39)), (qa 42, .inl (cI, 4, .inl g42)), (qa 45, .inl (cI, 4, .inl g45)), (qa 46, .inl (cI, 4, .inl g46)), (qa 48, .inl (cI, 4, .inl g48)), (qa 49, .inl (cI, 4, .inl g49)), (qa 50, .inl (cJ, 4, .inr (.inl g50))), (qa 51, .inl (cZ, 4, .inl g51))] sz)) (va_Qi (fun (r : Int32) (u : va_W × gT) => u = ([(h, .inr (10, mdF qa x0 x2 x3 x4 x13 x14 x15 x16 x17 x18 x19 x20 x21 x22 x23 x24 x26 x27 x28)), (qa 31, .inl (cI, 4, .inl g31)), (qa 32, .inl (cI, 4, .inl g32)), (qa 33, .inl (cI, 4, .inl g33)), (qa 34, .inl (cI, 4, .inl g34)), (qa 36, .inl (cI, 4, .inl g36)), (qa 39, .inl (cI, 4, .inl g39)), (qa 42, .inl (cI, 4, .inl g42)), (qa 45, .inl (cI, 4, .inl g45)), (qa 46, .inl (cI, 4, .inl g46)), (qa 48, .inl (cI, 4, .inl g48)), (qa 49, .inl (cI, 4, .inl g49)), (qa 50, .inl (cJ, 4, .inr (.inl g50))), (qa 51, .inl (cZ, 4, .inl g51))], [])) (gB (dC, dI) (va_A [(h, .inr (10, mdF qa x0 x2 x3 x4 x13 x14 x15 x16 x17 x18 x19 x20 x21 x22 x23 x24 x26 x27 x28)), (qa 31, .inl (cI, 4, .inl g31)), (qa 32, .inl (cI, 4, .inl g32)), (qa 33, .inl (cI, 4, .inl g33)), (qa 34, .inl (cI, 4, .inl g34)), (qa 36, .inl (cI, 4, .inl g36)), (qa 39, .inl (cI, 4, .inl g39)), (qa 42, .inl (cI, 4, .inl g42)), (qa 45, .inl (cI, 4, .inl g45)), (qa 46, .inl (cI, 4, .inl g46)), (qa 48, .inl (cI, 4, .inl g48)), (qa 49, .inl (cI, 4, .inl g49)), (qa 50, .inl (cJ, 4, .inr (.inl g50))), (qa 51, .inl (cZ, 4, .inl g51))] sz)) (va_A [(h, .inr (10, mdF qa x0 x2 x3 x4 x13 x14 x15 x16 x17 x18 x19 x20 x21 x22 x23 x24 x26 x27 x28)), (qa 31, .inl (cI, 4, .inl g31)), (qa 32, .inl (cI, 4, .inl g32)), (qa 33, .inl (cI, 4, .inl g33)), (qa 34, .inl (cI, 4, .inl g34)), (qa 36, .inl (cI, 4, .inl g36)), (qa 39, .inl (cI, 4, .inl g39)), (qa 42, .inl (cI, 4, .inl g42)), (qa 45, .inl (cI, 4, .inl g45)), (qa 46, .inl (cI, 4, .inl g46)), (qa 48, .inl (cI, 4, .inl g48)), (qa 49, .inl (cI, 4, .inl g49)), (qa 50, .inl (cJ, 4, .inr (.inl g50))), (qa 51, .inl (cZ, 4, .inl g51))] sz)) 0 0 (va_A [(h, .inr (10, mdF qa x0 x2 x3 x4 x13 x14 x15 x16 x17 x18 x19 x20 x21 x22 x23 x24 x26 x27 x28)), (qa 31, .inl (cI, 4, .inl g31)), (qa 32, .inl (cI, 4, .inl g32)), (qa 33, .inl (cI, 4, .inl g33)), (qa 34, .inl (cI, 4, .inl g34)), (qa 36, .inl (cI, 4, .inl g36)), (qa 39, .inl (cI, 4, .inl g39)), (qa 42, .inl (cI, 4, .inl g42)), (qa 45, .inl (cI, 4, .inl g45)), (qa 46, .inl (cI, 4, .inl g46)), (qa 48, .inl (cI, 4, .inl g48)), (qa 49, .inl (cI, 4, .inl g49)), (qa 50, .inl (cJ, 4, .inr (.inl g50))), (qa 51, .inl (cZ, 4, .inl g51))] sz) := by
  refine Met.ofW (cc := cX11_channel) (maxL := 3) (ret := (some .int)) (by decide) rfl ?_
  intro p e s m args below meth c s₁ B hml hv
  obtain ⟨rfl, hsz, hP, hK, hD0, hN, hZ⟩ := hv
  have hx := B.exec
  have hb := B.bytes
  have hr := B.returns
  have hts := atoms_spec (ws := (wsG (.code yX11_channel cX11_channel 3 (some .int)))) B.pre
  have hown : s.vm.findClass RX11 = some m.cls := findClass_of_methodNamed B.named
  have hlocks := B.notSynchronized
  subst hsz
  have hD := hD0.self (sz := s.heap.size)
  generalize hAe : va_A [(h, .inr (10, mdF qa x0 x2 x3 x4 x13 x14 x15 x16 x17 x18 x19 x20 x21 x22 x23 x24 x26 x27 x28)), (qa 31, .inl (cI, 4, .inl g31)), (qa 32, .inl (cI, 4, .inl g32)), (qa 33, .inl (cI, 4, .inl g33)), (qa 34, .inl (cI, 4, .inl g34)), (qa 36, .inl (cI, 4, .inl g36)), (qa 39, .inl (cI, 4, .inl g39)), (qa 42, .inl (cI, 4, .inl g42)), (qa 45, .inl (cI, 4, .inl g45)), (qa 46, .inl (cI, 4, .inl g46)), (qa 48, .inl (cI, 4, .inl g48)), (qa 49, .inl (cI, 4, .inl g49)), (qa 50, .inl (cJ, 4, .inr (.inl g50))), (qa 51, .inl (cZ, 4, .inl g51))] s.heap.size = A at hD hZ ⊢
  have hA : ∀ q : Nat, s.heap.size ≤ q → A q := fun q h => by rw [← hAe]; exact Or.inr h
  have hl := lv_entry ([.ref h, .int xa1, .int xa2]) (n := 3) (Nat.le_of_ble_eq_true rfl)
  rw [lg_entry_eq]
  generalize (lg_sl ([.ref h, .int xa1, .int xa2]) ++ List.replicate (3 - (lg_sl ([.ref h, .int xa1, .int xa2])).length) Slot.unset).toArray = ls at hl ⊢
  have hl : lv_has ls 3 [(0, .ref h), (1, .int xa1), (2, .int xa2)] := hl
  refine g_start (A := A) hP (fun H locs hP hS => ?_)
  refine lv_iload_n hx hb dX11_channel_0 rfl (lv_at hl 1 rfl) ?_
  refine lv_iconst (v := 0) hx hb dX11_channel_1 (by decide) ?_
  refine lv_iconst (v := 3) hx hb dX11_channel_2 (by decide) ?_
  refine g_calli (wr := [(h, .inr (10, mdF qa x0 x2 x3 x4 x13 x14 x15 x16 x17 x18 x19 x20 x21 x22 x23 x24 x26 x27 x28)), (qa 31, .inl (cI, 4, .inl g31)), (qa 32, .inl (cI, 4, .inl g32)), (qa 33, .inl (cI, 4, .inl g33)), (qa 34, .inl (cI, 4, .inl g34)), (qa 36, .inl (cI, 4, .inl g36)), (qa 39, .inl (cI, 4, .inl g39)), (qa 42, .inl (cI, 4, .inl g42)), (qa 45, .inl (cI, 4, .inl g45)), (qa 46, .inl (cI, 4, .inl g46)), (qa 48, .inl (cI, 4, .inl g48)), (qa 49, .inl (cI, 4, .inl g49)), (qa 50, .inl (cJ, 4, .inr (.inl g50))), (qa 51, .inl (cZ, 4, .inl g51))]) (va_runS (As := [.int xa1, .int 0, .int 3]) (rest := []) ⟨hx, hb, hml, hown, hts⟩ (m_in l dC dI H.size xa1 0 3 ) (va_cwS 3 hts (gG_S kw_266 kw_267 kw_5 kw_268) rfl rfl rfl (by decide +kernel) ⟨Nat.le_of_ble_eq_true rfl, Nat.le_of_ble_eq_true rfl⟩) (g_preS hP hD hK hS hA hN hZ [] (by decide) rfl [] rfl) rfl rfl hl.1 rfl (lv_room (Nat.le_of_ble_eq_true rfl)) dX11_channel_3 ⟨Nat.le_of_ble_eq_true rfl, Nat.le_of_ble_eq_true rfl⟩) hP hD hK hS hA [] [0, 1, 2, 3, 4, 5, 6, 7, 8, 9, 10, 11, 12, 13] rfl rfl (by decide +kernel) (by decide +kernel) (fun r_3 w ty1 H locs hw_3 hP hD _ hS => ?_)
  rcases hw_3 with ⟨hu, hr_3, hh_3⟩ | ⟨hu, hr_3, hh_3⟩
  · cases hu
    have hP : va_P (dC, dI) vwCl [(h, .inr (10, mdF qa x0 x2 x3 x4 x13 x14 x15 x16 x17 x18 x19 x20 x21 x22 x23 x24 x26 x27 x28)), (qa 31, .inl (cI, 4, .inl g31)), (qa 32, .inl (cI, 4, .inl g32)), (qa 33, .inl (cI, 4, .inl g33)), (qa 34, .inl (cI, 4, .inl g34)), (qa 36, .inl (cI, 4, .inl g36)), (qa 39, .inl (cI, 4, .inl g39)), (qa 42, .inl (cI, 4, .inl g42)), (qa 45, .inl (cI, 4, .inl g45)), (qa 46, .inl (cI, 4, .inl g46)), (qa 48, .inl (cI, 4, .inl g48)), (qa 49, .inl (cI, 4, .inl g49)), (qa 50, .inl (cJ, 4, .inr (.inl g50))), (qa 51, .inl (cZ, 4, .inl g51))] H := hP
    have hD : va_D A [(h, .inr (10, mdF qa x0 x2 x3 x4 x13 x14 x15 x16 x17 x18 x19 x20 x21 x22 x23 x24 x26 x27 x28)), (qa 31, .inl (cI, 4, .inl g31)), (qa 32, .inl (cI, 4, .inl g32)), (qa 33, .inl (cI, 4, .inl g33)), (qa 34, .inl (cI, 4, .inl g34)), (qa 36, .inl (cI, 4, .inl g36)), (qa 39, .inl (cI, 4, .inl g39)), (qa 42, .inl (cI, 4, .inl g42)), (qa 45, .inl (cI, 4, .inl g45)), (qa 46, .inl (cI, 4, .inl g46)), (qa 48, .inl (cI, 4, .inl g48)), (qa 49, .inl (cI, 4, .inl g49)), (qa 50, .inl (cJ, 4, .inr (.inl g50))), (qa 51, .inl (cZ, 4, .inl g51))] := hD
    refine g_topi (y := 1) hr_3 ?_
    obtain ⟨cv, hcv, hij⟩ := i_in (n := 4) (by decide) (in3_4.mp hh_3).1 (in3_4.mp hh_3).2
    subst hij
    refine lv_if_ne (tgt := 11) hx hb dX11_channel_6 (by decide) (fun c_6 => ?_) (fun c_6 => absurd c_6 (by decide))
    refine lv_iload_n hx hb dX11_channel_11 rfl (lv_at hl 2 rfl) ?_
    by_cases hlo_12 : xa2.toInt < 0
    · refine lv_tableOut (tgt := 200) hx hb dX11_channel_12 (Or.inl hlo_12) (by decide) ?_
      refine lv_iconst (v := (-1)) hx hb dX11_channel_200 (by decide) ?_
      have hP9 := hP
      have hD9 := hD
      have hK9 := hK.sub (tys' := []) [] rfl
      exact W.iret (v := (-1)) hx hb hr (fun t ht hW => ⟨⟨(-1), _, rfl, rfl, by rw [ht]; exact hP9, va_K.moved hW.alike hK9, hD9⟩, hS.F ht⟩) hS.2.2 dX11_channel_201
    by_cases hhi_12 : 13 < xa2.toInt
    · refine lv_tableOut (tgt := 200) hx hb dX11_channel_12 (Or.inr hhi_12) (by decide) ?_
      refine lv_iconst (v := (-1)) hx hb dX11_channel_200 (by decide) ?_
      have hP9 := hP
      have hD9 := hD
      have hK9 := hK.sub (tys' := []) [] rfl
      exact W.iret (v := (-1)) hx hb hr (fun t ht hW => ⟨⟨(-1), _, rfl, rfl, by rw [ht]; exact hP9, va_K.moved hW.alike hK9, hD9⟩, hS.F ht⟩) hS.2.2 dX11_channel_201
    have hsw_12 : xa2 = 0 ∨ xa2 = 1 ∨ xa2 = 2 ∨ xa2 = 3 ∨ xa2 = 4 ∨ xa2 = 5 ∨ xa2 = 6 ∨ xa2 = 7 ∨ xa2 = 8 ∨ xa2 = 9 ∨ xa2 = 10 ∨ xa2 = 11 ∨ xa2 = 12 ∨ xa2 = 13 := by
      have h1 : xa2.toInt = 0 ∨ xa2.toInt = 1 ∨ xa2.toInt = 2 ∨ xa2.toInt = 3 ∨ xa2.toInt = 4 ∨ xa2.toInt = 5 ∨ xa2.toInt = 6 ∨ xa2.toInt = 7 ∨ xa2.toInt = 8 ∨ xa2.toInt = 9 ∨ xa2.toInt = 10 ∨ xa2.toInt = 11 ∨ xa2.toInt = 12 ∨ xa2.toInt = 13 := by omega
      rcases h1 with h1 | h1 | h1 | h1 | h1 | h1 | h1 | h1 | h1 | h1 | h1 | h1 | h1 | h1 <;> simp only [i_eq, h1] <;> decide
    rcases hsw_12 with hq | hq | hq | hq | hq | hq | hq | hq | hq | hq | hq | hq | hq | hq
    · refine lv_tableIn (off := 72) (tgt := 84) hx hb dX11_channel_12 (by rw [hq]; decide) (by rw [hq]; decide) (by rw [hq]; decide) (by decide) ?_
      refine lv_aload_n hx hb dX11_channel_84 rfl (lv_at hl 0 rfl) ?_
      refine va_get (D := (dC, dI)) (ci := 10) (v := .ref (qa 31)) (C := RX11) (T := TX11) (N := 53) hx hb hts iwX11 hown hK hP 0 rfl rfl 31 (by decide) (hts (.fieldLink RX11 56 "ModulePlayerModel" "sample" "[I") (List.mem_cons_of_mem _ kw_187)) (fun _ h9 => h9) rfl dX11_channel_85 ?_
      refine lv_iload_n hx hb dX11_channel_88 rfl (lv_at hl 1 rfl) ?_
      refine g_iald hx hb hK hP 1 0 rfl rfl cv (nI_clamp (Nat.lt_trans (show cv < 4 from hcv) (by decide))) (vp_in_nI (hcv) (by decide)) dX11_channel_89 ?_
      have hP9 := hP
      have hD9 := hD
      have hK9 := hK.sub (tys' := []) [] rfl
      exact W.iret (v := g31 cv) hx hb hr (fun t ht hW => ⟨⟨g31 cv, _, rfl, rfl, by rw [ht]; exact hP9, va_K.moved hW.alike hK9, hD9⟩, hS.F ht⟩) hS.2.2 dX11_channel_90
    · refine lv_tableIn (off := 79) (tgt := 91) hx hb dX11_channel_12 (by rw [hq]; decide) (by rw [hq]; decide) (by rw [hq]; decide) (by decide) ?_
      refine lv_aload_n hx hb dX11_channel_91 rfl (lv_at hl 0 rfl) ?_
      refine va_get (D := (dC, dI)) (ci := 10) (v := .ref (qa 32)) (C := RX11) (T := TX11) (N := 53) hx hb hts iwX11 hown hK hP 0 rfl rfl 32 (by decide) (hts (.fieldLink RX11 59 "ModulePlayerModel" "volume" "[I") (List.mem_cons_of_mem _ kw_188)) (fun _ h9 => h9) rfl dX11_channel_92 ?_
      refine lv_iload_n hx hb dX11_channel_95 rfl (lv_at hl 1 rfl) ?_
      refine g_iald hx hb hK hP 2 0 rfl rfl cv (nI_clamp (Nat.lt_trans (show cv < 4 from hcv) (by decide))) (vp_in_nI (hcv) (by decide)) dX11_channel_96 ?_
      have hP9 := hP
      have hD9 := hD
      have hK9 := hK.sub (tys' := []) [] rfl
      exact W.iret (v := g32 cv) hx hb hr (fun t ht hW => ⟨⟨g32 cv, _, rfl, rfl, by rw [ht]; exact hP9, va_K.moved hW.alike hK9, hD9⟩, hS.F ht⟩) hS.2.2 dX11_channel_97
    · refine lv_tableIn (off := 86) (tgt := 98) hx hb dX11_channel_12 (by rw [hq]; decide) (by rw [hq]; decide) (by rw [hq]; decide) (by decide) ?_
      refine lv_aload_n hx hb dX11_channel_98 rfl (lv_at hl 0 rfl) ?_
      refine va_get (D := (dC, dI)) (ci := 10) (v := .ref (qa 34)) (C := RX11) (T := TX11) (N := 53) hx hb hts iwX11 hown hK hP 0 rfl rfl 34 (by decide) (hts (.fieldLink RX11 65 "ModulePlayerModel" "period" "[I") (List.mem_cons_of_mem _ kw_190)) (fun _ h9 => h9) rfl dX11_channel_99 ?_
      refine lv_iload_n hx hb dX11_channel_102 rfl (lv_at hl 1 rfl) ?_
      refine g_iald hx hb hK hP 4 0 rfl rfl cv (nI_clamp (Nat.lt_trans (show cv < 4 from hcv) (by decide))) (vp_in_nI (hcv) (by decide)) dX11_channel_103 ?_
      have hP9 := hP
      have hD9 := hD
      have hK9 := hK.sub (tys' := []) [] rfl
      exact W.iret (v := g34 cv) hx hb hr (fun t ht hW => ⟨⟨g34 cv, _, rfl, rfl, by rw [ht]; exact hP9, va_K.moved hW.alike hK9, hD9⟩, hS.F ht⟩) hS.2.2 dX11_channel_104
    · refine lv_tableIn (off := 93) (tgt := 105) hx hb dX11_channel_12 (by rw [hq]; decide) (by rw [hq]; decide) (by rw [hq]; decide) (by decide) ?_
      refine lv_aload_n hx hb dX11_channel_105 rfl (lv_at hl 0 rfl) ?_
      refine va_get (D := (dC, dI)) (ci := 10) (v := .ref (qa 50)) (C := RX11) (T := TX11) (N := 53) hx hb hts iwX11 hown hK hP 0 rfl rfl 50 (by decide) (hts (.fieldLink RX11 113 "ModulePlayerModel" "at" "[J") (List.mem_cons_of_mem _ kw_206)) (fun _ h9 => h9) rfl dX11_channel_106 ?_
      refine lv_iload_n hx hb dX11_channel_109 rfl (lv_at hl 1 rfl) ?_
      refine g_lald hx hb hK hP 12 1 rfl rfl cv (nI_clamp (Nat.lt_trans (show cv < 4 from hcv) (by decide))) (vp_in_nI (hcv) (by decide)) dX11_channel_110 ?_
      refine lv_ldc2 (v := 65536) hx hb hown (hts (.constantLong RX11 310 (65536)) (List.mem_cons_of_mem _ kw_922)) dX11_channel_111 ?_
      refine lv_ldiv hx hb dX11_channel_114 (by decide) ?_
      refine lv_topl (fun tv_114 etv_114 => ?_)
      refine lv_l2i (v := tv_114.toInt32) hx hb dX11_channel_115 rfl ?_
      refine lv_topi (fun tv_115 etv_115 => ?_)
      have hP9 := hP
      have hD9 := hD
      have hK9 := hK.sub (tys' := []) [] rfl
      exact W.iret (v := tv_115) hx hb hr (fun t ht hW => ⟨⟨tv_115, _, rfl, rfl, by rw [ht]; exact hP9, va_K.moved hW.alike hK9, hD9⟩, hS.F ht⟩) hS.2.2 dX11_channel_116
    · refine lv_tableIn (off := 105) (tgt := 117) hx hb dX11_channel_12 (by rw [hq]; decide) (by rw [hq]; decide) (by rw [hq]; decide) (by decide) ?_
      refine lv_aload_n hx hb dX11_channel_117 rfl (lv_at hl 0 rfl) ?_
      refine va_get (D := (dC, dI)) (ci := 10) (v := .ref (qa 51)) (C := RX11) (T := TX11) (N := 53) hx hb hts iwX11 hown hK hP 0 rfl rfl 51 (by decide) (hts (.fieldLink RX11 117 "ModulePlayerModel" "sounds" "[Z") (List.mem_cons_of_mem _ kw_207)) (fun _ h9 => h9) rfl dX11_channel_118 ?_
      refine lv_iload_n hx hb dX11_channel_121 rfl (lv_at hl 1 rfl) ?_
      refine g_zald hx hb hK hP 13 2 rfl rfl cv (nI_clamp (Nat.lt_trans (show cv < 4 from hcv) (by decide))) (vp_in_nI (hcv) (by decide)) dX11_channel_122 ?_
      refine lv_if_eq (tgt := 130) hx hb dX11_channel_123 (by decide) (fun c_123 => ?_) (fun c_123 => ?_)
      · refine lv_iconst (v := 0) hx hb dX11_channel_130 (by decide) ?_
        have hP9 := hP
        have hD9 := hD
        have hK9 := hK.sub (tys' := []) [] rfl
        exact W.iret (v := 0) hx hb hr (fun t ht hW => ⟨⟨0, _, rfl, rfl, by rw [ht]; exact hP9, va_K.moved hW.alike hK9, hD9⟩, hS.F ht⟩) hS.2.2 dX11_channel_131
      refine lv_iconst (v := 1) hx hb dX11_channel_126 (by decide) ?_
      refine lv_goto (tgt := 131) hx hb dX11_channel_127 (by decide) ?_
      have hP9 := hP
      have hD9 := hD
      have hK9 := hK.sub (tys' := []) [] rfl
      exact W.iret (v := 1) hx hb hr (fun t ht hW => ⟨⟨1, _, rfl, rfl, by rw [ht]; exact hP9, va_K.moved hW.alike hK9, hD9⟩, hS.F ht⟩) hS.2.2 dX11_channel_131
    · refine lv_tableIn (off := 120) (tgt := 132) hx hb dX11_channel_12 (by rw [hq]; decide) (by rw [hq]; decide) (by rw [hq]; decide) (by decide) ?_
      refine lv_aload_n hx hb dX11_channel_132 rfl (lv_at hl 0 rfl) ?_
      refine va_get (D := (dC, dI)) (ci := 10) (v := .ref (qa 48)) (C := RX11) (T := TX11) (N := 53) hx hb hts iwX11 hown hK hP 0 rfl rfl 48 (by decide) (hts (.fieldLink RX11 107 "ModulePlayerModel" "soundPeriod" "[I") (List.mem_cons_of_mem _ kw_204)) (fun _ h9 => h9) rfl dX11_channel_133 ?_
      refine lv_iload_n hx hb dX11_channel_136 rfl (lv_at hl 1 rfl) ?_
      refine g_iald hx hb hK hP 10 0 rfl rfl cv (nI_clamp (Nat.lt_trans (show cv < 4 from hcv) (by decide))) (vp_in_nI (hcv) (by decide)) dX11_channel_137 ?_
      have hP9 := hP
      have hD9 := hD
      have hK9 := hK.sub (tys' := []) [] rfl
      exact W.iret (v := g48 cv) hx hb hr (fun t ht hW => ⟨⟨g48 cv, _, rfl, rfl, by rw [ht]; exact hP9, va_K.moved hW.alike hK9, hD9⟩, hS.F ht⟩) hS.2.2 dX11_channel_138
    · refine lv_tableIn (off := 127) (tgt := 139) hx hb dX11_channel_12 (by rw [hq]; decide) (by rw [hq]; decide) (by rw [hq]; decide) (by decide) ?_
      refine lv_aload_n hx hb dX11_channel_139 rfl (lv_at hl 0 rfl) ?_
      refine va_get (D := (dC, dI)) (ci := 10) (v := .ref (qa 49)) (C := RX11) (T := TX11) (N := 53) hx hb hts iwX11 hown hK hP 0 rfl rfl 49 (by decide) (hts (.fieldLink RX11 110 "ModulePlayerModel" "soundVolume" "[I") (List.mem_cons_of_mem _ kw_205)) (fun _ h9 => h9) rfl dX11_channel_140 ?_
      refine lv_iload_n hx hb dX11_channel_143 rfl (lv_at hl 1 rfl) ?_
      refine g_iald hx hb hK hP 11 0 rfl rfl cv (nI_clamp (Nat.lt_trans (show cv < 4 from hcv) (by decide))) (vp_in_nI (hcv) (by decide)) dX11_channel_144 ?_
      have hP9 := hP
      have hD9 := hD
      have hK9 := hK.sub (tys' := []) [] rfl
      exact W.iret (v := g49 cv) hx hb hr (fun t ht hW => ⟨⟨g49 cv, _, rfl, rfl, by rw [ht]; exact hP9, va_K.moved hW.alike hK9, hD9⟩, hS.F ht⟩) hS.2.2 dX11_channel_145
    · refine lv_tableIn (off := 134) (tgt := 146) hx hb dX11_channel_12 (by rw [hq]; decide) (by rw [hq]; decide) (by rw [hq]; decide) (by decide) ?_
      refine lv_aload_n hx hb dX11_channel_146 rfl (lv_at hl 0 rfl) ?_
      refine va_get (D := (dC, dI)) (ci := 10) (v := .ref (qa 33)) (C := RX11) (T := TX11) (N := 53) hx hb hts iwX11 hown hK hP 0 rfl rfl 33 (by decide) (hts (.fieldLink RX11 62 "ModulePlayerModel" "tuned" "[I") (List.mem_cons_of_mem _ kw_189)) (fun _ h9 => h9) rfl dX11_channel_147 ?_
      refine lv_iload_n hx hb dX11_channel_150 rfl (lv_at hl 1 rfl) ?_
      refine g_iald hx hb hK hP 3 0 rfl rfl cv (nI_clamp (Nat.lt_trans (show cv < 4 from hcv) (by decide))) (vp_in_nI (hcv) (by decide)) dX11_channel_151 ?_
      have hP9 := hP
      have hD9 := hD
      have hK9 := hK.sub (tys' := []) [] rfl
      exact W.iret (v := g33 cv) hx hb hr (fun t ht hW => ⟨⟨g33 cv, _, rfl, rfl, by rw [ht]; exact hP9, va_K.moved hW.alike hK9, hD9⟩, hS.F ht⟩) hS.2.2 dX11_channel_152
    · refine lv_tableIn (off := 141) (tgt := 153) hx hb dX11_channel_12 (by rw [hq]; decide) (by rw [hq]; decide) (by rw [hq]; decide) (by decide) ?_
      refine lv_aload_n hx hb dX11_channel_153 rfl (lv_at hl 0 rfl) ?_
      refine va_get (D := (dC, dI)) (ci := 10) (v := .ref (qa 36)) (C := RX11) (T := TX11) (N := 53) hx hb hts iwX11 hown hK hP 0 rfl rfl 36 (by decide) (hts (.fieldLink RX11 71 "ModulePlayerModel" "target" "[I") (List.mem_cons_of_mem _ kw_192)) (fun _ h9 => h9) rfl dX11_channel_154 ?_
      refine lv_iload_n hx hb dX11_channel_157 rfl (lv_at hl 1 rfl) ?_
      refine g_iald hx hb hK hP 5 0 rfl rfl cv (nI_clamp (Nat.lt_trans (show cv < 4 from hcv) (by decide))) (vp_in_nI (hcv) (by decide)) dX11_channel_158 ?_
      have hP9 := hP
      have hD9 := hD
      have hK9 := hK.sub (tys' := []) [] rfl
      exact W.iret (v := g36 cv) hx hb hr (fun t ht hW => ⟨⟨g36 cv, _, rfl, rfl, by rw [ht]; exact hP9, va_K.moved hW.alike hK9, hD9⟩, hS.F ht⟩) hS.2.2 dX11_channel_159
    · refine lv_tableIn (off := 148) (tgt := 160) hx hb dX11_channel_12 (by rw [hq]; decide) (by rw [hq]; decide) (by rw [hq]; decide) (by decide) ?_
      refine lv_aload_n hx hb dX11_channel_160 rfl (lv_at hl 0 rfl) ?_
      refine va_get (D := (dC, dI)) (ci := 10) (v := .ref (qa 50)) (C := RX11) (T := TX11) (N := 53) hx hb hts iwX11 hown hK hP 0 rfl rfl 50 (by decide) (hts (.fieldLink RX11 113 "ModulePlayerModel" "at" "[J") (List.mem_cons_of_mem _ kw_206)) (fun _ h9 => h9) rfl dX11_channel_161 ?_
      refine lv_iload_n hx hb dX11_channel_164 rfl (lv_at hl 1 rfl) ?_
      refine g_lald hx hb hK hP 12 1 rfl rfl cv (nI_clamp (Nat.lt_trans (show cv < 4 from hcv) (by decide))) (vp_in_nI (hcv) (by decide)) dX11_channel_165 ?_
      refine lv_ldc2 (v := 65536) hx hb hown (hts (.constantLong RX11 310 (65536)) (List.mem_cons_of_mem _ kw_922)) dX11_channel_166 ?_
      refine lv_lrem hx hb dX11_channel_169 (by decide) ?_
      refine lv_topl (fun tv_169 etv_169 => ?_)
      refine lv_l2i (v := tv_169.toInt32) hx hb dX11_channel_170 rfl ?_
      refine lv_topi (fun tv_170 etv_170 => ?_)
      have hP9 := hP
      have hD9 := hD
      have hK9 := hK.sub (tys' := []) [] rfl
      exact W.iret (v := tv_170) hx hb hr (fun t ht hW => ⟨⟨tv_170, _, rfl, rfl, by rw [ht]; exact hP9, va_K.moved hW.alike hK9, hD9⟩, hS.F ht⟩) hS.2.2 dX11_channel_171
    · refine lv_tableIn (off := 160) (tgt := 172) hx hb dX11_channel_12 (by rw [hq]; decide) (by rw [hq]; decide) (by rw [hq]; decide) (by decide) ?_
      refine lv_aload_n hx hb dX11_channel_172 rfl (lv_at hl 0 rfl) ?_
      refine va_get (D := (dC, dI)) (ci := 10) (v := .ref (qa 39)) (C := RX11) (T := TX11) (N := 53) hx hb hts iwX11 hown hK hP 0 rfl rfl 39 (by decide) (hts (.fieldLink RX11 80 "ModulePlayerModel" "vibPlace" "[I") (List.mem_cons_of_mem _ kw_195)) (fun _ h9 => h9) rfl dX11_channel_173 ?_
      refine lv_iload_n hx hb dX11_channel_176 rfl (lv_at hl 1 rfl) ?_
      refine g_iald hx hb hK hP 6 0 rfl rfl cv (nI_clamp (Nat.lt_trans (show cv < 4 from hcv) (by decide))) (vp_in_nI (hcv) (by decide)) dX11_channel_177 ?_
      have hP9 := hP
      have hD9 := hD
      have hK9 := hK.sub (tys' := []) [] rfl
      exact W.iret (v := g39 cv) hx hb hr (fun t ht hW => ⟨⟨g39 cv, _, rfl, rfl, by rw [ht]; exact hP9, va_K.moved hW.alike hK9, hD9⟩, hS.F ht⟩) hS.2.2 dX11_channel_178
    · refine lv_tableIn (off := 167) (tgt := 179) hx hb dX11_channel_12 (by rw [hq]; decide) (by rw [hq]; decide) (by rw [hq]; decide) (by decide) ?_
      refine lv_aload_n hx hb dX11_channel_179 rfl (lv_at hl 0 rfl) ?_
      refine va_get (D := (dC, dI)) (ci := 10) (v := .ref (qa 42)) (C := RX11) (T := TX11) (N := 53) hx hb hts iwX11 hown hK hP 0 rfl rfl 42 (by decide) (hts (.fieldLink RX11 89 "ModulePlayerModel" "tremPlace" "[I") (List.mem_cons_of_mem _ kw_198)) (fun _ h9 => h9) rfl dX11_channel_180 ?_
      refine lv_iload_n hx hb dX11_channel_183 rfl (lv_at hl 1 rfl) ?_
      refine g_iald hx hb hK hP 7 0 rfl rfl cv (nI_clamp (Nat.lt_trans (show cv < 4 from hcv) (by decide))) (vp_in_nI (hcv) (by decide)) dX11_channel_184 ?_
      have hP9 := hP
      have hD9 := hD
      have hK9 := hK.sub (tys' := []) [] rfl
      exact W.iret (v := g42 cv) hx hb hr (fun t ht hW => ⟨⟨g42 cv, _, rfl, rfl, by rw [ht]; exact hP9, va_K.moved hW.alike hK9, hD9⟩, hS.F ht⟩) hS.2.2 dX11_channel_185
    · refine lv_tableIn (off := 174) (tgt := 186) hx hb dX11_channel_12 (by rw [hq]; decide) (by rw [hq]; decide) (by rw [hq]; decide) (by decide) ?_
      refine lv_aload_n hx hb dX11_channel_186 rfl (lv_at hl 0 rfl) ?_
      refine va_get (D := (dC, dI)) (ci := 10) (v := .ref (qa 45)) (C := RX11) (T := TX11) (N := 53) hx hb hts iwX11 hown hK hP 0 rfl rfl 45 (by decide) (hts (.fieldLink RX11 98 "ModulePlayerModel" "loopRow" "[I") (List.mem_cons_of_mem _ kw_201)) (fun _ h9 => h9) rfl dX11_channel_187 ?_
      refine lv_iload_n hx hb dX11_channel_190 rfl (lv_at hl 1 rfl) ?_
      refine g_iald hx hb hK hP 8 0 rfl rfl cv (nI_clamp (Nat.lt_trans (show cv < 4 from hcv) (by decide))) (vp_in_nI (hcv) (by decide)) dX11_channel_191 ?_
      have hP9 := hP
      have hD9 := hD
      have hK9 := hK.sub (tys' := []) [] rfl
      exact W.iret (v := g45 cv) hx hb hr (fun t ht hW => ⟨⟨g45 cv, _, rfl, rfl, by rw [ht]; exact hP9, va_K.moved hW.alike hK9, hD9⟩, hS.F ht⟩) hS.2.2 dX11_channel_192
    · refine lv_tableIn (off := 181) (tgt := 193) hx hb dX11_channel_12 (by rw [hq]; decide) (by rw [hq]; decide) (by rw [hq]; decide) (by decide) ?_
      refine lv_aload_n hx hb dX11_channel_193 rfl (lv_at hl 0 rfl) ?_
      refine va_get (D := (dC, dI)) (ci := 10) (v := .ref (qa 46)) (C := RX11) (T := TX11) (N := 53) hx hb hts iwX11 hown hK hP 0 rfl rfl 46 (by decide) (hts (.fieldLink RX11 101 "ModulePlayerModel" "loopLeft" "[I") (List.mem_cons_of_mem _ kw_202)) (fun _ h9 => h9) rfl dX11_channel_194 ?_
      refine lv_iload_n hx hb dX11_channel_197 rfl (lv_at hl 1 rfl) ?_
      refine g_iald hx hb hK hP 9 0 rfl rfl cv (nI_clamp (Nat.lt_trans (show cv < 4 from hcv) (by decide))) (vp_in_nI (hcv) (by decide)) dX11_channel_198 ?_
      have hP9 := hP
      have hD9 := hD
      have hK9 := hK.sub (tys' := []) [] rfl
      exact W.iret (v := g46 cv) hx hb hr (fun t ht hW => ⟨⟨g46 cv, _, rfl, rfl, by rw [ht]; exact hP9, va_K.moved hW.alike hK9, hD9⟩, hS.F ht⟩) hS.2.2 dX11_channel_199
  cases hu
  have hP : va_P (dC, dI) vwCl [(h, .inr (10, mdF qa x0 x2 x3 x4 x13 x14 x15 x16 x17 x18 x19 x20 x21 x22 x23 x24 x26 x27 x28)), (qa 31, .inl (cI, 4, .inl g31)), (qa 32, .inl (cI, 4, .inl g32)), (qa 33, .inl (cI, 4, .inl g33)), (qa 34, .inl (cI, 4, .inl g34)), (qa 36, .inl (cI, 4, .inl g36)), (qa 39, .inl (cI, 4, .inl g39)), (qa 42, .inl (cI, 4, .inl g42)), (qa 45, .inl (cI, 4, .inl g45)), (qa 46, .inl (cI, 4, .inl g46)), (qa 48, .inl (cI, 4, .inl g48)), (qa 49, .inl (cI, 4, .inl g49)), (qa 50, .inl (cJ, 4, .inr (.inl g50))), (qa 51, .inl (cZ, 4, .inl g51))] H := hP
  have hD : va_D A [(h, .inr (10, mdF qa x0 x2 x3 x4 x13 x14 x15 x16 x17 x18 x19 x20 x21 x22 x23 x24 x26 x27 x28)), (qa 31, .inl (cI, 4, .inl g31)), (qa 32, .inl (cI, 4, .inl g32)), (qa 33, .inl (cI, 4, .inl g33)), (qa 34, .inl (cI, 4, .inl g34)), (qa 36, .inl (cI, 4, .inl g36)), (qa 39, .inl (cI, 4, .inl g39)), (qa 42, .inl (cI, 4, .inl g42)), (qa 45, .inl (cI, 4, .inl g45)), (qa 46, .inl (cI, 4, .inl g46)), (qa 48, .inl (cI, 4, .inl g48)), (qa 49, .inl (cI, 4, .inl g49)), (qa 50, .inl (cJ, 4, .inr (.inl g50))), (qa 51, .inl (cZ, 4, .inl g51))] := hD
  refine g_topi (y := 0) hr_3 ?_
  refine lv_if_ne (tgt := 11) hx hb dX11_channel_6 (by decide) (fun c_6 => absurd c_6 (by decide)) (fun c_6 => ?_)
  refine lv_iconst (v := (-1)) hx hb dX11_channel_9 (by decide) ?_
  have hP9 := hP
  have hD9 := hD
  have hK9 := hK.sub (tys' := []) [] rfl
  exact W.iret (v := (-1)) hx hb hr (fun t ht hW => ⟨⟨(-1), _, rfl, rfl, by rw [ht]; exact hP9, va_K.moved hW.alike hK9, hD9⟩, hS.F ht⟩) hS.2.2 dX11_channel_10

set_option maxHeartbeats 400000 in
set_option maxRecDepth 100000 in
theorem M_frame (l : Launch) (dC : Nat → ClassId) (dI : Nat → Nat → Nat) (sz : Nat) (h : Nat) (qa : Nat → Nat) (x0 x2 x3 x4 x13 x14 x15 x16 x17 x18 x19 x20 x21 x22 x23 x24 x26 x27 x28 : Int32) (cI : ClassId) (g29 g30 : Nat → Int32) (x y : Int32) (h_x24 : frm x24) : Met l yX11_frame (wsG (.code yX11_frame cX11_frame 3 (some .int))) ({ frames := 1, cells := 0, slots := 0, locals := 22 }) (va_Pc [.ref h, .int x, .int y] (gP (dC, dI) [(cI, .int)] [(h, .inr (10, mdF qa x0 x2 x3 x4 x13 x14 x15 x16 x17 x18 x19 x20 x21 x22 x23 x24 x26 x27 x28)), (qa 29, .inl (cI, 1300, .inl g29)), (qa 30, .inl (cI, 1300, .inl g30))] sz)) (va_Qi (fun (r : Int32) (u : va_W × gT) => u = ([(h, .inr (10, mdF qa x0 x2 x3 x4 x13 x14 x15 x16 x17 x18 x19 x20 x21 x22 x23 x24 x26 x27 x28)), (qa 29, .inl (cI, 1300, .inl g29)), (qa 30, .inl (cI, 1300, .inl g30))], [])) (gB (dC, dI) (va_A [(h, .inr (10, mdF qa x0 x2 x3 x4 x13 x14 x15 x16 x17 x18 x19 x20 x21 x22 x23 x24 x26 x27 x28)), (qa 29, .inl (cI, 1300, .inl g29)), (qa 30, .inl (cI, 1300, .inl g30))] sz)) (va_A [(h, .inr (10, mdF qa x0 x2 x3 x4 x13 x14 x15 x16 x17 x18 x19 x20 x21 x22 x23 x24 x26 x27 x28)), (qa 29, .inl (cI, 1300, .inl g29)), (qa 30, .inl (cI, 1300, .inl g30))] sz)) 0 0 (va_A [(h, .inr (10, mdF qa x0 x2 x3 x4 x13 x14 x15 x16 x17 x18 x19 x20 x21 x22 x23 x24 x26 x27 x28)), (qa 29, .inl (cI, 1300, .inl g29)), (qa 30, .inl (cI, 1300, .inl g30))] sz) := by
  refine Met.ofW (cc := cX11_frame) (maxL := 3) (ret := (some .int)) (by decide) rfl ?_
  intro p e s m args below meth c s₁ B hml hv
  obtain ⟨rfl, hsz, hP, hK, hD0, hN, hZ⟩ := hv
  have hx := B.exec
  have hb := B.bytes
  have hr := B.returns
  have hts := atoms_spec (ws := (wsG (.code yX11_frame cX11_frame 3 (some .int)))) B.pre
  have hown : s.vm.findClass RX11 = some m.cls := findClass_of_methodNamed B.named
  have hlocks := B.notSynchronized
  subst hsz
  have hD := hD0.self (sz := s.heap.size)
  generalize hAe : va_A [(h, .inr (10, mdF qa x0 x2 x3 x4 x13 x14 x15 x16 x17 x18 x19 x20 x21 x22 x23 x24 x26 x27 x28)), (qa 29, .inl (cI, 1300, .inl g29)), (qa 30, .inl (cI, 1300, .inl g30))] s.heap.size = A at hD hZ ⊢
  have hA : ∀ q : Nat, s.heap.size ≤ q → A q := fun q h => by rw [← hAe]; exact Or.inr h
  have hl := lv_entry ([.ref h, .int x, .int y]) (n := 3) (Nat.le_of_ble_eq_true rfl)
  rw [lg_entry_eq]
  generalize (lg_sl ([.ref h, .int x, .int y]) ++ List.replicate (3 - (lg_sl ([.ref h, .int x, .int y])).length) Slot.unset).toArray = ls at hl ⊢
  have hl : lv_has ls 3 [(0, .ref h), (1, .int x), (2, .int y)] := hl
  refine g_start (A := A) hP (fun H locs hP hS => ?_)
  refine lv_iload_n hx hb dX11_frame_0 rfl (lv_at hl 1 rfl) ?_
  refine lv_iconst (v := 0) hx hb dX11_frame_1 (by decide) ?_
  refine lv_aload_n hx hb dX11_frame_2 rfl (lv_at hl 0 rfl) ?_
  refine va_get (D := (dC, dI)) (ci := 10) (v := .int x24) (C := RX11) (T := TX11) (N := 53) hx hb hts iwX11 hown hK hP 0 rfl rfl 24 (by decide) (hts (.fieldLink RX11 212 "ModulePlayerModel" "frames" "I") (List.mem_cons_of_mem _ kw_223)) (fun _ h9 => h9) rfl dX11_frame_3 ?_
  refine lv_iconst (v := 1) hx hb dX11_frame_6 (by decide) ?_
  refine lv_isub hx hb dX11_frame_7 ?_
  refine g_calli (wr := [(h, .inr (10, mdF qa x0 x2 x3 x4 x13 x14 x15 x16 x17 x18 x19 x20 x21 x22 x23 x24 x26 x27 x28)), (qa 29, .inl (cI, 1300, .inl g29)), (qa 30, .inl (cI, 1300, .inl g30))]) (va_runS (As := [.int x, .int 0, .int (x24 - 1)]) (rest := []) ⟨hx, hb, hml, hown, hts⟩ (m_in l dC dI H.size x 0 (x24 - 1) ) (va_cwS 3 hts (gG_S kw_266 kw_267 kw_5 kw_268) rfl rfl rfl (by decide +kernel) ⟨Nat.le_of_ble_eq_true rfl, Nat.le_of_ble_eq_true rfl⟩) (g_preS hP hD hK hS hA hN hZ [] (by decide) rfl [] rfl) rfl rfl hl.1 rfl (lv_room (Nat.le_of_ble_eq_true rfl)) dX11_frame_8 ⟨Nat.le_of_ble_eq_true rfl, Nat.le_of_ble_eq_true rfl⟩) hP hD hK hS hA [] [0, 1, 2] rfl rfl (by decide +kernel) (by decide +kernel) (fun r_8 w ty1 H locs hw_8 hP hD _ hS => ?_)
  rcases hw_8 with ⟨hu, hr_8, hh_8⟩ | ⟨hu, hr_8, hh_8⟩
  · cases hu
    have hP : va_P (dC, dI) vwCl [(h, .inr (10, mdF qa x0 x2 x3 x4 x13 x14 x15 x16 x17 x18 x19 x20 x21 x22 x23 x24 x26 x27 x28)), (qa 29, .inl (cI, 1300, .inl g29)), (qa 30, .inl (cI, 1300, .inl g30))] H := hP
    have hD : va_D A [(h, .inr (10, mdF qa x0 x2 x3 x4 x13 x14 x15 x16 x17 x18 x19 x20 x21 x22 x23 x24 x26 x27 x28)), (qa 29, .inl (cI, 1300, .inl g29)), (qa 30, .inl (cI, 1300, .inl g30))] := hD
    refine g_topi (y := 1) hr_8 ?_
    obtain ⟨jf, hjf, hij⟩ := fr_in h_x24 hh_8
    subst hij
    refine lv_if_eq (tgt := 23) hx hb dX11_frame_11 (by decide) (fun c_11 => absurd c_11 (by decide)) (fun c_11 => ?_)
    refine lv_iload_n hx hb dX11_frame_14 rfl (lv_at hl 2 rfl) ?_
    refine lv_iconst (v := 0) hx hb dX11_frame_15 (by decide) ?_
    refine lv_iconst (v := 1) hx hb dX11_frame_16 (by decide) ?_
    refine g_calli (wr := [(h, .inr (10, mdF qa x0 x2 x3 x4 x13 x14 x15 x16 x17 x18 x19 x20 x21 x22 x23 x24 x26 x27 x28)), (qa 29, .inl (cI, 1300, .inl g29)), (qa 30, .inl (cI, 1300, .inl g30))]) (va_runS (As := [.int y, .int 0, .int 1]) (rest := []) ⟨hx, hb, hml, hown, hts⟩ (m_in l dC dI H.size y 0 1 ) (va_cwS 3 hts (gG_S kw_266 kw_267 kw_5 kw_268) rfl rfl rfl (by decide +kernel) ⟨Nat.le_of_ble_eq_true rfl, Nat.le_of_ble_eq_true rfl⟩) (g_preS hP hD hK hS hA hN hZ [] (by decide) rfl [] rfl) rfl rfl hl.1 rfl (lv_room (Nat.le_of_ble_eq_true rfl)) dX11_frame_17 ⟨Nat.le_of_ble_eq_true rfl, Nat.le_of_ble_eq_true rfl⟩) hP hD hK hS hA [] [0, 1, 2] rfl rfl (by decide +kernel) (by decide +kernel) (fun r_17 w ty1 H locs hw_17 hP hD _ hS => ?_)
    rcases hw_17 with ⟨hu, hr_17, hh_17⟩ | ⟨hu, hr_17, hh_17⟩
    · cases hu
      have hP : va_P (dC, dI) vwCl [(h, .inr (10, mdF qa x0 x2 x3 x4 x13 x14 x15 x16 x17 x18 x19 x20 x21 x22 x23 x24 x26 x27 x28)), (qa 29, .inl (cI, 1300, .inl g29)), (qa 30, .inl (cI, 1300, .inl g30))] H := hP
      have hD : va_D A [(h, .inr (10, mdF qa x0 x2 x3 x4 x13 x14 x15 x16 x17 x18 x19 x20 x21 x22 x23 x24 x26 x27 x28)), (qa 29, .inl (cI, 1300, .inl g29)), (qa 30, .inl (cI, 1300, .inl g30))] := hD
      refine g_topi (y := 1) hr_17 ?_
      refine lv_if_ne (tgt := 25) hx hb dX11_frame_20 (by decide) (fun c_20 => ?_) (fun c_20 => absurd c_20 (by decide))
      refine lv_iload_n hx hb dX11_frame_25 rfl (lv_at hl 2 rfl) ?_
      refine lv_if_ne (tgt := 38) hx hb dX11_frame_26 (by decide) (fun c_26 => ?_) (fun c_26 => ?_)
      · refine lv_aload_n hx hb dX11_frame_38 rfl (lv_at hl 0 rfl) ?_
        refine va_get (D := (dC, dI)) (ci := 10) (v := .ref (qa 30)) (C := RX11) (T := TX11) (N := 53) hx hb hts iwX11 hown hK hP 0 rfl rfl 30 (by decide) (hts (.fieldLink RX11 53 "ModulePlayerModel" "mixRight" "[I") (List.mem_cons_of_mem _ kw_186)) (fun _ h9 => h9) rfl dX11_frame_39 ?_
        refine lv_iload_n hx hb dX11_frame_42 rfl (lv_at hl 1 rfl) ?_
        refine g_iald hx hb hK hP 2 0 rfl rfl jf (nI_clamp (Nat.lt_trans (show jf < 1300 from hjf) (by decide))) (vp_in_nI (hjf) (by decide)) dX11_frame_43 ?_
        refine lv_topi (fun tv_43 etv_43 => ?_)
        have hP9 := hP
        have hD9 := hD
        have hK9 := hK.sub (tys' := []) [] rfl
        exact W.iret (v := tv_43) hx hb hr (fun t ht hW => ⟨⟨tv_43, _, rfl, rfl, by rw [ht]; exact hP9, va_K.moved hW.alike hK9, hD9⟩, hS.F ht⟩) hS.2.2 dX11_frame_44
      refine lv_aload_n hx hb dX11_frame_29 rfl (lv_at hl 0 rfl) ?_
      refine va_get (D := (dC, dI)) (ci := 10) (v := .ref (qa 29)) (C := RX11) (T := TX11) (N := 53) hx hb hts iwX11 hown hK hP 0 rfl rfl 29 (by decide) (hts (.fieldLink RX11 50 "ModulePlayerModel" "mixLeft" "[I") (List.mem_cons_of_mem _ kw_185)) (fun _ h9 => h9) rfl dX11_frame_30 ?_
      refine lv_iload_n hx hb dX11_frame_33 rfl (lv_at hl 1 rfl) ?_
      refine g_iald hx hb hK hP 1 0 rfl rfl jf (nI_clamp (Nat.lt_trans (show jf < 1300 from hjf) (by decide))) (vp_in_nI (hjf) (by decide)) dX11_frame_34 ?_
      refine lv_topi (fun tv_34 etv_34 => ?_)
      refine lv_goto (tgt := 44) hx hb dX11_frame_35 (by decide) ?_
      have hP9 := hP
      have hD9 := hD
      have hK9 := hK.sub (tys' := []) [] rfl
      exact W.iret (v := tv_34) hx hb hr (fun t ht hW => ⟨⟨tv_34, _, rfl, rfl, by rw [ht]; exact hP9, va_K.moved hW.alike hK9, hD9⟩, hS.F ht⟩) hS.2.2 dX11_frame_44
    cases hu
    have hP : va_P (dC, dI) vwCl [(h, .inr (10, mdF qa x0 x2 x3 x4 x13 x14 x15 x16 x17 x18 x19 x20 x21 x22 x23 x24 x26 x27 x28)), (qa 29, .inl (cI, 1300, .inl g29)), (qa 30, .inl (cI, 1300, .inl g30))] H := hP
    have hD : va_D A [(h, .inr (10, mdF qa x0 x2 x3 x4 x13 x14 x15 x16 x17 x18 x19 x20 x21 x22 x23 x24 x26 x27 x28)), (qa 29, .inl (cI, 1300, .inl g29)), (qa 30, .inl (cI, 1300, .inl g30))] := hD
    refine g_topi (y := 0) hr_17 ?_
    refine lv_if_ne (tgt := 25) hx hb dX11_frame_20 (by decide) (fun c_20 => absurd c_20 (by decide)) (fun c_20 => ?_)
    refine lv_iconst (v := 0) hx hb dX11_frame_23 (by decide) ?_
    have hP9 := hP
    have hD9 := hD
    have hK9 := hK.sub (tys' := []) [] rfl
    exact W.iret (v := 0) hx hb hr (fun t ht hW => ⟨⟨0, _, rfl, rfl, by rw [ht]; exact hP9, va_K.moved hW.alike hK9, hD9⟩, hS.F ht⟩) hS.2.2 dX11_frame_24
  cases hu
  have hP : va_P (dC, dI) vwCl [(h, .inr (10, mdF qa x0 x2 x3 x4 x13 x14 x15 x16 x17 x18 x19 x20 x21 x22 x23 x24 x26 x27 x28)), (qa 29, .inl (cI, 1300, .inl g29)), (qa 30, .inl (cI, 1300, .inl g30))] H := hP
  have hD : va_D A [(h, .inr (10, mdF qa x0 x2 x3 x4 x13 x14 x15 x16 x17 x18 x19 x20 x21 x22 x23 x24 x26 x27 x28)), (qa 29, .inl (cI, 1300, .inl g29)), (qa 30, .inl (cI, 1300, .inl g30))] := hD
  refine g_topi (y := 0) hr_8 ?_
  refine lv_if_eq (tgt := 23) hx hb dX11_frame_11 (by decide) (fun c_11 => ?_) (fun c_11 => absurd c_11 (by decide))
  refine lv_iconst (v := 0) hx hb dX11_frame_23 (by decide) ?_
  have hP9 := hP
  have hD9 := hD
  have hK9 := hK.sub (tys' := []) [] rfl
  exact W.iret (v := 0) hx hb hr (fun t ht hW => ⟨⟨0, _, rfl, rfl, by rw [ht]; exact hP9, va_K.moved hW.alike hK9, hD9⟩, hS.F ht⟩) hS.2.2 dX11_frame_24

