set_option maxHeartbeats 400000 in
set_option maxRecDepth 100000 in
theorem k_at (l : Launch) (dC : Nat → ClassId) (dI : Nat → Nat → Nat) (sz : Nat) (h b : Nat) (cB : ClassId) (f : Nat → Int32) (L : Nat) (i : Int32) (hL : L ≤ 9000) : Met l yX7_at (wsG (.code yX7_at cX7_at 2 (some .int))) ({ frames := 1, cells := 0, slots := 0, locals := 21 }) (va_Pc [.ref h, .int i] (gP (dC, dI) [(cB, .byte)] [(h, .inr (7, [.ref b, .int (nI L)])), (b, .inl (cB, 9000, .inl f))] sz)) (va_Qi (fun (r : Int32) (u : va_W × gT) => u = ([(h, .inr (7, [.ref b, .int (nI L)])), (b, .inl (cB, 9000, .inl f))], [])) (gB (dC, dI) (va_A [(h, .inr (7, [.ref b, .int (nI L)])), (b, .inl (cB, 9000, .inl f))] sz)) (va_A [(h, .inr (7, [.ref b, .int (nI L)])), (b, .inl (cB, 9000, .inl f))] sz)) 0 0 (va_A [(h, .inr (7, [.ref b, .int (nI L)])), (b, .inl (cB, 9000, .inl f))] sz) := by
  refine Met.ofW (cc := cX7_at) (maxL := 2) (ret := (some .int)) (by decide) rfl ?_
  intro p e s m args below meth c s₁ B hml hv
  obtain ⟨rfl, hsz, hP, hK, hD0, hN, hZ⟩ := hv
  have hx := B.exec
  have hb := B.bytes
  have hr := B.returns
  have hts := atoms_spec (ws := (wsG (.code yX7_at cX7_at 2 (some .int)))) B.pre
  have hown : s.vm.findClass RX7 = some m.cls := findClass_of_methodNamed B.named
  have hlocks := B.notSynchronized
  subst hsz
  have hD := hD0.self (sz := s.heap.size)
  generalize hAe : va_A [(h, .inr (7, [.ref b, .int (nI L)])), (b, .inl (cB, 9000, .inl f))] s.heap.size = A at hD hZ ⊢
  have hA : ∀ q : Nat, s.heap.size ≤ q → A q := fun q h => by rw [← hAe]; exact Or.inr h
  have hl := lv_entry ([.ref h, .int i]) (n := 2) (Nat.le_of_ble_eq_true rfl)
  rw [lg_entry_eq]
  generalize (lg_sl ([.ref h, .int i]) ++ List.replicate (2 - (lg_sl ([.ref h, .int i])).length) Slot.unset).toArray = ls at hl ⊢
  have hl : lv_has ls 2 [(0, .ref h), (1, .int i)] := hl
  refine g_start (A := A) hP (fun H locs hP hS => ?_)
  refine lv_iload_n hx hb dX7_at_0 rfl (lv_at hl 1 rfl) ?_
  refine lv_aload_n hx hb dX7_at_1 rfl (lv_at hl 0 rfl) ?_
  refine va_get (D := (dC, dI)) (ci := 7) (v := .int (nI L)) (C := RX7) (T := TX7) (N := 2) hx hb hts iwX7 hown hK hP 0 rfl rfl 1 (by decide) (hts (.fieldLink RX7 15 "ModulePlayer$Tape" "length" "I") (List.mem_cons_of_mem _ kw_241)) (fun _ h9 => h9) rfl dX7_at_2 ?_
  refine g_calli (wr := [(h, .inr (7, [.ref b, .int (nI L)])), (b, .inl (cB, 9000, .inl f))]) (va_runSN (As := [.int i, .int (nI L)]) (rest := []) ⟨hx, hb, hml, hown, hts⟩ (c_isIn l dC dI H.size i (nI L) ) ⟨va_cnB 2 hts (wsG_good kw_248) rfl rfl rfl (hN.1 (.methodLinkNest RX7 19 yX10_isIn RX10) (by decide +kernel)) (hts (.initialized RX10) (List.mem_cons_of_mem _ kw_2)) (by decide +kernel) ⟨Nat.le_of_ble_eq_true rfl, Nat.le_of_ble_eq_true rfl⟩, (hts (.static yX10_isIn) (List.mem_cons_of_mem _ kw_247)), trivial⟩ (g_preS hP hD hK hS hA hN hZ [] (by decide) rfl [] rfl) rfl rfl hl.1 rfl (lv_room (Nat.le_of_ble_eq_true rfl)) dX7_at_5 ⟨Nat.le_of_ble_eq_true rfl, Nat.le_of_ble_eq_true rfl⟩) hP hD hK hS hA [] [0, 1] rfl rfl (by decide) (by decide) (fun r_5 w ty1 H locs hw_5 hP hD _ hS => ?_)
  rcases hw_5 with ⟨hu, hr_5, h_5⟩ | ⟨hu, hr_5, h_5⟩
  · cases hu
    have hP : va_P (dC, dI) vwCl [(h, .inr (7, [.ref b, .int (nI L)])), (b, .inl (cB, 9000, .inl f))] H := hP
    have hD : va_D A [(h, .inr (7, [.ref b, .int (nI L)])), (b, .inl (cB, 9000, .inl f))] := hD
    refine g_topi (y := 1) hr_5 ?_
    obtain ⟨k_5, hk_5, hi_5⟩ := i_in (by omega) h_5.1 h_5.2
    subst hi_5
    refine lv_if_eq (tgt := 34) hx hb dX7_at_8 (by decide) (fun c_8 => absurd c_8 (by decide)) (fun c_8 => ?_)
    refine lv_iload_n hx hb dX7_at_11 rfl (lv_at hl 1 rfl) ?_
    refine lv_sipush (v := 9000) hx hb dX7_at_12 (by decide) ?_
    refine g_calli (wr := [(h, .inr (7, [.ref b, .int (nI L)])), (b, .inl (cB, 9000, .inl f))]) (va_runSN (As := [.int (nI k_5), .int 9000]) (rest := []) ⟨hx, hb, hml, hown, hts⟩ (c_isIn l dC dI H.size (nI k_5) 9000 ) ⟨va_cnB 2 hts (wsG_good kw_248) rfl rfl rfl (hN.1 (.methodLinkNest RX7 19 yX10_isIn RX10) (by decide +kernel)) (hts (.initialized RX10) (List.mem_cons_of_mem _ kw_2)) (by decide +kernel) ⟨Nat.le_of_ble_eq_true rfl, Nat.le_of_ble_eq_true rfl⟩, (hts (.static yX10_isIn) (List.mem_cons_of_mem _ kw_247)), trivial⟩ (g_preS hP hD hK hS hA hN hZ [] (by decide) rfl [] rfl) rfl rfl hl.1 rfl (lv_room (Nat.le_of_ble_eq_true rfl)) dX7_at_15 ⟨Nat.le_of_ble_eq_true rfl, Nat.le_of_ble_eq_true rfl⟩) hP hD hK hS hA [] [0, 1] rfl rfl (by decide) (by decide) (fun r_15 w ty1 H locs hw_15 hP hD _ hS => ?_)
    rcases hw_15 with ⟨hu, hr_15, h_15⟩ | ⟨hu, hr_15, h_15⟩
    · cases hu
      have hP : va_P (dC, dI) vwCl [(h, .inr (7, [.ref b, .int (nI L)])), (b, .inl (cB, 9000, .inl f))] H := hP
      have hD : va_D A [(h, .inr (7, [.ref b, .int (nI L)])), (b, .inl (cB, 9000, .inl f))] := hD
      refine g_topi (y := 1) hr_15 ?_
      refine lv_if_eq (tgt := 34) hx hb dX7_at_18 (by decide) (fun c_18 => absurd c_18 (by decide)) (fun c_18 => ?_)
      refine lv_aload_n hx hb dX7_at_21 rfl (lv_at hl 0 rfl) ?_
      refine va_get (D := (dC, dI)) (ci := 7) (v := .ref b) (C := RX7) (T := TX7) (N := 2) hx hb hts iwX7 hown hK hP 0 rfl rfl 0 (by decide) (hts (.fieldLink RX7 9 "ModulePlayer$Tape" "bytes" "[B") (List.mem_cons_of_mem _ kw_48)) (fun _ h9 => h9) rfl dX7_at_22 ?_
      refine lv_iload_n hx hb dX7_at_25 rfl (lv_at hl 1 rfl) ?_
      refine g_bald hx hb hK hP 1 0 rfl rfl k_5 (nI_clamp (Nat.lt_trans (show k_5 < 9000 from by omega) (by decide))) (vp_in_nI (by omega) (by decide)) dX7_at_26 ?_
      refine lv_topi (fun tv_26 etv_26 => ?_)
      refine lv_sipush (v := 255) hx hb dX7_at_27 (by decide) ?_
      refine lv_iand hx hb dX7_at_30 ?_
      refine lv_topi (fun tv_30 etv_30 => ?_)
      refine lv_goto (tgt := 35) hx hb dX7_at_31 (by decide) ?_
      have hP9 := hP
      have hD9 := hD
      have hK9 := hK.sub (tys' := []) [] rfl
      exact W.iret (v := tv_30) hx hb hr (fun t ht hW => ⟨⟨tv_30, _, rfl, rfl, by rw [ht]; exact hP9, va_K.moved hW.alike hK9, hD9⟩, hS.F ht⟩) hS.2.2 dX7_at_35
    exact False.elim (h_15 (isin0 (by omega : k_5 < 9000) (by decide)))
  cases hu
  have hP : va_P (dC, dI) vwCl [(h, .inr (7, [.ref b, .int (nI L)])), (b, .inl (cB, 9000, .inl f))] H := hP
  have hD : va_D A [(h, .inr (7, [.ref b, .int (nI L)])), (b, .inl (cB, 9000, .inl f))] := hD
  refine g_topi (y := 0) hr_5 ?_
  refine lv_if_eq (tgt := 34) hx hb dX7_at_8 (by decide) (fun c_8 => ?_) (fun c_8 => absurd c_8 (by decide))
  refine lv_iconst (v := (-1)) hx hb dX7_at_34 (by decide) ?_
  have hP9 := hP
  have hD9 := hD
  have hK9 := hK.sub (tys' := []) [] rfl
  exact W.iret (v := (-1)) hx hb hr (fun t ht hW => ⟨⟨(-1), _, rfl, rfl, by rw [ht]; exact hP9, va_K.moved hW.alike hK9, hD9⟩, hS.F ht⟩) hS.2.2 dX7_at_35

set_option maxHeartbeats 400000 in
set_option maxRecDepth 100000 in
theorem k_pairAt (l : Launch) (dC : Nat → ClassId) (dI : Nat → Nat → Nat) (sz : Nat) (h b : Nat) (cB : ClassId) (f : Nat → Int32) (L : Nat) (i : Int32) (hL : L ≤ 9000) : Met l yX7_pairAt (wsG (.code yX7_pairAt cX7_pairAt 2 (some .int))) ({ frames := 2, cells := 0, slots := 0, locals := 42 }) (va_Pc [.ref h, .int i] (gP (dC, dI) [(cB, .byte)] [(h, .inr (7, [.ref b, .int (nI L)])), (b, .inl (cB, 9000, .inl f))] sz)) (va_Qi (fun (r : Int32) (u : va_W × gT) => u = ([(h, .inr (7, [.ref b, .int (nI L)])), (b, .inl (cB, 9000, .inl f))], [])) (gB (dC, dI) (va_A [(h, .inr (7, [.ref b, .int (nI L)])), (b, .inl (cB, 9000, .inl f))] sz)) (va_A [(h, .inr (7, [.ref b, .int (nI L)])), (b, .inl (cB, 9000, .inl f))] sz)) 0 0 (va_A [(h, .inr (7, [.ref b, .int (nI L)])), (b, .inl (cB, 9000, .inl f))] sz) := by
  refine Met.ofW (cc := cX7_pairAt) (maxL := 2) (ret := (some .int)) (by decide) rfl ?_
  intro p e s m args below meth c s₁ B hml hv
  obtain ⟨rfl, hsz, hP, hK, hD0, hN, hZ⟩ := hv
  have hx := B.exec
  have hb := B.bytes
  have hr := B.returns
  have hts := atoms_spec (ws := (wsG (.code yX7_pairAt cX7_pairAt 2 (some .int)))) B.pre
  have hown : s.vm.findClass RX7 = some m.cls := findClass_of_methodNamed B.named
  have hlocks := B.notSynchronized
  subst hsz
  have hD := hD0.self (sz := s.heap.size)
  generalize hAe : va_A [(h, .inr (7, [.ref b, .int (nI L)])), (b, .inl (cB, 9000, .inl f))] s.heap.size = A at hD hZ ⊢
  have hA : ∀ q : Nat, s.heap.size ≤ q → A q := fun q h => by rw [← hAe]; exact Or.inr h
  have hl := lv_entry ([.ref h, .int i]) (n := 2) (Nat.le_of_ble_eq_true rfl)
  rw [lg_entry_eq]
  generalize (lg_sl ([.ref h, .int i]) ++ List.replicate (2 - (lg_sl ([.ref h, .int i])).length) Slot.unset).toArray = ls at hl ⊢
  have hl : lv_has ls 2 [(0, .ref h), (1, .int i)] := hl
  refine g_start (A := A) hP (fun H locs hP hS => ?_)
  refine lv_aload_n hx hb dX7_pairAt_0 rfl (lv_at hl 0 rfl) ?_
  refine lv_iload_n hx hb dX7_pairAt_1 rfl (lv_at hl 1 rfl) ?_
  refine g_calli (wr := []) (va_runV (As := [.int i]) (rest := []) ⟨hx, hb, hml, hown, hts⟩ (k_at l dC dI H.size h b cB f L i (hL)) (cwV 1 hts (gG_V kw_313 kw_296 kw_297 kw_18 kw_298) rfl rfl rfl (by decide +kernel) ⟨Nat.le_of_ble_eq_true rfl, Nat.le_of_ble_eq_true rfl⟩) (g_preV (C := RX7) (T := TX7) (N := 2) hP hD hK hS hA hN hZ (q0 := 0) rfl rfl [0, 1] (by decide) rfl [0] rfl) rfl rfl hl.1 rfl (lv_room (Nat.le_of_ble_eq_true rfl)) dX7_pairAt_2 ⟨Nat.le_of_ble_eq_true rfl, Nat.le_of_ble_eq_true rfl⟩) hP hD hK hS hA [0, 1] [] rfl rfl (by decide) (by decide) (fun r_2 w ty1 H locs hw_2 hP hD _ hS => ?_)
  have hu := hw_2
  cases hu
  have hP : va_P (dC, dI) vwCl [(h, .inr (7, [.ref b, .int (nI L)])), (b, .inl (cB, 9000, .inl f))] H := hP
  have hD : va_D A [(h, .inr (7, [.ref b, .int (nI L)])), (b, .inl (cB, 9000, .inl f))] := hD
  refine lv_sipush (v := 256) hx hb dX7_pairAt_5 (by decide) ?_
  refine lv_imul hx hb dX7_pairAt_8 ?_
  refine lv_topi (fun tv_8 etv_8 => ?_)
  refine lv_aload_n hx hb dX7_pairAt_9 rfl (lv_at hl 0 rfl) ?_
  refine lv_iload_n hx hb dX7_pairAt_10 rfl (lv_at hl 1 rfl) ?_
  refine lv_iconst (v := 1) hx hb dX7_pairAt_11 (by decide) ?_
  refine lv_iadd hx hb dX7_pairAt_12 ?_
  refine lv_topi (fun tv_12 etv_12 => ?_)
  refine g_calli (wr := []) (va_runV (As := [.int tv_12]) (rest := [.int tv_8]) ⟨hx, hb, hml, hown, hts⟩ (k_at l dC dI H.size h b cB f L tv_12 (hL)) (cwV 1 hts (gG_V kw_313 kw_296 kw_297 kw_18 kw_298) rfl rfl rfl (by decide +kernel) ⟨Nat.le_of_ble_eq_true rfl, Nat.le_of_ble_eq_true rfl⟩) (g_preV (C := RX7) (T := TX7) (N := 2) hP hD hK hS hA hN hZ (q0 := 0) rfl rfl [0, 1] (by decide) rfl [0] rfl) rfl rfl hl.1 rfl (lv_room (Nat.le_of_ble_eq_true rfl)) dX7_pairAt_13 ⟨Nat.le_of_ble_eq_true rfl, Nat.le_of_ble_eq_true rfl⟩) hP hD hK hS hA [0, 1] [] rfl rfl (by decide) (by decide) (fun r_13 w ty1 H locs hw_13 hP hD _ hS => ?_)
  have hu := hw_13
  cases hu
  have hP : va_P (dC, dI) vwCl [(h, .inr (7, [.ref b, .int (nI L)])), (b, .inl (cB, 9000, .inl f))] H := hP
  have hD : va_D A [(h, .inr (7, [.ref b, .int (nI L)])), (b, .inl (cB, 9000, .inl f))] := hD
  refine lv_iadd hx hb dX7_pairAt_16 ?_
  refine lv_topi (fun tv_16 etv_16 => ?_)
  have hP9 := hP
  have hD9 := hD
  have hK9 := hK.sub (tys' := []) [] rfl
  exact W.iret (v := tv_16) hx hb hr (fun t ht hW => ⟨⟨tv_16, _, rfl, rfl, by rw [ht]; exact hP9, va_K.moved hW.alike hK9, hD9⟩, hS.F ht⟩) hS.2.2 dX7_pairAt_17

set_option maxHeartbeats 400000 in
set_option maxRecDepth 100000 in
theorem k_put (l : Launch) (dC : Nat → ClassId) (dI : Nat → Nat → Nat) (sz : Nat) (h b : Nat) (cB : ClassId) (f : Nat → Int32) (L : Nat) (i v : Int32) (hL : L ≤ 9000) : Met l yX7_put (wsG (.code yX7_put cX7_put 4 none)) ({ frames := 1, cells := 0, slots := 0, locals := 21 }) (va_Pc [.ref h, .int i, .int v] (gP (dC, dI) [(cB, .byte)] [(h, .inr (7, [.ref b, .int (nI L)])), (b, .inl (cB, 9000, .inl f))] sz)) (va_Qv (fun u : va_W × gT => ∃ (L2 : Nat) (f2 : Nat → Int32), u = ([(h, .inr (7, [.ref b, .int (nI L2)])), (b, .inl (cB, 9000, .inl f2))], []) ∧ L2 ≤ 9000) (gB (dC, dI) (va_A [(h, .inr (7, [.ref b, .int (nI L)])), (b, .inl (cB, 9000, .inl f))] sz)) (va_A [(h, .inr (7, [.ref b, .int (nI L)])), (b, .inl (cB, 9000, .inl f))] sz)) 0 0 (va_A [(h, .inr (7, [.ref b, .int (nI L)])), (b, .inl (cB, 9000, .inl f))] sz) := by
  refine Met.ofW (cc := cX7_put) (maxL := 4) (ret := none) (by decide) rfl ?_
  intro p e s m args below meth c s₁ B hml hv
  obtain ⟨rfl, hsz, hP, hK, hD0, hN, hZ⟩ := hv
  have hx := B.exec
  have hb := B.bytes
  have hr := B.returns
  have hts := atoms_spec (ws := (wsG (.code yX7_put cX7_put 4 none))) B.pre
  have hown : s.vm.findClass RX7 = some m.cls := findClass_of_methodNamed B.named
  have hlocks := B.notSynchronized
  subst hsz
  have hD := hD0.self (sz := s.heap.size)
  generalize hAe : va_A [(h, .inr (7, [.ref b, .int (nI L)])), (b, .inl (cB, 9000, .inl f))] s.heap.size = A at hD hZ ⊢
  have hA : ∀ q : Nat, s.heap.size ≤ q → A q := fun q h => by rw [← hAe]; exact Or.inr h
  have hl := lv_entry ([.ref h, .int i, .int v]) (n := 4) (Nat.le_of_ble_eq_true rfl)
  rw [lg_entry_eq]
  generalize (lg_sl ([.ref h, .int i, .int v]) ++ List.replicate (4 - (lg_sl ([.ref h, .int i, .int v])).length) Slot.unset).toArray = ls at hl ⊢
  have hl : lv_has ls 4 [(0, .ref h), (1, .int i), (2, .int v)] := hl
  refine g_start (A := A) hP (fun H locs hP hS => ?_)
  refine lv_iload_n hx hb dX7_put_0 rfl (lv_at hl 1 rfl) ?_
  refine lv_sipush (v := 9000) hx hb dX7_put_1 (by decide) ?_
  refine g_calli (wr := [(h, .inr (7, [.ref b, .int (nI L)])), (b, .inl (cB, 9000, .inl f))]) (va_runSN (As := [.int i, .int 9000]) (rest := []) ⟨hx, hb, hml, hown, hts⟩ (c_isIn l dC dI H.size i 9000 ) ⟨va_cnB 2 hts (wsG_good kw_248) rfl rfl rfl (hN.1 (.methodLinkNest RX7 19 yX10_isIn RX10) (by decide +kernel)) (hts (.initialized RX10) (List.mem_cons_of_mem _ kw_2)) (by decide +kernel) ⟨Nat.le_of_ble_eq_true rfl, Nat.le_of_ble_eq_true rfl⟩, (hts (.static yX10_isIn) (List.mem_cons_of_mem _ kw_247)), trivial⟩ (g_preS hP hD hK hS hA hN hZ [] (by decide) rfl [] rfl) rfl rfl hl.1 rfl (lv_room (Nat.le_of_ble_eq_true rfl)) dX7_put_4 ⟨Nat.le_of_ble_eq_true rfl, Nat.le_of_ble_eq_true rfl⟩) hP hD hK hS hA [] [0, 1] rfl rfl (by decide) (by decide) (fun r_4 w ty1 H locs hw_4 hP hD _ hS => ?_)
  rcases hw_4 with ⟨hu, hr_4, h_4⟩ | ⟨hu, hr_4, h_4⟩
  · cases hu
    have hP : va_P (dC, dI) vwCl [(h, .inr (7, [.ref b, .int (nI L)])), (b, .inl (cB, 9000, .inl f))] H := hP
    have hD : va_D A [(h, .inr (7, [.ref b, .int (nI L)])), (b, .inl (cB, 9000, .inl f))] := hD
    refine g_topi (y := 1) hr_4 ?_
    obtain ⟨j, hj, hij⟩ := i_in (n := 9000) (by decide) h_4.1 h_4.2
    subst hij
    refine lv_if_ne (tgt := 11) hx hb dX7_put_7 (by decide) (fun c_7 => ?_) (fun c_7 => absurd c_7 (by decide))
    refine lv_aload_n hx hb dX7_put_11 rfl (lv_at hl 0 rfl) ?_
    refine va_get (D := (dC, dI)) (ci := 7) (v := .int (nI L)) (C := RX7) (T := TX7) (N := 2) hx hb hts iwX7 hown hK hP 0 rfl rfl 1 (by decide) (hts (.fieldLink RX7 15 "ModulePlayer$Tape" "length" "I") (List.mem_cons_of_mem _ kw_241)) (fun _ h9 => h9) rfl dX7_put_12 ?_
    refine lv_istore_n (lv' := [(3, .int (nI L)), (0, .ref h), (1, .int (nI j)), (2, .int v)]) hx hb dX7_put_15 rfl hl (by decide) rfl (fun ls hl => ?_)
    have LP16 : ∀ (fu16 : Nat) (k : Nat) (fk : Nat → Int32) (hk1 : L ≤ k) (hk2 : k ≤ j ∨ k = L) (hm16 : 9000 - k < fu16) (H : Heap) (locs : List Loc), va_P (dC, dI) vwCl [(h, .inr (7, [.ref b, .int (nI L)])), (b, .inl (cB, 9000, .inl fk))] H → va_D A [(h, .inr (7, [.ref b, .int (nI L)])), (b, .inl (cB, 9000, .inl fk))] → va_S A s.heap H locs → ∀ ls : Array Slot, lv_has ls 4 [(3, .int (nI k)), (0, .ref h), (1, .int (nI j)), (2, .int v)] → W p l e ({ frames := 1, cells := 0, slots := 0, locals := 21 }) s m ([.ref h, .int (nI j), .int v] : List Value).toArray below meth c H locs (0) (0) (MQ below (va_Qv (fun u : va_W × gT => ∃ (L2 : Nat) (f2 : Nat → Int32), u = ([(h, .inr (7, [.ref b, .int (nI L2)])), (b, .inl (cB, 9000, .inl f2))], []) ∧ L2 ≤ 9000) (gB (dC, dI) A) A) ([.ref h, .int (nI j), .int v] : List Value).toArray s 0 0 A) (F0 m 16 ls []) := by
      intro fu16
      induction fu16 with
      | zero => intro k fk hk1 hk2 hm16; exact absurd hm16 (Nat.not_lt_zero _)
      | succ fu16 ih16 =>
        intro k fk hk1 hk2 hm16 H locs hP hD hS ls hl
        refine lv_iload_n hx hb dX7_put_16 rfl (lv_at hl 0 rfl) ?_
        refine lv_iload_n hx hb dX7_put_17 rfl (lv_at hl 2 rfl) ?_
        refine lv_icmp_ge (tgt := 34) hx hb dX7_put_18 (by decide) (fun c_18 => ?_) (fun c_18 => ?_)
        · refine lv_aload_n hx hb dX7_put_34 rfl (lv_at hl 1 rfl) ?_
          refine va_get (D := (dC, dI)) (ci := 7) (v := .ref b) (C := RX7) (T := TX7) (N := 2) hx hb hts iwX7 hown hK hP 0 rfl rfl 0 (by decide) (hts (.fieldLink RX7 9 "ModulePlayer$Tape" "bytes" "[B") (List.mem_cons_of_mem _ kw_48)) (fun _ h9 => h9) rfl dX7_put_35 ?_
          refine lv_iload_n hx hb dX7_put_38 rfl (lv_at hl 2 rfl) ?_
          refine lv_iload_n hx hb dX7_put_39 rfl (lv_at hl 3 rfl) ?_
          refine lv_i2b (v := v.toInt8.toInt32) hx hb dX7_put_40 rfl ?_
          refine lv_topi (fun tv_40 etv_40 => ?_)
          refine g_bast hx hb hK hP hD hS 1 0 rfl rfl (x' := tv_40.toInt8.toInt32) (vp_nar_byte _) j (nI_clamp (Nat.lt_trans (show j < 9000 from hj) (by decide))) (vp_in_nI (hj) (by decide)) dX7_put_41 (fun H locs hP hD hS => ?_)
          have hP : va_P (dC, dI) vwCl [(h, .inr (7, [.ref b, .int (nI L)])), (b, .inl (cB, 9000, .inl (upd fk j tv_40.toInt8.toInt32)))] H := hP
          have hD : va_D A [(h, .inr (7, [.ref b, .int (nI L)])), (b, .inl (cB, 9000, .inl (upd fk j tv_40.toInt8.toInt32)))] := hD
          generalize upd fk j tv_40.toInt8.toInt32 = fh__41 at hP hD
          refine lv_aload_n hx hb dX7_put_42 rfl (lv_at hl 1 rfl) ?_
          refine lv_aload_n hx hb dX7_put_43 rfl (lv_at hl 1 rfl) ?_
          refine va_get (D := (dC, dI)) (ci := 7) (v := .int (nI L)) (C := RX7) (T := TX7) (N := 2) hx hb hts iwX7 hown hK hP 0 rfl rfl 1 (by decide) (hts (.fieldLink RX7 15 "ModulePlayer$Tape" "length" "I") (List.mem_cons_of_mem _ kw_241)) (fun _ h9 => h9) rfl dX7_put_44 ?_
          refine lv_iload_n hx hb dX7_put_47 rfl (lv_at hl 2 rfl) ?_
          refine lv_iconst (v := 1) hx hb dX7_put_48 (by decide) ?_
          refine lv_iadd hx hb dX7_put_49 ?_
          refine g_topi (y := nI (j + 1)) (nI_1 j) ?_
          refine va_mmax hx hb (by rw [hml]; exact hl.1.symm) hown (hts (.methodLink RX7 27 Lib.Math.max.name) (List.mem_cons_of_mem _ kw_246)) (hts (.static Lib.Math.max.name) (List.mem_cons_of_mem _ kw_102)) (hts (.initialized "java/lang/Math") (List.mem_cons_of_mem _ kw_103)) (hts (.code Lib.Math.max.name Lib.Math.max.code 2 (some .int)) (List.mem_cons_of_mem _ kw_104)) (Nat.le_of_ble_eq_true rfl) (Nat.le_of_ble_eq_true rfl) (Nat.le_of_ble_eq_true rfl) (Nat.le_of_ble_eq_true rfl) dX7_put_50 ?_
          refine g_topi (y := nI (max L (j + 1))) (mx_nI (by omega) (by omega)) ?_
          refine va_put (D := (dC, dI)) (ci := 7) (v := .int (nI (max L (j + 1)))) (ty := tyX7 1) (C := RX7) (T := TX7) (N := 2) hx hb hts iwX7 tyX7 tyX7_ok nmX7 hown hK hP hD hS 0 rfl rfl 1 (by decide) (hts (.fieldLink RX7 15 "ModulePlayer$Tape" "length" "I") (List.mem_cons_of_mem _ kw_241)) (fun _ h9 => h9) rfl (by decide +kernel) (rfl) (rfl) (Nat.le_of_ble_eq_true rfl) dX7_put_53 (fun H locs hP hD hS => ?_)
          have hP : va_P (dC, dI) vwCl [(h, .inr (7, [.ref b, .int (nI (max L (j + 1)))])), (b, .inl (cB, 9000, .inl fh__41))] H := hP
          have hD : va_D A [(h, .inr (7, [.ref b, .int (nI (max L (j + 1)))])), (b, .inl (cB, 9000, .inl fh__41))] := hD
          have hP9 := hP
          have hD9 := hD
          have hK9 := hK.sub (tys' := []) [] rfl
          exact W.vret hx hb hr (fun t ht hW => ⟨⟨_, rfl, ⟨(max L (j + 1)), fh__41, rfl, (by omega)⟩, by rw [ht]; exact hP9, va_K.moved hW.alike hK9, hD9⟩, hS.F ht⟩) hS.2.2 dX7_put_56
        refine lv_aload_n hx hb dX7_put_21 rfl (lv_at hl 1 rfl) ?_
        refine va_get (D := (dC, dI)) (ci := 7) (v := .ref b) (C := RX7) (T := TX7) (N := 2) hx hb hts iwX7 hown hK hP 0 rfl rfl 0 (by decide) (hts (.fieldLink RX7 9 "ModulePlayer$Tape" "bytes" "[B") (List.mem_cons_of_mem _ kw_48)) (fun _ h9 => h9) rfl dX7_put_22 ?_
        refine lv_iload_n hx hb dX7_put_25 rfl (lv_at hl 0 rfl) ?_
        refine lv_iconst (v := 0) hx hb dX7_put_26 (by decide) ?_
        refine g_bast hx hb hK hP hD hS 1 0 rfl rfl (x' := 0) (by decide) k (nI_clamp (Nat.lt_trans (show k < 9000 from by have := nI_nle' c_18 (by omega); omega) (by decide))) (vp_in_nI (by have := nI_nle' c_18 (by omega); omega) (by decide)) dX7_put_27 (fun H locs hP hD hS => ?_)
        have hP : va_P (dC, dI) vwCl [(h, .inr (7, [.ref b, .int (nI L)])), (b, .inl (cB, 9000, .inl (upd fk k 0)))] H := hP
        have hD : va_D A [(h, .inr (7, [.ref b, .int (nI L)])), (b, .inl (cB, 9000, .inl (upd fk k 0)))] := hD
        generalize upd fk k 0 = fg__27 at hP hD
        refine lv_iinc (v := nI (k + 1)) (lv' := [(3, .int (nI (k + 1))), (0, .ref h), (1, .int (nI j)), (2, .int v)]) hx hb dX7_put_28 hl (k := 0) rfl (nI_1 k) (by decide) rfl (fun ls hl => ?_)
        refine lv_goto (tgt := 16) hx hb dX7_put_31 (by decide) ?_
        exact ih16 (k + 1) fg__27 (by omega) (by have := nI_nle' c_18 (by omega); omega) (by have := nI_nle' c_18 (by omega); omega) _ _ (hP.sub [0, 1] rfl) (hD.sub [0, 1] (by decide) rfl) hS _ (lv_sub hl [0, 1, 2, 3] rfl)
    exact LP16 _ L f (Nat.le_refl L) (Or.inr rfl) (Nat.lt_succ_self _) _ _ (hP.sub [0, 1] rfl) (hD.sub [0, 1] (by decide) rfl) hS _ (lv_sub hl [0, 1, 2, 3] rfl)
  cases hu
  have hP : va_P (dC, dI) vwCl [(h, .inr (7, [.ref b, .int (nI L)])), (b, .inl (cB, 9000, .inl f))] H := hP
  have hD : va_D A [(h, .inr (7, [.ref b, .int (nI L)])), (b, .inl (cB, 9000, .inl f))] := hD
  refine g_topi (y := 0) hr_4 ?_
  refine lv_if_ne (tgt := 11) hx hb dX7_put_7 (by decide) (fun c_7 => absurd c_7 (by decide)) (fun c_7 => ?_)
  have hP9 := hP
  have hD9 := hD
  have hK9 := hK.sub (tys' := []) [] rfl
  exact W.vret hx hb hr (fun t ht hW => ⟨⟨_, rfl, ⟨L, f, rfl, hL⟩, by rw [ht]; exact hP9, va_K.moved hW.alike hK9, hD9⟩, hS.F ht⟩) hS.2.2 dX7_put_10

set_option maxHeartbeats 400000 in
set_option maxRecDepth 100000 in
theorem k_putPair (l : Launch) (dC : Nat → ClassId) (dI : Nat → Nat → Nat) (sz : Nat) (h b : Nat) (cB : ClassId) (f : Nat → Int32) (L : Nat) (i v : Int32) (hL : L ≤ 9000) : Met l yX7_putPair (wsG (.code yX7_putPair cX7_putPair 3 none)) ({ frames := 2, cells := 0, slots := 0, locals := 44 }) (va_Pc [.ref h, .int i, .int v] (gP (dC, dI) [(cB, .byte)] [(h, .inr (7, [.ref b, .int (nI L)])), (b, .inl (cB, 9000, .inl f))] sz)) (va_Qv (fun u : va_W × gT => ∃ (L2 : Nat) (f2 : Nat → Int32), u = ([(h, .inr (7, [.ref b, .int (nI L2)])), (b, .inl (cB, 9000, .inl f2))], []) ∧ L2 ≤ 9000) (gB (dC, dI) (va_A [(h, .inr (7, [.ref b, .int (nI L)])), (b, .inl (cB, 9000, .inl f))] sz)) (va_A [(h, .inr (7, [.ref b, .int (nI L)])), (b, .inl (cB, 9000, .inl f))] sz)) 0 0 (va_A [(h, .inr (7, [.ref b, .int (nI L)])), (b, .inl (cB, 9000, .inl f))] sz) := by
  refine Met.ofW (cc := cX7_putPair) (maxL := 3) (ret := none) (by decide) rfl ?_
  intro p e s m args below meth c s₁ B hml hv
  obtain ⟨rfl, hsz, hP, hK, hD0, hN, hZ⟩ := hv
  have hx := B.exec
  have hb := B.bytes
  have hr := B.returns
  have hts := atoms_spec (ws := (wsG (.code yX7_putPair cX7_putPair 3 none))) B.pre
  have hown : s.vm.findClass RX7 = some m.cls := findClass_of_methodNamed B.named
  have hlocks := B.notSynchronized
  subst hsz
  have hD := hD0.self (sz := s.heap.size)
  generalize hAe : va_A [(h, .inr (7, [.ref b, .int (nI L)])), (b, .inl (cB, 9000, .inl f))] s.heap.size = A at hD hZ ⊢
  have hA : ∀ q : Nat, s.heap.size ≤ q → A q := fun q h => by rw [← hAe]; exact Or.inr h
  have hl := lv_entry ([.ref h, .int i, .int v]) (n := 3) (Nat.le_of_ble_eq_true rfl)
  rw [lg_entry_eq]
  generalize (lg_sl ([.ref h, .int i, .int v]) ++ List.replicate (3 - (lg_sl ([.ref h, .int i, .int v])).length) Slot.unset).toArray = ls at hl ⊢
  have hl : lv_has ls 3 [(0, .ref h), (1, .int i), (2, .int v)] := hl
  refine g_start (A := A) hP (fun H locs hP hS => ?_)
  refine lv_aload_n hx hb dX7_putPair_0 rfl (lv_at hl 0 rfl) ?_
  refine lv_iload_n hx hb dX7_putPair_1 rfl (lv_at hl 1 rfl) ?_
  refine lv_iload_n hx hb dX7_putPair_2 rfl (lv_at hl 2 rfl) ?_
  refine lv_bipush (v := 8) hx hb dX7_putPair_3 (by decide) ?_
  refine lv_ishr hx hb dX7_putPair_5 ?_
  refine lv_topi (fun tv_5 etv_5 => ?_)
  refine g_callv (wr := []) (va_runV (As := [.int i, .int tv_5]) (rest := []) ⟨hx, hb, hml, hown, hts⟩ (k_put l dC dI H.size h b cB f L i tv_5 (hL)) (cwV 2 hts (gG_V kw_242 kw_243 kw_244 kw_18 kw_245) rfl rfl rfl (by decide +kernel) ⟨Nat.le_of_ble_eq_true rfl, Nat.le_of_ble_eq_true rfl⟩) (g_preV (C := RX7) (T := TX7) (N := 2) hP hD hK hS hA hN hZ (q0 := 0) rfl rfl [0, 1] (by decide) rfl [0] rfl) rfl rfl hl.1 rfl (lv_room (Nat.le_of_ble_eq_true rfl)) dX7_putPair_6 ⟨Nat.le_of_ble_eq_true rfl, Nat.le_of_ble_eq_true rfl⟩) hP hD hK hS hA [0, 1] [] rfl rfl (by decide) (by decide) (fun w ty1 H locs hw_6 hP hD _ hS => ?_)
  rcases hw_6 with ⟨L2_6, f2_6, hu, hL2_6⟩
  cases hu
  have hP : va_P (dC, dI) vwCl [(h, .inr (7, [.ref b, .int (nI L2_6)])), (b, .inl (cB, 9000, .inl f2_6))] H := hP
  have hD : va_D A [(h, .inr (7, [.ref b, .int (nI L2_6)])), (b, .inl (cB, 9000, .inl f2_6))] := hD
  refine lv_aload_n hx hb dX7_putPair_9 rfl (lv_at hl 0 rfl) ?_
  refine lv_iload_n hx hb dX7_putPair_10 rfl (lv_at hl 1 rfl) ?_
  refine lv_iconst (v := 1) hx hb dX7_putPair_11 (by decide) ?_
  refine lv_iadd hx hb dX7_putPair_12 ?_
  refine lv_topi (fun tv_12 etv_12 => ?_)
  refine lv_iload_n hx hb dX7_putPair_13 rfl (lv_at hl 2 rfl) ?_
  refine g_callv (wr := []) (va_runV (As := [.int tv_12, .int v]) (rest := []) ⟨hx, hb, hml, hown, hts⟩ (k_put l dC dI H.size h b cB f2_6 L2_6 tv_12 v (hL2_6)) (cwV 2 hts (gG_V kw_242 kw_243 kw_244 kw_18 kw_245) rfl rfl rfl (by decide +kernel) ⟨Nat.le_of_ble_eq_true rfl, Nat.le_of_ble_eq_true rfl⟩) (g_preV (C := RX7) (T := TX7) (N := 2) hP hD hK hS hA hN hZ (q0 := 0) rfl rfl [0, 1] (by decide) rfl [0] rfl) rfl rfl hl.1 rfl (lv_room (Nat.le_of_ble_eq_true rfl)) dX7_putPair_14 ⟨Nat.le_of_ble_eq_true rfl, Nat.le_of_ble_eq_true rfl⟩) hP hD hK hS hA [0, 1] [] rfl rfl (by decide) (by decide) (fun w ty1 H locs hw_14 hP hD _ hS => ?_)
  rcases hw_14 with ⟨L2_14, f2_14, hu, hL2_14⟩
  cases hu
  have hP : va_P (dC, dI) vwCl [(h, .inr (7, [.ref b, .int (nI L2_14)])), (b, .inl (cB, 9000, .inl f2_14))] H := hP
  have hD : va_D A [(h, .inr (7, [.ref b, .int (nI L2_14)])), (b, .inl (cB, 9000, .inl f2_14))] := hD
  have hP9 := hP
  have hD9 := hD
  have hK9 := hK.sub (tys' := []) [] rfl
  exact W.vret hx hb hr (fun t ht hW => ⟨⟨_, rfl, ⟨L2_14, f2_14, rfl, hL2_14⟩, by rw [ht]; exact hP9, va_K.moved hW.alike hK9, hD9⟩, hS.F ht⟩) hS.2.2 dX7_putPair_17

set_option maxHeartbeats 400000 in
set_option maxRecDepth 100000 in
theorem k_patEnd (l : Launch) (dC : Nat → ClassId) (dI : Nat → Nat → Nat) (sz : Nat) (iv : Int32) : Met l yX4_patternsEnd (wsG (.code yX4_patternsEnd cX4_patternsEnd 1 (some .int))) ({ frames := 0, cells := 0, slots := 0, locals := 0 }) (va_Pc [.int iv] (gP (dC, dI) [] [] sz)) (va_Qi (fun (r : Int32) (u : va_W × gT) => u = ([], [])) (gB (dC, dI) (va_A [] sz)) (va_A [] sz)) 0 0 (va_A [] sz) := by
  refine Met.ofW (cc := cX4_patternsEnd) (maxL := 1) (ret := (some .int)) (by decide) rfl ?_
  intro p e s m args below meth c s₁ B hml hv
  obtain ⟨rfl, hsz, hP, hK, hD0, hN, hZ⟩ := hv
  have hx := B.exec
  have hb := B.bytes
  have hr := B.returns
  have hts := atoms_spec (ws := (wsG (.code yX4_patternsEnd cX4_patternsEnd 1 (some .int)))) B.pre
  have hown : s.vm.findClass RX4 = some m.cls := findClass_of_methodNamed B.named
  have hlocks := B.notSynchronized
  subst hsz
  have hD := hD0.self (sz := s.heap.size)
  generalize hAe : va_A [] s.heap.size = A at hD hZ ⊢
  have hA : ∀ q : Nat, s.heap.size ≤ q → A q := fun q h => by rw [← hAe]; exact Or.inr h
  have hl := lv_entry ([.int iv]) (n := 1) (Nat.le_of_ble_eq_true rfl)
  rw [lg_entry_eq]
  generalize (lg_sl ([.int iv]) ++ List.replicate (1 - (lg_sl ([.int iv])).length) Slot.unset).toArray = ls at hl ⊢
  have hl : lv_has ls 1 [(0, .int iv)] := hl
  refine g_start (A := A) hP (fun H locs hP hS => ?_)
  refine lv_sipush (v := 1084) hx hb dX4_patternsEnd_0 (by decide) ?_
  refine lv_sipush (v := 1024) hx hb dX4_patternsEnd_3 (by decide) ?_
  refine lv_iload_n hx hb dX4_patternsEnd_6 rfl (lv_at hl 0 rfl) ?_
  refine lv_imul hx hb dX4_patternsEnd_7 ?_
  refine lv_topi (fun tv_7 etv_7 => ?_)
  refine lv_iadd hx hb dX4_patternsEnd_8 ?_
  refine lv_topi (fun tv_8 etv_8 => ?_)
  have hP9 := hP
  have hD9 := hD
  have hK9 := hK.sub (tys' := []) [] rfl
  exact W.iret (v := tv_8) hx hb hr (fun t ht hW => ⟨⟨tv_8, _, rfl, rfl, by rw [ht]; exact hP9, va_K.moved hW.alike hK9, hD9⟩, hS.F ht⟩) hS.2.2 dX4_patternsEnd_9

set_option maxHeartbeats 400000 in
set_option maxRecDepth 100000 in
theorem k_cellAt (l : Launch) (dC : Nat → ClassId) (dI : Nat → Nat → Nat) (sz : Nat) (iv jv kv : Int32) : Met l yX4_cellAt (wsG (.code yX4_cellAt cX4_cellAt 3 (some .int))) ({ frames := 1, cells := 0, slots := 0, locals := 20 }) (va_Pc [.int iv, .int jv, .int kv] (gP (dC, dI) [] [] sz)) (va_Qi (fun (r : Int32) (u : va_W × gT) => u = ([], [])) (gB (dC, dI) (va_A [] sz)) (va_A [] sz)) 0 0 (va_A [] sz) := by
  refine Met.ofW (cc := cX4_cellAt) (maxL := 3) (ret := (some .int)) (by decide) rfl ?_
  intro p e s m args below meth c s₁ B hml hv
  obtain ⟨rfl, hsz, hP, hK, hD0, hN, hZ⟩ := hv
  have hx := B.exec
  have hb := B.bytes
  have hr := B.returns
  have hts := atoms_spec (ws := (wsG (.code yX4_cellAt cX4_cellAt 3 (some .int)))) B.pre
  have hown : s.vm.findClass RX4 = some m.cls := findClass_of_methodNamed B.named
  have hlocks := B.notSynchronized
  subst hsz
  have hD := hD0.self (sz := s.heap.size)
  generalize hAe : va_A [] s.heap.size = A at hD hZ ⊢
  have hA : ∀ q : Nat, s.heap.size ≤ q → A q := fun q h => by rw [← hAe]; exact Or.inr h
  have hl := lv_entry ([.int iv, .int jv, .int kv]) (n := 3) (Nat.le_of_ble_eq_true rfl)
  rw [lg_entry_eq]
  generalize (lg_sl ([.int iv, .int jv, .int kv]) ++ List.replicate (3 - (lg_sl ([.int iv, .int jv, .int kv])).length) Slot.unset).toArray = ls at hl ⊢
  have hl : lv_has ls 3 [(0, .int iv), (1, .int jv), (2, .int kv)] := hl
  refine g_start (A := A) hP (fun H locs hP hS => ?_)
  refine lv_iload_n hx hb dX4_cellAt_0 rfl (lv_at hl 0 rfl) ?_
  refine g_calli (wr := []) (va_runS (As := [.int iv]) (rest := []) ⟨hx, hb, hml, hown, hts⟩ (k_patEnd l dC dI H.size iv ) (va_cwS 1 hts (gG_S kw_330 kw_331 kw_30 kw_332) rfl rfl rfl (by decide +kernel) ⟨Nat.le_of_ble_eq_true rfl, Nat.le_of_ble_eq_true rfl⟩) (g_preS hP hD hK hS hA hN hZ [] (by decide) rfl [] rfl) rfl rfl hl.1 rfl (lv_room (Nat.le_of_ble_eq_true rfl)) dX4_cellAt_1 ⟨Nat.le_of_ble_eq_true rfl, Nat.le_of_ble_eq_true rfl⟩) hP hD hK hS hA [] [] rfl rfl (by decide) (by decide) (fun r_1 w ty1 H locs hw_1 hP hD _ hS => ?_)
  have hu := hw_1
  cases hu
  have hP : va_P (dC, dI) vwCl [] H := hP
  have hD : va_D A [] := hD
  refine lv_iload_n hx hb dX4_cellAt_4 rfl (lv_at hl 1 rfl) ?_
  refine lv_iconst (v := 4) hx hb dX4_cellAt_5 (by decide) ?_
  refine lv_imul hx hb dX4_cellAt_6 ?_
  refine lv_topi (fun tv_6 etv_6 => ?_)
  refine lv_iload_n hx hb dX4_cellAt_7 rfl (lv_at hl 2 rfl) ?_
  refine lv_iadd hx hb dX4_cellAt_8 ?_
  refine lv_topi (fun tv_8 etv_8 => ?_)
  refine lv_iconst (v := 4) hx hb dX4_cellAt_9 (by decide) ?_
  refine lv_imul hx hb dX4_cellAt_10 ?_
  refine lv_topi (fun tv_10 etv_10 => ?_)
  refine lv_iadd hx hb dX4_cellAt_11 ?_
  refine lv_topi (fun tv_11 etv_11 => ?_)
  have hP9 := hP
  have hD9 := hD
  have hK9 := hK.sub (tys' := []) [] rfl
  exact W.iret (v := tv_11) hx hb hr (fun t ht hW => ⟨⟨tv_11, _, rfl, rfl, by rw [ht]; exact hP9, va_K.moved hW.alike hK9, hD9⟩, hS.F ht⟩) hS.2.2 dX4_cellAt_12

set_option maxHeartbeats 400000 in
set_option maxRecDepth 100000 in
theorem k_wrongMark (l : Launch) (dC : Nat → ClassId) (dI : Nat → Nat → Nat) (sz : Nat) (ta tb : Nat) (cB : ClassId) (ft : Nat → Int32) (L : Nat) (hL : L ≤ 9000) : Met l yX4_wrongMark (wsG (.code yX4_wrongMark cX4_wrongMark 2 (some .int))) ({ frames := 2, cells := 0, slots := 0, locals := 42 }) (va_Pc [.ref ta] (gP (dC, dI) [(cB, .byte)] [(ta, .inr (7, [.ref tb, .int (nI L)])), (tb, .inl (cB, 9000, .inl ft))] sz)) (va_Qi (fun (r : Int32) (u : va_W × gT) => u = ([(ta, .inr (7, [.ref tb, .int (nI L)])), (tb, .inl (cB, 9000, .inl ft))], [])) (gB (dC, dI) (va_A [(ta, .inr (7, [.ref tb, .int (nI L)])), (tb, .inl (cB, 9000, .inl ft))] sz)) (va_A [(ta, .inr (7, [.ref tb, .int (nI L)])), (tb, .inl (cB, 9000, .inl ft))] sz)) 0 0 (va_A [(ta, .inr (7, [.ref tb, .int (nI L)])), (tb, .inl (cB, 9000, .inl ft))] sz) := by
  refine Met.ofW (cc := cX4_wrongMark) (maxL := 2) (ret := (some .int)) (by decide) rfl ?_
  intro p e s m args below meth c s₁ B hml hv
  obtain ⟨rfl, hsz, hP, hK, hD0, hN, hZ⟩ := hv
  have hx := B.exec
  have hb := B.bytes
  have hr := B.returns
  have hts := atoms_spec (ws := (wsG (.code yX4_wrongMark cX4_wrongMark 2 (some .int)))) B.pre
  have hown : s.vm.findClass RX4 = some m.cls := findClass_of_methodNamed B.named
  have hlocks := B.notSynchronized
  subst hsz
  have hD := hD0.self (sz := s.heap.size)
  generalize hAe : va_A [(ta, .inr (7, [.ref tb, .int (nI L)])), (tb, .inl (cB, 9000, .inl ft))] s.heap.size = A at hD hZ ⊢
  have hA : ∀ q : Nat, s.heap.size ≤ q → A q := fun q h => by rw [← hAe]; exact Or.inr h
  have hl := lv_entry ([.ref ta]) (n := 2) (Nat.le_of_ble_eq_true rfl)
  rw [lg_entry_eq]
  generalize (lg_sl ([.ref ta]) ++ List.replicate (2 - (lg_sl ([.ref ta])).length) Slot.unset).toArray = ls at hl ⊢
  have hl : lv_has ls 2 [(0, .ref ta)] := hl
  refine g_start (A := A) hP (fun H locs hP hS => ?_)
  refine lv_iconst (v := 0) hx hb dX4_wrongMark_0 (by decide) ?_
  refine lv_istore_n (lv' := [(1, .int 0), (0, .ref ta)]) hx hb dX4_wrongMark_1 rfl hl (by decide) rfl (fun ls hl => ?_)
  refine lv_iload_n hx hb dX4_wrongMark_2 rfl (lv_at hl 0 rfl) ?_
  refine lv_iconst (v := 4) hx hb dX4_wrongMark_3 (by decide) ?_
  refine lv_icmp_ge (tgt := 35) hx hb dX4_wrongMark_4 (by decide) (fun c_4 => absurd c_4 (by decide)) (fun c_4 => ?_)
  refine lv_aload_n hx hb dX4_wrongMark_7 rfl (lv_at hl 1 rfl) ?_
  refine lv_sipush (v := 1080) hx hb dX4_wrongMark_8 (by decide) ?_
  refine lv_iload_n hx hb dX4_wrongMark_11 rfl (lv_at hl 0 rfl) ?_
  refine lv_iadd hx hb dX4_wrongMark_12 ?_
  refine g_topi (y := 1080) (by decide) ?_
  refine g_calli (wr := []) (va_runV (As := [.int 1080]) (rest := []) ⟨hx, hb, hml, hown, hts⟩ (k_at l dC dI H.size ta tb cB ft L 1080 (hL)) (cwV 1 hts (gG_V kw_295 kw_296 kw_297 kw_18 kw_298) rfl rfl rfl (by decide +kernel) ⟨Nat.le_of_ble_eq_true rfl, Nat.le_of_ble_eq_true rfl⟩) (g_preV (C := RX7) (T := TX7) (N := 2) hP hD hK hS hA hN hZ (q0 := 0) rfl rfl [0, 1] (by decide) rfl [0] rfl) rfl rfl hl.1 rfl (lv_room (Nat.le_of_ble_eq_true rfl)) dX4_wrongMark_13 ⟨Nat.le_of_ble_eq_true rfl, Nat.le_of_ble_eq_true rfl⟩) hP hD hK hS hA [0, 1] [] rfl rfl (by decide) (by decide) (fun r_13 w ty1 H locs hw_13 hP hD _ hS => ?_)
  have hu := hw_13
  cases hu
  have hP : va_P (dC, dI) vwCl [(ta, .inr (7, [.ref tb, .int (nI L)])), (tb, .inl (cB, 9000, .inl ft))] H := hP
  have hD : va_D A [(ta, .inr (7, [.ref tb, .int (nI L)])), (tb, .inl (cB, 9000, .inl ft))] := hD
  refine lv_iload_n hx hb dX4_wrongMark_16 rfl (lv_at hl 0 rfl) ?_
  refine g_calli (wr := [(ta, .inr (7, [.ref tb, .int (nI L)])), (tb, .inl (cB, 9000, .inl ft))]) (va_runS (As := [.int 0]) (rest := [.int r_13]) ⟨hx, hb, hml, hown, hts⟩ (c_mark l dC dI H.size 0 (by decide)) (va_cwS 1 hts (gG_S kw_299 kw_300 kw_30 kw_301) rfl rfl rfl (by decide +kernel) ⟨Nat.le_of_ble_eq_true rfl, Nat.le_of_ble_eq_true rfl⟩) (g_preS hP hD hK hS hA hN hZ [] (by decide) rfl [] rfl) rfl rfl hl.1 rfl (lv_room (Nat.le_of_ble_eq_true rfl)) dX4_wrongMark_17 ⟨Nat.le_of_ble_eq_true rfl, Nat.le_of_ble_eq_true rfl⟩) hP hD hK hS hA [] [0, 1] rfl rfl (by decide) (by decide) (fun r_17 w ty1 H locs hw_17 hP hD _ hS => ?_)
  rcases hw_17 with ⟨hu, hr_17⟩
  cases hu
  have hP : va_P (dC, dI) vwCl [(ta, .inr (7, [.ref tb, .int (nI L)])), (tb, .inl (cB, 9000, .inl ft))] H := hP
  have hD : va_D A [(ta, .inr (7, [.ref tb, .int (nI L)])), (tb, .inl (cB, 9000, .inl ft))] := hD
  refine g_topi (y := mkv 0) hr_17 ?_
  refine lv_icmp_eq (tgt := 29) hx hb dX4_wrongMark_20 (by decide) (fun c_20 => ?_) (fun c_20 => ?_)
  · refine lv_iinc (v := 1) (lv' := [(1, .int 1), (0, .ref ta)]) hx hb dX4_wrongMark_29 hl (k := 0) rfl (by decide) (by decide) rfl (fun ls hl => ?_)
    refine lv_goto (tgt := 2) hx hb dX4_wrongMark_32 (by decide) ?_
    refine lv_iload_n hx hb dX4_wrongMark_2 rfl (lv_at hl 0 rfl) ?_
    refine lv_iconst (v := 4) hx hb dX4_wrongMark_3 (by decide) ?_
    refine lv_icmp_ge (tgt := 35) hx hb dX4_wrongMark_4 (by decide) (fun c_4_2 => absurd c_4_2 (by decide)) (fun c_4_2 => ?_)
    refine lv_aload_n hx hb dX4_wrongMark_7 rfl (lv_at hl 1 rfl) ?_
    refine lv_sipush (v := 1080) hx hb dX4_wrongMark_8 (by decide) ?_
    refine lv_iload_n hx hb dX4_wrongMark_11 rfl (lv_at hl 0 rfl) ?_
    refine lv_iadd hx hb dX4_wrongMark_12 ?_
    refine g_topi (y := 1081) (by decide) ?_
    refine g_calli (wr := []) (va_runV (As := [.int 1081]) (rest := []) ⟨hx, hb, hml, hown, hts⟩ (k_at l dC dI H.size ta tb cB ft L 1081 (hL)) (cwV 1 hts (gG_V kw_295 kw_296 kw_297 kw_18 kw_298) rfl rfl rfl (by decide +kernel) ⟨Nat.le_of_ble_eq_true rfl, Nat.le_of_ble_eq_true rfl⟩) (g_preV (C := RX7) (T := TX7) (N := 2) hP hD hK hS hA hN hZ (q0 := 0) rfl rfl [0, 1] (by decide) rfl [0] rfl) rfl rfl hl.1 rfl (lv_room (Nat.le_of_ble_eq_true rfl)) dX4_wrongMark_13 ⟨Nat.le_of_ble_eq_true rfl, Nat.le_of_ble_eq_true rfl⟩) hP hD hK hS hA [0, 1] [] rfl rfl (by decide) (by decide) (fun r_13_2 w ty1 H locs hw_13 hP hD _ hS => ?_)
    have hu := hw_13
    cases hu
    have hP : va_P (dC, dI) vwCl [(ta, .inr (7, [.ref tb, .int (nI L)])), (tb, .inl (cB, 9000, .inl ft))] H := hP
    have hD : va_D A [(ta, .inr (7, [.ref tb, .int (nI L)])), (tb, .inl (cB, 9000, .inl ft))] := hD
    refine lv_iload_n hx hb dX4_wrongMark_16 rfl (lv_at hl 0 rfl) ?_
    refine g_calli (wr := [(ta, .inr (7, [.ref tb, .int (nI L)])), (tb, .inl (cB, 9000, .inl ft))]) (va_runS (As := [.int 1]) (rest := [.int r_13_2]) ⟨hx, hb, hml, hown, hts⟩ (c_mark l dC dI H.size 1 (by decide)) (va_cwS 1 hts (gG_S kw_299 kw_300 kw_30 kw_301) rfl rfl rfl (by decide +kernel) ⟨Nat.le_of_ble_eq_true rfl, Nat.le_of_ble_eq_true rfl⟩) (g_preS hP hD hK hS hA hN hZ [] (by decide) rfl [] rfl) rfl rfl hl.1 rfl (lv_room (Nat.le_of_ble_eq_true rfl)) dX4_wrongMark_17 ⟨Nat.le_of_ble_eq_true rfl, Nat.le_of_ble_eq_true rfl⟩) hP hD hK hS hA [] [0, 1] rfl rfl (by decide) (by decide) (fun r_17_2 w ty1 H locs hw_17 hP hD _ hS => ?_)
    rcases hw_17 with ⟨hu, hr_17⟩
    cases hu
    have hP : va_P (dC, dI) vwCl [(ta, .inr (7, [.ref tb, .int (nI L)])), (tb, .inl (cB, 9000, .inl ft))] H := hP
    have hD : va_D A [(ta, .inr (7, [.ref tb, .int (nI L)])), (tb, .inl (cB, 9000, .inl ft))] := hD
    refine g_topi (y := mkv 1) hr_17 ?_
    refine lv_icmp_eq (tgt := 29) hx hb dX4_wrongMark_20 (by decide) (fun c_20_2 => ?_) (fun c_20_2 => ?_)
    · refine lv_iinc (v := 2) (lv' := [(1, .int 2), (0, .ref ta)]) hx hb dX4_wrongMark_29 hl (k := 0) rfl (by decide) (by decide) rfl (fun ls hl => ?_)
      refine lv_goto (tgt := 2) hx hb dX4_wrongMark_32 (by decide) ?_
      refine lv_iload_n hx hb dX4_wrongMark_2 rfl (lv_at hl 0 rfl) ?_
      refine lv_iconst (v := 4) hx hb dX4_wrongMark_3 (by decide) ?_
      refine lv_icmp_ge (tgt := 35) hx hb dX4_wrongMark_4 (by decide) (fun c_4_3 => absurd c_4_3 (by decide)) (fun c_4_3 => ?_)
      refine lv_aload_n hx hb dX4_wrongMark_7 rfl (lv_at hl 1 rfl) ?_
      refine lv_sipush (v := 1080) hx hb dX4_wrongMark_8 (by decide) ?_
      refine lv_iload_n hx hb dX4_wrongMark_11 rfl (lv_at hl 0 rfl) ?_
      refine lv_iadd hx hb dX4_wrongMark_12 ?_
      refine g_topi (y := 1082) (by decide) ?_
      refine g_calli (wr := []) (va_runV (As := [.int 1082]) (rest := []) ⟨hx, hb, hml, hown, hts⟩ (k_at l dC dI H.size ta tb cB ft L 1082 (hL)) (cwV 1 hts (gG_V kw_295 kw_296 kw_297 kw_18 kw_298) rfl rfl rfl (by decide +kernel) ⟨Nat.le_of_ble_eq_true rfl, Nat.le_of_ble_eq_true rfl⟩) (g_preV (C := RX7) (T := TX7) (N := 2) hP hD hK hS hA hN hZ (q0 := 0) rfl rfl [0, 1] (by decide) rfl [0] rfl) rfl rfl hl.1 rfl (lv_room (Nat.le_of_ble_eq_true rfl)) dX4_wrongMark_13 ⟨Nat.le_of_ble_eq_true rfl, Nat.le_of_ble_eq_true rfl⟩) hP hD hK hS hA [0, 1] [] rfl rfl (by decide) (by decide) (fun r_13_3 w ty1 H locs hw_13 hP hD _ hS => ?_)
      have hu := hw_13
      cases hu
      have hP : va_P (dC, dI) vwCl [(ta, .inr (7, [.ref tb, .int (nI L)])), (tb, .inl (cB, 9000, .inl ft))] H := hP
      have hD : va_D A [(ta, .inr (7, [.ref tb, .int (nI L)])), (tb, .inl (cB, 9000, .inl ft))] := hD
      refine lv_iload_n hx hb dX4_wrongMark_16 rfl (lv_at hl 0 rfl) ?_
      refine g_calli (wr := [(ta, .inr (7, [.ref tb, .int (nI L)])), (tb, .inl (cB, 9000, .inl ft))]) (va_runS (As := [.int 2]) (rest := [.int r_13_3]) ⟨hx, hb, hml, hown, hts⟩ (c_mark l dC dI H.size 2 (by decide)) (va_cwS 1 hts (gG_S kw_299 kw_300 kw_30 kw_301) rfl rfl rfl (by decide +kernel) ⟨Nat.le_of_ble_eq_true rfl, Nat.le_of_ble_eq_true rfl⟩) (g_preS hP hD hK hS hA hN hZ [] (by decide) rfl [] rfl) rfl rfl hl.1 rfl (lv_room (Nat.le_of_ble_eq_true rfl)) dX4_wrongMark_17 ⟨Nat.le_of_ble_eq_true rfl, Nat.le_of_ble_eq_true rfl⟩) hP hD hK hS hA [] [0, 1] rfl rfl (by decide) (by decide) (fun r_17_3 w ty1 H locs hw_17 hP hD _ hS => ?_)
      rcases hw_17 with ⟨hu, hr_17⟩
      cases hu
      have hP : va_P (dC, dI) vwCl [(ta, .inr (7, [.ref tb, .int (nI L)])), (tb, .inl (cB, 9000, .inl ft))] H := hP
      have hD : va_D A [(ta, .inr (7, [.ref tb, .int (nI L)])), (tb, .inl (cB, 9000, .inl ft))] := hD
      refine g_topi (y := mkv 2) hr_17 ?_
      refine lv_icmp_eq (tgt := 29) hx hb dX4_wrongMark_20 (by decide) (fun c_20_3 => ?_) (fun c_20_3 => ?_)
      · refine lv_iinc (v := 3) (lv' := [(1, .int 3), (0, .ref ta)]) hx hb dX4_wrongMark_29 hl (k := 0) rfl (by decide) (by decide) rfl (fun ls hl => ?_)
        refine lv_goto (tgt := 2) hx hb dX4_wrongMark_32 (by decide) ?_
        refine lv_iload_n hx hb dX4_wrongMark_2 rfl (lv_at hl 0 rfl) ?_
        refine lv_iconst (v := 4) hx hb dX4_wrongMark_3 (by decide) ?_
        refine lv_icmp_ge (tgt := 35) hx hb dX4_wrongMark_4 (by decide) (fun c_4_4 => absurd c_4_4 (by decide)) (fun c_4_4 => ?_)
        refine lv_aload_n hx hb dX4_wrongMark_7 rfl (lv_at hl 1 rfl) ?_
        refine lv_sipush (v := 1080) hx hb dX4_wrongMark_8 (by decide) ?_
        refine lv_iload_n hx hb dX4_wrongMark_11 rfl (lv_at hl 0 rfl) ?_
        refine lv_iadd hx hb dX4_wrongMark_12 ?_
        refine g_topi (y := 1083) (by decide) ?_
        refine g_calli (wr := []) (va_runV (As := [.int 1083]) (rest := []) ⟨hx, hb, hml, hown, hts⟩ (k_at l dC dI H.size ta tb cB ft L 1083 (hL)) (cwV 1 hts (gG_V kw_295 kw_296 kw_297 kw_18 kw_298) rfl rfl rfl (by decide +kernel) ⟨Nat.le_of_ble_eq_true rfl, Nat.le_of_ble_eq_true rfl⟩) (g_preV (C := RX7) (T := TX7) (N := 2) hP hD hK hS hA hN hZ (q0 := 0) rfl rfl [0, 1] (by decide) rfl [0] rfl) rfl rfl hl.1 rfl (lv_room (Nat.le_of_ble_eq_true rfl)) dX4_wrongMark_13 ⟨Nat.le_of_ble_eq_true rfl, Nat.le_of_ble_eq_true rfl⟩) hP hD hK hS hA [0, 1] [] rfl rfl (by decide) (by decide) (fun r_13_4 w ty1 H locs hw_13 hP hD _ hS => ?_)
        have hu := hw_13
        cases hu
        have hP : va_P (dC, dI) vwCl [(ta, .inr (7, [.ref tb, .int (nI L)])), (tb, .inl (cB, 9000, .inl ft))] H := hP
        have hD : va_D A [(ta, .inr (7, [.ref tb, .int (nI L)])), (tb, .inl (cB, 9000, .inl ft))] := hD
        refine lv_iload_n hx hb dX4_wrongMark_16 rfl (lv_at hl 0 rfl) ?_
        refine g_calli (wr := [(ta, .inr (7, [.ref tb, .int (nI L)])), (tb, .inl (cB, 9000, .inl ft))]) (va_runS (As := [.int 3]) (rest := [.int r_13_4]) ⟨hx, hb, hml, hown, hts⟩ (c_mark l dC dI H.size 3 (by decide)) (va_cwS 1 hts (gG_S kw_299 kw_300 kw_30 kw_301) rfl rfl rfl (by decide +kernel) ⟨Nat.le_of_ble_eq_true rfl, Nat.le_of_ble_eq_true rfl⟩) (g_preS hP hD hK hS hA hN hZ [] (by decide) rfl [] rfl) rfl rfl hl.1 rfl (lv_room (Nat.le_of_ble_eq_true rfl)) dX4_wrongMark_17 ⟨Nat.le_of_ble_eq_true rfl, Nat.le_of_ble_eq_true rfl⟩) hP hD hK hS hA [] [0, 1] rfl rfl (by decide) (by decide) (fun r_17_4 w ty1 H locs hw_17 hP hD _ hS => ?_)
        rcases hw_17 with ⟨hu, hr_17⟩
        cases hu
        have hP : va_P (dC, dI) vwCl [(ta, .inr (7, [.ref tb, .int (nI L)])), (tb, .inl (cB, 9000, .inl ft))] H := hP
        have hD : va_D A [(ta, .inr (7, [.ref tb, .int (nI L)])), (tb, .inl (cB, 9000, .inl ft))] := hD
        refine g_topi (y := mkv 3) hr_17 ?_
        refine lv_icmp_eq (tgt := 29) hx hb dX4_wrongMark_20 (by decide) (fun c_20_4 => ?_) (fun c_20_4 => ?_)
        · refine lv_iinc (v := 4) (lv' := [(1, .int 4), (0, .ref ta)]) hx hb dX4_wrongMark_29 hl (k := 0) rfl (by decide) (by decide) rfl (fun ls hl => ?_)
          refine lv_goto (tgt := 2) hx hb dX4_wrongMark_32 (by decide) ?_
          refine lv_iload_n hx hb dX4_wrongMark_2 rfl (lv_at hl 0 rfl) ?_
          refine lv_iconst (v := 4) hx hb dX4_wrongMark_3 (by decide) ?_
          refine lv_icmp_ge (tgt := 35) hx hb dX4_wrongMark_4 (by decide) (fun c_4_5 => ?_) (fun c_4_5 => absurd c_4_5 (by decide))
          refine lv_iconst (v := (-1)) hx hb dX4_wrongMark_35 (by decide) ?_
          have hP9 := hP
          have hD9 := hD
          have hK9 := hK.sub (tys' := []) [] rfl
          exact W.iret (v := (-1)) hx hb hr (fun t ht hW => ⟨⟨(-1), _, rfl, rfl, by rw [ht]; exact hP9, va_K.moved hW.alike hK9, hD9⟩, hS.F ht⟩) hS.2.2 dX4_wrongMark_36
        refine lv_sipush (v := 1080) hx hb dX4_wrongMark_23 (by decide) ?_
        refine lv_iload_n hx hb dX4_wrongMark_26 rfl (lv_at hl 0 rfl) ?_
        refine lv_iadd hx hb dX4_wrongMark_27 ?_
        refine g_topi (y := 1083) (by decide) ?_
        have hP9 := hP
        have hD9 := hD
        have hK9 := hK.sub (tys' := []) [] rfl
        exact W.iret (v := 1083) hx hb hr (fun t ht hW => ⟨⟨1083, _, rfl, rfl, by rw [ht]; exact hP9, va_K.moved hW.alike hK9, hD9⟩, hS.F ht⟩) hS.2.2 dX4_wrongMark_28
      refine lv_sipush (v := 1080) hx hb dX4_wrongMark_23 (by decide) ?_
      refine lv_iload_n hx hb dX4_wrongMark_26 rfl (lv_at hl 0 rfl) ?_
      refine lv_iadd hx hb dX4_wrongMark_27 ?_
      refine g_topi (y := 1082) (by decide) ?_
      have hP9 := hP
      have hD9 := hD
      have hK9 := hK.sub (tys' := []) [] rfl
      exact W.iret (v := 1082) hx hb hr (fun t ht hW => ⟨⟨1082, _, rfl, rfl, by rw [ht]; exact hP9, va_K.moved hW.alike hK9, hD9⟩, hS.F ht⟩) hS.2.2 dX4_wrongMark_28
    refine lv_sipush (v := 1080) hx hb dX4_wrongMark_23 (by decide) ?_
    refine lv_iload_n hx hb dX4_wrongMark_26 rfl (lv_at hl 0 rfl) ?_
    refine lv_iadd hx hb dX4_wrongMark_27 ?_
    refine g_topi (y := 1081) (by decide) ?_
    have hP9 := hP
    have hD9 := hD
    have hK9 := hK.sub (tys' := []) [] rfl
    exact W.iret (v := 1081) hx hb hr (fun t ht hW => ⟨⟨1081, _, rfl, rfl, by rw [ht]; exact hP9, va_K.moved hW.alike hK9, hD9⟩, hS.F ht⟩) hS.2.2 dX4_wrongMark_28
  refine lv_sipush (v := 1080) hx hb dX4_wrongMark_23 (by decide) ?_
  refine lv_iload_n hx hb dX4_wrongMark_26 rfl (lv_at hl 0 rfl) ?_
  refine lv_iadd hx hb dX4_wrongMark_27 ?_
  refine g_topi (y := 1080) (by decide) ?_
  have hP9 := hP
  have hD9 := hD
  have hK9 := hK.sub (tys' := []) [] rfl
  exact W.iret (v := 1080) hx hb hr (fun t ht hW => ⟨⟨1080, _, rfl, rfl, by rw [ht]; exact hP9, va_K.moved hW.alike hK9, hD9⟩, hS.F ht⟩) hS.2.2 dX4_wrongMark_28

set_option maxHeartbeats 400000 in
set_option maxRecDepth 100000 in
theorem k_wrongSample (l : Launch) (dC : Nat → ClassId) (dI : Nat → Nat → Nat) (sz : Nat) (ta tb : Nat) (cB : ClassId) (ft : Nat → Int32) (L : Nat) (hL : L ≤ 9000) : Met l yX4_wrongSample (wsG (.code yX4_wrongSample cX4_wrongSample 7 (some .int))) ({ frames := 3, cells := 0, slots := 0, locals := 63 }) (va_Pc [.ref ta] (gP (dC, dI) [(cB, .byte)] [(ta, .inr (7, [.ref tb, .int (nI L)])), (tb, .inl (cB, 9000, .inl ft))] sz)) (va_Qi (fun (r : Int32) (u : va_W × gT) => u = ([(ta, .inr (7, [.ref tb, .int (nI L)])), (tb, .inl (cB, 9000, .inl ft))], [])) (gB (dC, dI) (va_A [(ta, .inr (7, [.ref tb, .int (nI L)])), (tb, .inl (cB, 9000, .inl ft))] sz)) (va_A [(ta, .inr (7, [.ref tb, .int (nI L)])), (tb, .inl (cB, 9000, .inl ft))] sz)) 0 0 (va_A [(ta, .inr (7, [.ref tb, .int (nI L)])), (tb, .inl (cB, 9000, .inl ft))] sz) := by
  refine Met.ofW (cc := cX4_wrongSample) (maxL := 7) (ret := (some .int)) (by decide) rfl ?_
  intro p e s m args below meth c s₁ B hml hv
  obtain ⟨rfl, hsz, hP, hK, hD0, hN, hZ⟩ := hv
  have hx := B.exec
  have hb := B.bytes
  have hr := B.returns
  have hts := atoms_spec (ws := (wsG (.code yX4_wrongSample cX4_wrongSample 7 (some .int)))) B.pre
  have hown : s.vm.findClass RX4 = some m.cls := findClass_of_methodNamed B.named
  have hlocks := B.notSynchronized
  subst hsz
  have hD := hD0.self (sz := s.heap.size)
  generalize hAe : va_A [(ta, .inr (7, [.ref tb, .int (nI L)])), (tb, .inl (cB, 9000, .inl ft))] s.heap.size = A at hD hZ ⊢
  have hA : ∀ q : Nat, s.heap.size ≤ q → A q := fun q h => by rw [← hAe]; exact Or.inr h
  have hl := lv_entry ([.ref ta]) (n := 7) (Nat.le_of_ble_eq_true rfl)
  rw [lg_entry_eq]
  generalize (lg_sl ([.ref ta]) ++ List.replicate (7 - (lg_sl ([.ref ta])).length) Slot.unset).toArray = ls at hl ⊢
  have hl : lv_has ls 7 [(0, .ref ta)] := hl
  refine g_start (A := A) hP (fun H locs hP hS => ?_)
  refine lv_iconst (v := 0) hx hb dX4_wrongSample_0 (by decide) ?_
  refine lv_istore_n (lv' := [(1, .int 0), (0, .ref ta)]) hx hb dX4_wrongSample_1 rfl hl (by decide) rfl (fun ls hl => ?_)
  refine lv_iconst (v := 1) hx hb dX4_wrongSample_2 (by decide) ?_
  refine lv_istore_n (lv' := [(2, .int 1), (1, .int 0), (0, .ref ta)]) hx hb dX4_wrongSample_3 rfl hl (by decide) rfl (fun ls hl => ?_)
  have LP4 : ∀ (fu4 : Nat) (q4 : Nat) (ah : Int32) (hq4a : 1 ≤ q4) (hq4 : q4 ≤ 32) (hm4 : 32 - q4 < fu4) (H : Heap) (locs : List Loc), va_P (dC, dI) vwCl [(ta, .inr (7, [.ref tb, .int (nI L)])), (tb, .inl (cB, 9000, .inl ft))] H → va_D A [(ta, .inr (7, [.ref tb, .int (nI L)])), (tb, .inl (cB, 9000, .inl ft))] → va_S A s.heap H locs → ∀ ls : Array Slot, lv_has ls 7 [(2, .int (nI q4)), (1, .int ah), (0, .ref ta)] → W p l e ({ frames := 3, cells := 0, slots := 0, locals := 63 }) s m ([.ref ta] : List Value).toArray below meth c H locs (0) (0) (MQ below (va_Qi (fun (r : Int32) (u : va_W × gT) => u = ([(ta, .inr (7, [.ref tb, .int (nI L)])), (tb, .inl (cB, 9000, .inl ft))], [])) (gB (dC, dI) A) A) ([.ref ta] : List Value).toArray s 0 0 A) (F0 m 4 ls []) := by
    intro fu4
    induction fu4 with
    | zero => intro q4 ah hq4a hq4 hm4; exact absurd hm4 (Nat.not_lt_zero _)
    | succ fu4 ih4 =>
      intro q4 ah hq4a hq4 hm4 H locs hP hD hS ls hl
      refine lv_iload_n hx hb dX4_wrongSample_4 rfl (lv_at hl 0 rfl) ?_
      refine lv_bipush (v := 31) hx hb dX4_wrongSample_5 (by decide) ?_
      refine lv_icmp_gt (tgt := 129) hx hb dX4_wrongSample_7 (by decide) (fun c_7 => ?_) (fun c_7 => ?_)
      · refine lv_iconst (v := (-1)) hx hb dX4_wrongSample_129 (by decide) ?_
        have hP9 := hP
        have hD9 := hD
        have hK9 := hK.sub (tys' := []) [] rfl
        exact W.iret (v := (-1)) hx hb hr (fun t ht hW => ⟨⟨(-1), _, rfl, rfl, by rw [ht]; exact hP9, va_K.moved hW.alike hK9, hD9⟩, hS.F ht⟩) hS.2.2 dX4_wrongSample_130
      refine lv_iload_n hx hb dX4_wrongSample_10 rfl (lv_at hl 0 rfl) ?_
      refine g_calli (wr := [(ta, .inr (7, [.ref tb, .int (nI L)])), (tb, .inl (cB, 9000, .inl ft))]) (va_runS (As := [.int (nI q4)]) (rest := []) ⟨hx, hb, hml, hown, hts⟩ (c_sampleAt l dC dI H.size q4 (hq4a)) (va_cwS 1 hts (gG_S kw_306 kw_307 kw_30 kw_308) rfl rfl rfl (by decide +kernel) ⟨Nat.le_of_ble_eq_true rfl, Nat.le_of_ble_eq_true rfl⟩) (g_preS hP hD hK hS hA hN hZ [] (by decide) rfl [] rfl) rfl rfl hl.1 rfl (lv_room (Nat.le_of_ble_eq_true rfl)) dX4_wrongSample_11 ⟨Nat.le_of_ble_eq_true rfl, Nat.le_of_ble_eq_true rfl⟩) hP hD hK hS hA [] [0, 1] rfl rfl (by decide) (by decide) (fun r_11 w ty1 H locs hw_11 hP hD _ hS => ?_)
      rcases hw_11 with ⟨hu, hr_11⟩
      cases hu
      have hP : va_P (dC, dI) vwCl [(ta, .inr (7, [.ref tb, .int (nI L)])), (tb, .inl (cB, 9000, .inl ft))] H := hP
      have hD : va_D A [(ta, .inr (7, [.ref tb, .int (nI L)])), (tb, .inl (cB, 9000, .inl ft))] := hD
      refine g_topi (y := nI (20 + 30 * (q4 - 1))) hr_11 ?_
      refine lv_istore_n (lv' := [(3, .int (nI (20 + 30 * (q4 - 1)))), (2, .int (nI q4)), (1, .int ah), (0, .ref ta)]) hx hb dX4_wrongSample_14 rfl hl (by decide) rfl (fun ls hl => ?_)
      refine lv_iconst (v := 2) hx hb dX4_wrongSample_15 (by decide) ?_
      refine lv_aload_n hx hb dX4_wrongSample_16 rfl (lv_at hl 3 rfl) ?_
      refine lv_iload_n hx hb dX4_wrongSample_17 rfl (lv_at hl 0 rfl) ?_
      refine lv_bipush (v := 22) hx hb dX4_wrongSample_18 (by decide) ?_
      refine lv_iadd hx hb dX4_wrongSample_20 ?_
      refine lv_topi (fun tv_20 etv_20 => ?_)
      refine g_calli (wr := []) (va_runV (As := [.int tv_20]) (rest := [.int 2]) ⟨hx, hb, hml, hown, hts⟩ (k_pairAt l dC dI H.size ta tb cB ft L tv_20 (hL)) (cwV 1 hts (gG_V kw_309 kw_310 kw_311 kw_18 kw_312) rfl rfl rfl (by decide +kernel) ⟨Nat.le_of_ble_eq_true rfl, Nat.le_of_ble_eq_true rfl⟩) (g_preV (C := RX7) (T := TX7) (N := 2) hP hD hK hS hA hN hZ (q0 := 0) rfl rfl [0, 1] (by decide) rfl [0] rfl) rfl rfl hl.1 rfl (lv_room (Nat.le_of_ble_eq_true rfl)) dX4_wrongSample_21 ⟨Nat.le_of_ble_eq_true rfl, Nat.le_of_ble_eq_true rfl⟩) hP hD hK hS hA [0, 1] [] rfl rfl (by decide) (by decide) (fun r_21 w ty1 H locs hw_21 hP hD _ hS => ?_)
      have hu := hw_21
      cases hu
      have hP : va_P (dC, dI) vwCl [(ta, .inr (7, [.ref tb, .int (nI L)])), (tb, .inl (cB, 9000, .inl ft))] H := hP
      have hD : va_D A [(ta, .inr (7, [.ref tb, .int (nI L)])), (tb, .inl (cB, 9000, .inl ft))] := hD
      refine lv_imul hx hb dX4_wrongSample_24 ?_
      refine lv_topi (fun tv_24 etv_24 => ?_)
      refine lv_istore (lv' := [(4, .int tv_24), (3, .int (nI (20 + 30 * (q4 - 1)))), (2, .int (nI q4)), (1, .int ah), (0, .ref ta)]) hx hb dX4_wrongSample_25 hl (by decide) rfl (fun ls hl => ?_)
      refine lv_iload hx hb dX4_wrongSample_27 (lv_at hl 0 rfl) ?_
      refine lv_iload_n hx hb dX4_wrongSample_29 rfl (lv_at hl 3 rfl) ?_
      refine g_calli (wr := [(ta, .inr (7, [.ref tb, .int (nI L)])), (tb, .inl (cB, 9000, .inl ft))]) (va_runS (As := [.int tv_24, .int ah]) (rest := []) ⟨hx, hb, hml, hown, hts⟩ (c_lenFits l dC dI H.size tv_24 ah ) (va_cwS 2 hts (gG_S kw_314 kw_315 kw_22 kw_316) rfl rfl rfl (by decide +kernel) ⟨Nat.le_of_ble_eq_true rfl, Nat.le_of_ble_eq_true rfl⟩) (g_preS hP hD hK hS hA hN hZ [] (by decide) rfl [] rfl) rfl rfl hl.1 rfl (lv_room (Nat.le_of_ble_eq_true rfl)) dX4_wrongSample_30 ⟨Nat.le_of_ble_eq_true rfl, Nat.le_of_ble_eq_true rfl⟩) hP hD hK hS hA [] [0, 1] rfl rfl (by decide) (by decide) (fun r_30 w ty1 H locs hw_30 hP hD _ hS => ?_)
      rcases hw_30 with ⟨hu, hr_30, hh_30⟩ | ⟨hu, hr_30, hh_30⟩
      · cases hu
        have hP : va_P (dC, dI) vwCl [(ta, .inr (7, [.ref tb, .int (nI L)])), (tb, .inl (cB, 9000, .inl ft))] H := hP
        have hD : va_D A [(ta, .inr (7, [.ref tb, .int (nI L)])), (tb, .inl (cB, 9000, .inl ft))] := hD
        refine g_topi (y := 1) hr_30 ?_
        refine lv_if_ne (tgt := 41) hx hb dX4_wrongSample_33 (by decide) (fun c_33 => ?_) (fun c_33 => absurd c_33 (by decide))
        refine lv_iload_n hx hb dX4_wrongSample_41 rfl (lv_at hl 3 rfl) ?_
        refine lv_iload hx hb dX4_wrongSample_42 (lv_at hl 0 rfl) ?_
        refine lv_iadd hx hb dX4_wrongSample_44 ?_
        refine lv_topi (fun tv_44 etv_44 => ?_)
        refine lv_istore_n (lv' := [(1, .int tv_44), (4, .int tv_24), (3, .int (nI (20 + 30 * (q4 - 1)))), (2, .int (nI q4)), (0, .ref ta)]) hx hb dX4_wrongSample_45 rfl hl (by decide) rfl (fun ls hl => ?_)
        refine lv_aload_n hx hb dX4_wrongSample_46 rfl (lv_at hl 4 rfl) ?_
        refine lv_iload_n hx hb dX4_wrongSample_47 rfl (lv_at hl 2 rfl) ?_
        refine lv_bipush (v := 24) hx hb dX4_wrongSample_48 (by decide) ?_
        refine lv_iadd hx hb dX4_wrongSample_50 ?_
        refine lv_topi (fun tv_50 etv_50 => ?_)
        refine g_calli (wr := []) (va_runV (As := [.int tv_50]) (rest := []) ⟨hx, hb, hml, hown, hts⟩ (k_at l dC dI H.size ta tb cB ft L tv_50 (hL)) (cwV 1 hts (gG_V kw_295 kw_296 kw_297 kw_18 kw_298) rfl rfl rfl (by decide +kernel) ⟨Nat.le_of_ble_eq_true rfl, Nat.le_of_ble_eq_true rfl⟩) (g_preV (C := RX7) (T := TX7) (N := 2) hP hD hK hS hA hN hZ (q0 := 0) rfl rfl [0, 1] (by decide) rfl [0] rfl) rfl rfl hl.1 rfl (lv_room (Nat.le_of_ble_eq_true rfl)) dX4_wrongSample_51 ⟨Nat.le_of_ble_eq_true rfl, Nat.le_of_ble_eq_true rfl⟩) hP hD hK hS hA [0, 1] [] rfl rfl (by decide) (by decide) (fun r_51 w ty1 H locs hw_51 hP hD _ hS => ?_)
        have hu := hw_51
        cases hu
        have hP : va_P (dC, dI) vwCl [(ta, .inr (7, [.ref tb, .int (nI L)])), (tb, .inl (cB, 9000, .inl ft))] H := hP
        have hD : va_D A [(ta, .inr (7, [.ref tb, .int (nI L)])), (tb, .inl (cB, 9000, .inl ft))] := hD
        refine lv_bipush (v := 15) hx hb dX4_wrongSample_54 (by decide) ?_
        refine lv_icmp_le (tgt := 64) hx hb dX4_wrongSample_56 (by decide) (fun c_56 => ?_) (fun c_56 => ?_)
        · refine lv_aload_n hx hb dX4_wrongSample_64 rfl (lv_at hl 4 rfl) ?_
          refine lv_iload_n hx hb dX4_wrongSample_65 rfl (lv_at hl 2 rfl) ?_
          refine lv_bipush (v := 25) hx hb dX4_wrongSample_66 (by decide) ?_
          refine lv_iadd hx hb dX4_wrongSample_68 ?_
          refine lv_topi (fun tv_68 etv_68 => ?_)
          refine g_calli (wr := []) (va_runV (As := [.int tv_68]) (rest := []) ⟨hx, hb, hml, hown, hts⟩ (k_at l dC dI H.size ta tb cB ft L tv_68 (hL)) (cwV 1 hts (gG_V kw_295 kw_296 kw_297 kw_18 kw_298) rfl rfl rfl (by decide +kernel) ⟨Nat.le_of_ble_eq_true rfl, Nat.le_of_ble_eq_true rfl⟩) (g_preV (C := RX7) (T := TX7) (N := 2) hP hD hK hS hA hN hZ (q0 := 0) rfl rfl [0, 1] (by decide) rfl [0] rfl) rfl rfl hl.1 rfl (lv_room (Nat.le_of_ble_eq_true rfl)) dX4_wrongSample_69 ⟨Nat.le_of_ble_eq_true rfl, Nat.le_of_ble_eq_true rfl⟩) hP hD hK hS hA [0, 1] [] rfl rfl (by decide) (by decide) (fun r_69 w ty1 H locs hw_69 hP hD _ hS => ?_)
          have hu := hw_69
          cases hu
          have hP : va_P (dC, dI) vwCl [(ta, .inr (7, [.ref tb, .int (nI L)])), (tb, .inl (cB, 9000, .inl ft))] H := hP
          have hD : va_D A [(ta, .inr (7, [.ref tb, .int (nI L)])), (tb, .inl (cB, 9000, .inl ft))] := hD
          refine lv_bipush (v := 64) hx hb dX4_wrongSample_72 (by decide) ?_
          refine lv_icmp_le (tgt := 82) hx hb dX4_wrongSample_74 (by decide) (fun c_74 => ?_) (fun c_74 => ?_)
          · refine lv_iconst (v := 2) hx hb dX4_wrongSample_82 (by decide) ?_
            refine lv_aload_n hx hb dX4_wrongSample_83 rfl (lv_at hl 4 rfl) ?_
            refine lv_iload_n hx hb dX4_wrongSample_84 rfl (lv_at hl 2 rfl) ?_
            refine lv_bipush (v := 26) hx hb dX4_wrongSample_85 (by decide) ?_
            refine lv_iadd hx hb dX4_wrongSample_87 ?_
            refine lv_topi (fun tv_87 etv_87 => ?_)
            refine g_calli (wr := []) (va_runV (As := [.int tv_87]) (rest := [.int 2]) ⟨hx, hb, hml, hown, hts⟩ (k_pairAt l dC dI H.size ta tb cB ft L tv_87 (hL)) (cwV 1 hts (gG_V kw_309 kw_310 kw_311 kw_18 kw_312) rfl rfl rfl (by decide +kernel) ⟨Nat.le_of_ble_eq_true rfl, Nat.le_of_ble_eq_true rfl⟩) (g_preV (C := RX7) (T := TX7) (N := 2) hP hD hK hS hA hN hZ (q0 := 0) rfl rfl [0, 1] (by decide) rfl [0] rfl) rfl rfl hl.1 rfl (lv_room (Nat.le_of_ble_eq_true rfl)) dX4_wrongSample_88 ⟨Nat.le_of_ble_eq_true rfl, Nat.le_of_ble_eq_true rfl⟩) hP hD hK hS hA [0, 1] [] rfl rfl (by decide) (by decide) (fun r_88 w ty1 H locs hw_88 hP hD _ hS => ?_)
            have hu := hw_88
            cases hu
            have hP : va_P (dC, dI) vwCl [(ta, .inr (7, [.ref tb, .int (nI L)])), (tb, .inl (cB, 9000, .inl ft))] H := hP
            have hD : va_D A [(ta, .inr (7, [.ref tb, .int (nI L)])), (tb, .inl (cB, 9000, .inl ft))] := hD
            refine lv_imul hx hb dX4_wrongSample_91 ?_
            refine lv_topi (fun tv_91 etv_91 => ?_)
            refine lv_istore (lv' := [(5, .int tv_91), (1, .int tv_44), (4, .int tv_24), (3, .int (nI (20 + 30 * (q4 - 1)))), (2, .int (nI q4)), (0, .ref ta)]) hx hb dX4_wrongSample_92 hl (by decide) rfl (fun ls hl => ?_)
            refine lv_iconst (v := 2) hx hb dX4_wrongSample_94 (by decide) ?_
            refine lv_aload_n hx hb dX4_wrongSample_95 rfl (lv_at hl 5 rfl) ?_
            refine lv_iload_n hx hb dX4_wrongSample_96 rfl (lv_at hl 3 rfl) ?_
            refine lv_bipush (v := 28) hx hb dX4_wrongSample_97 (by decide) ?_
            refine lv_iadd hx hb dX4_wrongSample_99 ?_
            refine lv_topi (fun tv_99 etv_99 => ?_)
            refine g_calli (wr := []) (va_runV (As := [.int tv_99]) (rest := [.int 2]) ⟨hx, hb, hml, hown, hts⟩ (k_pairAt l dC dI H.size ta tb cB ft L tv_99 (hL)) (cwV 1 hts (gG_V kw_309 kw_310 kw_311 kw_18 kw_312) rfl rfl rfl (by decide +kernel) ⟨Nat.le_of_ble_eq_true rfl, Nat.le_of_ble_eq_true rfl⟩) (g_preV (C := RX7) (T := TX7) (N := 2) hP hD hK hS hA hN hZ (q0 := 0) rfl rfl [0, 1] (by decide) rfl [0] rfl) rfl rfl hl.1 rfl (lv_room (Nat.le_of_ble_eq_true rfl)) dX4_wrongSample_100 ⟨Nat.le_of_ble_eq_true rfl, Nat.le_of_ble_eq_true rfl⟩) hP hD hK hS hA [0, 1] [] rfl rfl (by decide) (by decide) (fun r_100 w ty1 H locs hw_100 hP hD _ hS => ?_)
            have hu := hw_100
            cases hu
            have hP : va_P (dC, dI) vwCl [(ta, .inr (7, [.ref tb, .int (nI L)])), (tb, .inl (cB, 9000, .inl ft))] H := hP
            have hD : va_D A [(ta, .inr (7, [.ref tb, .int (nI L)])), (tb, .inl (cB, 9000, .inl ft))] := hD
            refine lv_imul hx hb dX4_wrongSample_103 ?_
            refine lv_topi (fun tv_103 etv_103 => ?_)
            refine lv_istore (lv' := [(6, .int tv_103), (5, .int tv_91), (1, .int tv_44), (4, .int tv_24), (3, .int (nI (20 + 30 * (q4 - 1)))), (2, .int (nI q4)), (0, .ref ta)]) hx hb dX4_wrongSample_104 hl (by decide) rfl (fun ls hl => ?_)
            refine lv_iload hx hb dX4_wrongSample_106 (lv_at hl 3 rfl) ?_
            refine lv_iload hx hb dX4_wrongSample_108 (lv_at hl 1 rfl) ?_
            refine lv_iload hx hb dX4_wrongSample_110 (lv_at hl 0 rfl) ?_
            refine g_calli (wr := [(ta, .inr (7, [.ref tb, .int (nI L)])), (tb, .inl (cB, 9000, .inl ft))]) (va_runS (As := [.int tv_24, .int tv_91, .int tv_103]) (rest := []) ⟨hx, hb, hml, hown, hts⟩ (c_loopFits l dC dI H.size tv_24 tv_91 tv_103 ) (va_cwS 3 hts (gG_S kw_317 kw_318 kw_57 kw_319) rfl rfl rfl (by decide +kernel) ⟨Nat.le_of_ble_eq_true rfl, Nat.le_of_ble_eq_true rfl⟩) (g_preS hP hD hK hS hA hN hZ [] (by decide) rfl [] rfl) rfl rfl hl.1 rfl (lv_room (Nat.le_of_ble_eq_true rfl)) dX4_wrongSample_112 ⟨Nat.le_of_ble_eq_true rfl, Nat.le_of_ble_eq_true rfl⟩) hP hD hK hS hA [] [0, 1] rfl rfl (by decide) (by decide) (fun r_112 w ty1 H locs hw_112 hP hD _ hS => ?_)
            rcases hw_112 with ⟨hu, hr_112, hh_112⟩ | ⟨hu, hr_112, hh_112⟩
            · cases hu
              have hP : va_P (dC, dI) vwCl [(ta, .inr (7, [.ref tb, .int (nI L)])), (tb, .inl (cB, 9000, .inl ft))] H := hP
              have hD : va_D A [(ta, .inr (7, [.ref tb, .int (nI L)])), (tb, .inl (cB, 9000, .inl ft))] := hD
              refine g_topi (y := 1) hr_112 ?_
              refine lv_if_ne (tgt := 123) hx hb dX4_wrongSample_115 (by decide) (fun c_115 => ?_) (fun c_115 => absurd c_115 (by decide))
              refine lv_iinc (v := nI (q4 + 1)) (lv' := [(2, .int (nI (q4 + 1))), (6, .int tv_103), (5, .int tv_91), (1, .int tv_44), (4, .int tv_24), (3, .int (nI (20 + 30 * (q4 - 1)))), (0, .ref ta)]) hx hb dX4_wrongSample_123 hl (k := 5) rfl (nI_1 q4) (by decide) rfl (fun ls hl => ?_)
              refine lv_goto (tgt := 4) hx hb dX4_wrongSample_126 (by decide) ?_
              exact ih4 (q4 + 1) tv_44 (by omega) (by have := nI_nlt2 (a := 31) c_7 (by omega); omega) (by have := nI_nlt2 (a := 31) c_7 (by omega); omega) _ _ (hP.sub [0, 1] rfl) (hD.sub [0, 1] (by decide) rfl) hS _ (lv_sub hl [0, 3, 6] rfl)
            cases hu
            have hP : va_P (dC, dI) vwCl [(ta, .inr (7, [.ref tb, .int (nI L)])), (tb, .inl (cB, 9000, .inl ft))] H := hP
            have hD : va_D A [(ta, .inr (7, [.ref tb, .int (nI L)])), (tb, .inl (cB, 9000, .inl ft))] := hD
            refine g_topi (y := 0) hr_112 ?_
            refine lv_if_ne (tgt := 123) hx hb dX4_wrongSample_115 (by decide) (fun c_115 => absurd c_115 (by decide)) (fun c_115 => ?_)
            refine lv_iload_n hx hb dX4_wrongSample_118 rfl (lv_at hl 4 rfl) ?_
            refine lv_bipush (v := 26) hx hb dX4_wrongSample_119 (by decide) ?_
            refine lv_iadd hx hb dX4_wrongSample_121 ?_
            refine lv_topi (fun tv_121 etv_121 => ?_)
            have hP9 := hP
            have hD9 := hD
            have hK9 := hK.sub (tys' := []) [] rfl
            exact W.iret (v := tv_121) hx hb hr (fun t ht hW => ⟨⟨tv_121, _, rfl, rfl, by rw [ht]; exact hP9, va_K.moved hW.alike hK9, hD9⟩, hS.F ht⟩) hS.2.2 dX4_wrongSample_122
          refine lv_iload_n hx hb dX4_wrongSample_77 rfl (lv_at hl 2 rfl) ?_
          refine lv_bipush (v := 25) hx hb dX4_wrongSample_78 (by decide) ?_
          refine lv_iadd hx hb dX4_wrongSample_80 ?_
          refine lv_topi (fun tv_80 etv_80 => ?_)
          have hP9 := hP
          have hD9 := hD
          have hK9 := hK.sub (tys' := []) [] rfl
          exact W.iret (v := tv_80) hx hb hr (fun t ht hW => ⟨⟨tv_80, _, rfl, rfl, by rw [ht]; exact hP9, va_K.moved hW.alike hK9, hD9⟩, hS.F ht⟩) hS.2.2 dX4_wrongSample_81
        refine lv_iload_n hx hb dX4_wrongSample_59 rfl (lv_at hl 2 rfl) ?_
        refine lv_bipush (v := 24) hx hb dX4_wrongSample_60 (by decide) ?_
        refine lv_iadd hx hb dX4_wrongSample_62 ?_
        refine lv_topi (fun tv_62 etv_62 => ?_)
        have hP9 := hP
        have hD9 := hD
        have hK9 := hK.sub (tys' := []) [] rfl
        exact W.iret (v := tv_62) hx hb hr (fun t ht hW => ⟨⟨tv_62, _, rfl, rfl, by rw [ht]; exact hP9, va_K.moved hW.alike hK9, hD9⟩, hS.F ht⟩) hS.2.2 dX4_wrongSample_63
      cases hu
      have hP : va_P (dC, dI) vwCl [(ta, .inr (7, [.ref tb, .int (nI L)])), (tb, .inl (cB, 9000, .inl ft))] H := hP
      have hD : va_D A [(ta, .inr (7, [.ref tb, .int (nI L)])), (tb, .inl (cB, 9000, .inl ft))] := hD
      refine g_topi (y := 0) hr_30 ?_
      refine lv_if_ne (tgt := 41) hx hb dX4_wrongSample_33 (by decide) (fun c_33 => absurd c_33 (by decide)) (fun c_33 => ?_)
      refine lv_iload_n hx hb dX4_wrongSample_36 rfl (lv_at hl 1 rfl) ?_
      refine lv_bipush (v := 22) hx hb dX4_wrongSample_37 (by decide) ?_
      refine lv_iadd hx hb dX4_wrongSample_39 ?_
      refine lv_topi (fun tv_39 etv_39 => ?_)
      have hP9 := hP
      have hD9 := hD
      have hK9 := hK.sub (tys' := []) [] rfl
      exact W.iret (v := tv_39) hx hb hr (fun t ht hW => ⟨⟨tv_39, _, rfl, rfl, by rw [ht]; exact hP9, va_K.moved hW.alike hK9, hD9⟩, hS.F ht⟩) hS.2.2 dX4_wrongSample_40
  exact LP4 _ 1 0 (by decide) (by decide) (Nat.lt_succ_self _) _ _ (hP.sub [0, 1] rfl) (hD.sub [0, 1] (by decide) rfl) hS _ (lv_sub hl [0, 1, 2] rfl)

set_option maxHeartbeats 400000 in
set_option maxRecDepth 100000 in
theorem k_wrongSong (l : Launch) (dC : Nat → ClassId) (dI : Nat → Nat → Nat) (sz : Nat) (ta tb : Nat) (cB : ClassId) (ft : Nat → Int32) (L : Nat) (hL : L ≤ 9000) : Met l yX4_wrongSong (wsG (.code yX4_wrongSong cX4_wrongSong 3 (some .int))) ({ frames := 2, cells := 0, slots := 0, locals := 42 }) (va_Pc [.ref ta] (gP (dC, dI) [(cB, .byte)] [(ta, .inr (7, [.ref tb, .int (nI L)])), (tb, .inl (cB, 9000, .inl ft))] sz)) (va_Qi (fun (r : Int32) (u : va_W × gT) => u = ([(ta, .inr (7, [.ref tb, .int (nI L)])), (tb, .inl (cB, 9000, .inl ft))], [])) (gB (dC, dI) (va_A [(ta, .inr (7, [.ref tb, .int (nI L)])), (tb, .inl (cB, 9000, .inl ft))] sz)) (va_A [(ta, .inr (7, [.ref tb, .int (nI L)])), (tb, .inl (cB, 9000, .inl ft))] sz)) 0 0 (va_A [(ta, .inr (7, [.ref tb, .int (nI L)])), (tb, .inl (cB, 9000, .inl ft))] sz) := by
  refine Met.ofW (cc := cX4_wrongSong) (maxL := 3) (ret := (some .int)) (by decide) rfl ?_
  intro p e s m args below meth c s₁ B hml hv
  obtain ⟨rfl, hsz, hP, hK, hD0, hN, hZ⟩ := hv
  have hx := B.exec
  have hb := B.bytes
  have hr := B.returns
  have hts := atoms_spec (ws := (wsG (.code yX4_wrongSong cX4_wrongSong 3 (some .int)))) B.pre
  have hown : s.vm.findClass RX4 = some m.cls := findClass_of_methodNamed B.named
  have hlocks := B.notSynchronized
  subst hsz
  have hD := hD0.self (sz := s.heap.size)
  generalize hAe : va_A [(ta, .inr (7, [.ref tb, .int (nI L)])), (tb, .inl (cB, 9000, .inl ft))] s.heap.size = A at hD hZ ⊢
  have hA : ∀ q : Nat, s.heap.size ≤ q → A q := fun q h => by rw [← hAe]; exact Or.inr h
  have hl := lv_entry ([.ref ta]) (n := 3) (Nat.le_of_ble_eq_true rfl)
  rw [lg_entry_eq]
  generalize (lg_sl ([.ref ta]) ++ List.replicate (3 - (lg_sl ([.ref ta])).length) Slot.unset).toArray = ls at hl ⊢
  have hl : lv_has ls 3 [(0, .ref ta)] := hl
  refine g_start (A := A) hP (fun H locs hP hS => ?_)
  refine lv_aload_n hx hb dX4_wrongSong_0 rfl (lv_at hl 0 rfl) ?_
  refine lv_sipush (v := 950) hx hb dX4_wrongSong_1 (by decide) ?_
  refine g_calli (wr := []) (va_runV (As := [.int 950]) (rest := []) ⟨hx, hb, hml, hown, hts⟩ (k_at l dC dI H.size ta tb cB ft L 950 (hL)) (cwV 1 hts (gG_V kw_295 kw_296 kw_297 kw_18 kw_298) rfl rfl rfl (by decide +kernel) ⟨Nat.le_of_ble_eq_true rfl, Nat.le_of_ble_eq_true rfl⟩) (g_preV (C := RX7) (T := TX7) (N := 2) hP hD hK hS hA hN hZ (q0 := 0) rfl rfl [0, 1] (by decide) rfl [0] rfl) rfl rfl hl.1 rfl (lv_room (Nat.le_of_ble_eq_true rfl)) dX4_wrongSong_4 ⟨Nat.le_of_ble_eq_true rfl, Nat.le_of_ble_eq_true rfl⟩) hP hD hK hS hA [0, 1] [] rfl rfl (by decide) (by decide) (fun r_4 w ty1 H locs hw_4 hP hD _ hS => ?_)
  have hu := hw_4
  cases hu
  have hP : va_P (dC, dI) vwCl [(ta, .inr (7, [.ref tb, .int (nI L)])), (tb, .inl (cB, 9000, .inl ft))] H := hP
  have hD : va_D A [(ta, .inr (7, [.ref tb, .int (nI L)])), (tb, .inl (cB, 9000, .inl ft))] := hD
  refine lv_istore_n (lv' := [(1, .int r_4), (0, .ref ta)]) hx hb dX4_wrongSong_7 rfl hl (by decide) rfl (fun ls hl => ?_)
  refine lv_iload_n hx hb dX4_wrongSong_8 rfl (lv_at hl 0 rfl) ?_
  refine lv_iconst (v := 1) hx hb dX4_wrongSong_9 (by decide) ?_
  refine lv_icmp_lt (tgt := 20) hx hb dX4_wrongSong_10 (by decide) (fun c_10 => ?_) (fun c_10 => ?_)
  · refine lv_sipush (v := 950) hx hb dX4_wrongSong_20 (by decide) ?_
    have hP9 := hP
    have hD9 := hD
    have hK9 := hK.sub (tys' := []) [] rfl
    exact W.iret (v := 950) hx hb hr (fun t ht hW => ⟨⟨950, _, rfl, rfl, by rw [ht]; exact hP9, va_K.moved hW.alike hK9, hD9⟩, hS.F ht⟩) hS.2.2 dX4_wrongSong_23
  refine lv_iload_n hx hb dX4_wrongSong_13 rfl (lv_at hl 0 rfl) ?_
  refine lv_sipush (v := 128) hx hb dX4_wrongSong_14 (by decide) ?_
  refine lv_icmp_le (tgt := 24) hx hb dX4_wrongSong_17 (by decide) (fun c_17 => ?_) (fun c_17 => ?_)
  · refine lv_iconst (v := 0) hx hb dX4_wrongSong_24 (by decide) ?_
    refine lv_istore_n (lv' := [(2, .int 0), (1, .int r_4), (0, .ref ta)]) hx hb dX4_wrongSong_25 rfl hl (by decide) rfl (fun ls hl => ?_)
    obtain ⟨hTz, ehTz⟩ : ∃ xx : Nat, xx = (r_4).toInt.toNat := ⟨_, rfl⟩
    have LP26 : ∀ (fu26 : Nat) (q26 : Nat) (hq26 : q26 < 2147483648) (hm26 : hTz - q26 < fu26) (H : Heap) (locs : List Loc), va_P (dC, dI) vwCl [(ta, .inr (7, [.ref tb, .int (nI L)])), (tb, .inl (cB, 9000, .inl ft))] H → va_D A [(ta, .inr (7, [.ref tb, .int (nI L)])), (tb, .inl (cB, 9000, .inl ft))] → va_S A s.heap H locs → ∀ ls : Array Slot, lv_has ls 3 [(2, .int (nI q26)), (1, .int r_4), (0, .ref ta)] → W p l e ({ frames := 2, cells := 0, slots := 0, locals := 42 }) s m ([.ref ta] : List Value).toArray below meth c H locs (0) (0) (MQ below (va_Qi (fun (r : Int32) (u : va_W × gT) => u = ([(ta, .inr (7, [.ref tb, .int (nI L)])), (tb, .inl (cB, 9000, .inl ft))], [])) (gB (dC, dI) A) A) ([.ref ta] : List Value).toArray s 0 0 A) (F0 m 26 ls []) := by
      intro fu26
      induction fu26 with
      | zero => intro q26 hq26 hm26; exact absurd hm26 (Nat.not_lt_zero _)
      | succ fu26 ih26 =>
        intro q26 hq26 hm26 H locs hP hD hS ls hl
        refine lv_iload_n hx hb dX4_wrongSong_26 rfl (lv_at hl 0 rfl) ?_
        refine lv_iload_n hx hb dX4_wrongSong_27 rfl (lv_at hl 1 rfl) ?_
        refine lv_icmp_ge (tgt := 57) hx hb dX4_wrongSong_28 (by decide) (fun c_28 => ?_) (fun c_28 => ?_)
        · refine lv_iconst (v := (-1)) hx hb dX4_wrongSong_57 (by decide) ?_
          have hP9 := hP
          have hD9 := hD
          have hK9 := hK.sub (tys' := []) [] rfl
          exact W.iret (v := (-1)) hx hb hr (fun t ht hW => ⟨⟨(-1), _, rfl, rfl, by rw [ht]; exact hP9, va_K.moved hW.alike hK9, hD9⟩, hS.F ht⟩) hS.2.2 dX4_wrongSong_58
        refine lv_aload_n hx hb dX4_wrongSong_31 rfl (lv_at hl 2 rfl) ?_
        refine lv_sipush (v := 952) hx hb dX4_wrongSong_32 (by decide) ?_
        refine lv_iload_n hx hb dX4_wrongSong_35 rfl (lv_at hl 0 rfl) ?_
        refine lv_iadd hx hb dX4_wrongSong_36 ?_
        refine lv_topi (fun tv_36 etv_36 => ?_)
        refine g_calli (wr := []) (va_runV (As := [.int tv_36]) (rest := []) ⟨hx, hb, hml, hown, hts⟩ (k_at l dC dI H.size ta tb cB ft L tv_36 (hL)) (cwV 1 hts (gG_V kw_295 kw_296 kw_297 kw_18 kw_298) rfl rfl rfl (by decide +kernel) ⟨Nat.le_of_ble_eq_true rfl, Nat.le_of_ble_eq_true rfl⟩) (g_preV (C := RX7) (T := TX7) (N := 2) hP hD hK hS hA hN hZ (q0 := 0) rfl rfl [0, 1] (by decide) rfl [0] rfl) rfl rfl hl.1 rfl (lv_room (Nat.le_of_ble_eq_true rfl)) dX4_wrongSong_37 ⟨Nat.le_of_ble_eq_true rfl, Nat.le_of_ble_eq_true rfl⟩) hP hD hK hS hA [0, 1] [] rfl rfl (by decide) (by decide) (fun r_37 w ty1 H locs hw_37 hP hD _ hS => ?_)
        have hu := hw_37
        cases hu
        have hP : va_P (dC, dI) vwCl [(ta, .inr (7, [.ref tb, .int (nI L)])), (tb, .inl (cB, 9000, .inl ft))] H := hP
        have hD : va_D A [(ta, .inr (7, [.ref tb, .int (nI L)])), (tb, .inl (cB, 9000, .inl ft))] := hD
        refine lv_bipush (v := 8) hx hb dX4_wrongSong_40 (by decide) ?_
        refine lv_icmp_lt (tgt := 51) hx hb dX4_wrongSong_42 (by decide) (fun c_42 => ?_) (fun c_42 => ?_)
        · refine lv_iinc (v := nI (q26 + 1)) (lv' := [(2, .int (nI (q26 + 1))), (1, .int r_4), (0, .ref ta)]) hx hb dX4_wrongSong_51 hl (k := 0) rfl (nI_1 q26) (by decide) rfl (fun ls hl => ?_)
          refine lv_goto (tgt := 26) hx hb dX4_wrongSong_54 (by decide) ?_
          exact ih26 (q26 + 1) (by have := ht_lt ehTz c_28 hq26; omega) (by have := ht_lt ehTz c_28 hq26; omega) _ _ (hP.sub [0, 1] rfl) (hD.sub [0, 1] (by decide) rfl) hS _ (lv_sub hl [0, 1, 2] rfl)
        refine lv_sipush (v := 952) hx hb dX4_wrongSong_45 (by decide) ?_
        refine lv_iload_n hx hb dX4_wrongSong_48 rfl (lv_at hl 0 rfl) ?_
        refine lv_iadd hx hb dX4_wrongSong_49 ?_
        refine lv_topi (fun tv_49 etv_49 => ?_)
        have hP9 := hP
        have hD9 := hD
        have hK9 := hK.sub (tys' := []) [] rfl
        exact W.iret (v := tv_49) hx hb hr (fun t ht hW => ⟨⟨tv_49, _, rfl, rfl, by rw [ht]; exact hP9, va_K.moved hW.alike hK9, hD9⟩, hS.F ht⟩) hS.2.2 dX4_wrongSong_50
    exact LP26 _ 0 (by decide) (Nat.lt_succ_self _) _ _ (hP.sub [0, 1] rfl) (hD.sub [0, 1] (by decide) rfl) hS _ (lv_sub hl [0, 1, 2] rfl)
  refine lv_sipush (v := 950) hx hb dX4_wrongSong_20 (by decide) ?_
  have hP9 := hP
  have hD9 := hD
  have hK9 := hK.sub (tys' := []) [] rfl
  exact W.iret (v := 950) hx hb hr (fun t ht hW => ⟨⟨950, _, rfl, rfl, by rw [ht]; exact hP9, va_K.moved hW.alike hK9, hD9⟩, hS.F ht⟩) hS.2.2 dX4_wrongSong_23

set_option maxHeartbeats 400000 in
set_option maxRecDepth 100000 in
theorem k_bytesNeeded (l : Launch) (dC : Nat → ClassId) (dI : Nat → Nat → Nat) (sz : Nat) (ta tb : Nat) (cB : ClassId) (ft : Nat → Int32) (L : Nat) (hL : L ≤ 9000) : Met l yX4_bytesNeeded (wsG (.code yX4_bytesNeeded cX4_bytesNeeded 5 (some .int))) ({ frames := 3, cells := 0, slots := 0, locals := 63 }) (va_Pc [.ref ta] (gP (dC, dI) [(cB, .byte)] [(ta, .inr (7, [.ref tb, .int (nI L)])), (tb, .inl (cB, 9000, .inl ft))] sz)) (va_Qi (fun (r : Int32) (u : va_W × gT) => u = ([(ta, .inr (7, [.ref tb, .int (nI L)])), (tb, .inl (cB, 9000, .inl ft))], [])) (gB (dC, dI) (va_A [(ta, .inr (7, [.ref tb, .int (nI L)])), (tb, .inl (cB, 9000, .inl ft))] sz)) (va_A [(ta, .inr (7, [.ref tb, .int (nI L)])), (tb, .inl (cB, 9000, .inl ft))] sz)) 0 0 (va_A [(ta, .inr (7, [.ref tb, .int (nI L)])), (tb, .inl (cB, 9000, .inl ft))] sz) := by
  refine Met.ofW (cc := cX4_bytesNeeded) (maxL := 5) (ret := (some .int)) (by decide) rfl ?_
  intro p e s m args below meth c s₁ B hml hv
  obtain ⟨rfl, hsz, hP, hK, hD0, hN, hZ⟩ := hv
  have hx := B.exec
  have hb := B.bytes
  have hr := B.returns
  have hts := atoms_spec (ws := (wsG (.code yX4_bytesNeeded cX4_bytesNeeded 5 (some .int)))) B.pre
  have hown : s.vm.findClass RX4 = some m.cls := findClass_of_methodNamed B.named
  have hlocks := B.notSynchronized
  subst hsz
  have hD := hD0.self (sz := s.heap.size)
  generalize hAe : va_A [(ta, .inr (7, [.ref tb, .int (nI L)])), (tb, .inl (cB, 9000, .inl ft))] s.heap.size = A at hD hZ ⊢
  have hA : ∀ q : Nat, s.heap.size ≤ q → A q := fun q h => by rw [← hAe]; exact Or.inr h
  have hl := lv_entry ([.ref ta]) (n := 5) (Nat.le_of_ble_eq_true rfl)
  rw [lg_entry_eq]
  generalize (lg_sl ([.ref ta]) ++ List.replicate (5 - (lg_sl ([.ref ta])).length) Slot.unset).toArray = ls at hl ⊢
  have hl : lv_has ls 5 [(0, .ref ta)] := hl
  refine g_start (A := A) hP (fun H locs hP hS => ?_)
  refine lv_aload_n hx hb dX4_bytesNeeded_0 rfl (lv_at hl 0 rfl) ?_
  refine lv_sipush (v := 950) hx hb dX4_bytesNeeded_1 (by decide) ?_
  refine g_calli (wr := []) (va_runV (As := [.int 950]) (rest := []) ⟨hx, hb, hml, hown, hts⟩ (k_at l dC dI H.size ta tb cB ft L 950 (hL)) (cwV 1 hts (gG_V kw_295 kw_296 kw_297 kw_18 kw_298) rfl rfl rfl (by decide +kernel) ⟨Nat.le_of_ble_eq_true rfl, Nat.le_of_ble_eq_true rfl⟩) (g_preV (C := RX7) (T := TX7) (N := 2) hP hD hK hS hA hN hZ (q0 := 0) rfl rfl [0, 1] (by decide) rfl [0] rfl) rfl rfl hl.1 rfl (lv_room (Nat.le_of_ble_eq_true rfl)) dX4_bytesNeeded_4 ⟨Nat.le_of_ble_eq_true rfl, Nat.le_of_ble_eq_true rfl⟩) hP hD hK hS hA [0, 1] [] rfl rfl (by decide) (by decide) (fun r_4 w ty1 H locs hw_4 hP hD _ hS => ?_)
  have hu := hw_4
  cases hu
  have hP : va_P (dC, dI) vwCl [(ta, .inr (7, [.ref tb, .int (nI L)])), (tb, .inl (cB, 9000, .inl ft))] H := hP
  have hD : va_D A [(ta, .inr (7, [.ref tb, .int (nI L)])), (tb, .inl (cB, 9000, .inl ft))] := hD
  refine lv_istore_n (lv' := [(1, .int r_4), (0, .ref ta)]) hx hb dX4_bytesNeeded_7 rfl hl (by decide) rfl (fun ls hl => ?_)
  refine lv_iconst (v := 0) hx hb dX4_bytesNeeded_8 (by decide) ?_
  refine lv_istore_n (lv' := [(2, .int 0), (1, .int r_4), (0, .ref ta)]) hx hb dX4_bytesNeeded_9 rfl hl (by decide) rfl (fun ls hl => ?_)
  refine lv_iconst (v := 0) hx hb dX4_bytesNeeded_10 (by decide) ?_
  refine lv_istore_n (lv' := [(3, .int 0), (2, .int 0), (1, .int r_4), (0, .ref ta)]) hx hb dX4_bytesNeeded_11 rfl hl (by decide) rfl (fun ls hl => ?_)
  have LP12 : ∀ (fu12 : Nat) (q12 : Nat) (gr : Int32) (hq12 : q12 ≤ 128) (hm12 : 128 - q12 < fu12) (H : Heap) (locs : List Loc), va_P (dC, dI) vwCl [(ta, .inr (7, [.ref tb, .int (nI L)])), (tb, .inl (cB, 9000, .inl ft))] H → va_D A [(ta, .inr (7, [.ref tb, .int (nI L)])), (tb, .inl (cB, 9000, .inl ft))] → va_S A s.heap H locs → ∀ ls : Array Slot, lv_has ls 5 [(3, .int (nI q12)), (2, .int gr), (1, .int r_4), (0, .ref ta)] → W p l e ({ frames := 3, cells := 0, slots := 0, locals := 63 }) s m ([.ref ta] : List Value).toArray below meth c H locs (0) (0) (MQ below (va_Qi (fun (r : Int32) (u : va_W × gT) => u = ([(ta, .inr (7, [.ref tb, .int (nI L)])), (tb, .inl (cB, 9000, .inl ft))], [])) (gB (dC, dI) A) A) ([.ref ta] : List Value).toArray s 0 0 A) (F0 m 12 ls []) := by
    intro fu12
    induction fu12 with
    | zero => intro q12 gr hq12 hm12; exact absurd hm12 (Nat.not_lt_zero _)
    | succ fu12 ih12 =>
      intro q12 gr hq12 hm12 H locs hP hD hS ls hl
      refine lv_iload_n hx hb dX4_bytesNeeded_12 rfl (lv_at hl 0 rfl) ?_
      refine lv_iload_n hx hb dX4_bytesNeeded_13 rfl (lv_at hl 2 rfl) ?_
      refine lv_icmp_ge (tgt := 44) hx hb dX4_bytesNeeded_14 (by decide) (fun c_14 => ?_) (fun c_14 => ?_)
      · refine lv_iload_n hx hb dX4_bytesNeeded_44 rfl (lv_at hl 1 rfl) ?_
        refine lv_iconst (v := 1) hx hb dX4_bytesNeeded_45 (by decide) ?_
        refine lv_iadd hx hb dX4_bytesNeeded_46 ?_
        refine lv_topi (fun tv_46 etv_46 => ?_)
        refine g_calli (wr := [(ta, .inr (7, [.ref tb, .int (nI L)])), (tb, .inl (cB, 9000, .inl ft))]) (va_runS (As := [.int tv_46]) (rest := []) ⟨hx, hb, hml, hown, hts⟩ (k_patEnd l dC dI H.size tv_46 ) (va_cwS 1 hts (gG_S kw_330 kw_331 kw_30 kw_332) rfl rfl rfl (by decide +kernel) ⟨Nat.le_of_ble_eq_true rfl, Nat.le_of_ble_eq_true rfl⟩) (g_preS hP hD hK hS hA hN hZ [] (by decide) rfl [] rfl) rfl rfl hl.1 rfl (lv_room (Nat.le_of_ble_eq_true rfl)) dX4_bytesNeeded_47 ⟨Nat.le_of_ble_eq_true rfl, Nat.le_of_ble_eq_true rfl⟩) hP hD hK hS hA [] [0, 1] rfl rfl (by decide) (by decide) (fun r_47 w ty1 H locs hw_47 hP hD _ hS => ?_)
        have hu := hw_47
        cases hu
        have hP : va_P (dC, dI) vwCl [(ta, .inr (7, [.ref tb, .int (nI L)])), (tb, .inl (cB, 9000, .inl ft))] H := hP
        have hD : va_D A [(ta, .inr (7, [.ref tb, .int (nI L)])), (tb, .inl (cB, 9000, .inl ft))] := hD
        refine lv_istore_n (lv' := [(3, .int r_47), (2, .int gr), (1, .int r_4), (0, .ref ta)]) hx hb dX4_bytesNeeded_50 rfl hl (by decide) rfl (fun ls hl => ?_)
        refine lv_iconst (v := 1) hx hb dX4_bytesNeeded_51 (by decide) ?_
        refine lv_istore (lv' := [(4, .int 1), (3, .int r_47), (2, .int gr), (1, .int r_4), (0, .ref ta)]) hx hb dX4_bytesNeeded_52 hl (by decide) rfl (fun ls hl => ?_)
        have LP54 : ∀ (fu54 : Nat) (q54 : Nat) (ne_ : Int32) (hq54a : 1 ≤ q54) (hq54 : q54 ≤ 32) (hm54 : 32 - q54 < fu54) (H : Heap) (locs : List Loc), va_P (dC, dI) vwCl [(ta, .inr (7, [.ref tb, .int (nI L)])), (tb, .inl (cB, 9000, .inl ft))] H → va_D A [(ta, .inr (7, [.ref tb, .int (nI L)])), (tb, .inl (cB, 9000, .inl ft))] → va_S A s.heap H locs → ∀ ls : Array Slot, lv_has ls 5 [(4, .int (nI q54)), (3, .int ne_), (0, .ref ta)] → W p l e ({ frames := 3, cells := 0, slots := 0, locals := 63 }) s m ([.ref ta] : List Value).toArray below meth c H locs (0) (0) (MQ below (va_Qi (fun (r : Int32) (u : va_W × gT) => u = ([(ta, .inr (7, [.ref tb, .int (nI L)])), (tb, .inl (cB, 9000, .inl ft))], [])) (gB (dC, dI) A) A) ([.ref ta] : List Value).toArray s 0 0 A) (F0 m 54 ls []) := by
          intro fu54
          induction fu54 with
          | zero => intro q54 ne_ hq54a hq54 hm54; exact absurd hm54 (Nat.not_lt_zero _)
          | succ fu54 ih54 =>
            intro q54 ne_ hq54a hq54 hm54 H locs hP hD hS ls hl
            refine lv_iload hx hb dX4_bytesNeeded_54 (lv_at hl 0 rfl) ?_
            refine lv_bipush (v := 31) hx hb dX4_bytesNeeded_56 (by decide) ?_
            refine lv_icmp_gt (tgt := 84) hx hb dX4_bytesNeeded_58 (by decide) (fun c_58 => ?_) (fun c_58 => ?_)
            · refine lv_iload_n hx hb dX4_bytesNeeded_84 rfl (lv_at hl 1 rfl) ?_
              have hP9 := hP
              have hD9 := hD
              have hK9 := hK.sub (tys' := []) [] rfl
              exact W.iret (v := ne_) hx hb hr (fun t ht hW => ⟨⟨ne_, _, rfl, rfl, by rw [ht]; exact hP9, va_K.moved hW.alike hK9, hD9⟩, hS.F ht⟩) hS.2.2 dX4_bytesNeeded_85
            refine lv_iload_n hx hb dX4_bytesNeeded_61 rfl (lv_at hl 1 rfl) ?_
            refine lv_iconst (v := 2) hx hb dX4_bytesNeeded_62 (by decide) ?_
            refine lv_aload_n hx hb dX4_bytesNeeded_63 rfl (lv_at hl 2 rfl) ?_
            refine lv_iload hx hb dX4_bytesNeeded_64 (lv_at hl 0 rfl) ?_
            refine g_calli (wr := [(ta, .inr (7, [.ref tb, .int (nI L)])), (tb, .inl (cB, 9000, .inl ft))]) (va_runS (As := [.int (nI q54)]) (rest := [.ref ta, .int 2, .int ne_]) ⟨hx, hb, hml, hown, hts⟩ (c_sampleAt l dC dI H.size q54 (hq54a)) (va_cwS 1 hts (gG_S kw_306 kw_307 kw_30 kw_308) rfl rfl rfl (by decide +kernel) ⟨Nat.le_of_ble_eq_true rfl, Nat.le_of_ble_eq_true rfl⟩) (g_preS hP hD hK hS hA hN hZ [] (by decide) rfl [] rfl) rfl rfl hl.1 rfl (lv_room (Nat.le_of_ble_eq_true rfl)) dX4_bytesNeeded_66 ⟨Nat.le_of_ble_eq_true rfl, Nat.le_of_ble_eq_true rfl⟩) hP hD hK hS hA [] [0, 1] rfl rfl (by decide) (by decide) (fun r_66 w ty1 H locs hw_66 hP hD _ hS => ?_)
            rcases hw_66 with ⟨hu, hr_66⟩
            cases hu
            have hP : va_P (dC, dI) vwCl [(ta, .inr (7, [.ref tb, .int (nI L)])), (tb, .inl (cB, 9000, .inl ft))] H := hP
            have hD : va_D A [(ta, .inr (7, [.ref tb, .int (nI L)])), (tb, .inl (cB, 9000, .inl ft))] := hD
            refine g_topi (y := nI (20 + 30 * (q54 - 1))) hr_66 ?_
            refine lv_bipush (v := 22) hx hb dX4_bytesNeeded_69 (by decide) ?_
            refine lv_iadd hx hb dX4_bytesNeeded_71 ?_
            refine lv_topi (fun tv_71 etv_71 => ?_)
            refine g_calli (wr := []) (va_runV (As := [.int tv_71]) (rest := [.int 2, .int ne_]) ⟨hx, hb, hml, hown, hts⟩ (k_pairAt l dC dI H.size ta tb cB ft L tv_71 (hL)) (cwV 1 hts (gG_V kw_309 kw_310 kw_311 kw_18 kw_312) rfl rfl rfl (by decide +kernel) ⟨Nat.le_of_ble_eq_true rfl, Nat.le_of_ble_eq_true rfl⟩) (g_preV (C := RX7) (T := TX7) (N := 2) hP hD hK hS hA hN hZ (q0 := 0) rfl rfl [0, 1] (by decide) rfl [0] rfl) rfl rfl hl.1 rfl (lv_room (Nat.le_of_ble_eq_true rfl)) dX4_bytesNeeded_72 ⟨Nat.le_of_ble_eq_true rfl, Nat.le_of_ble_eq_true rfl⟩) hP hD hK hS hA [0, 1] [] rfl rfl (by decide) (by decide) (fun r_72 w ty1 H locs hw_72 hP hD _ hS => ?_)
            have hu := hw_72
            cases hu
            have hP : va_P (dC, dI) vwCl [(ta, .inr (7, [.ref tb, .int (nI L)])), (tb, .inl (cB, 9000, .inl ft))] H := hP
            have hD : va_D A [(ta, .inr (7, [.ref tb, .int (nI L)])), (tb, .inl (cB, 9000, .inl ft))] := hD
            refine lv_imul hx hb dX4_bytesNeeded_75 ?_
            refine lv_topi (fun tv_75 etv_75 => ?_)
            refine lv_iadd hx hb dX4_bytesNeeded_76 ?_
            refine lv_topi (fun tv_76 etv_76 => ?_)
            refine lv_istore_n (lv' := [(3, .int tv_76), (4, .int (nI q54)), (0, .ref ta)]) hx hb dX4_bytesNeeded_77 rfl hl (by decide) rfl (fun ls hl => ?_)
            refine lv_iinc (v := nI (q54 + 1)) (lv' := [(4, .int (nI (q54 + 1))), (3, .int tv_76), (0, .ref ta)]) hx hb dX4_bytesNeeded_78 hl (k := 1) rfl (nI_1 q54) (by decide) rfl (fun ls hl => ?_)
            refine lv_goto (tgt := 54) hx hb dX4_bytesNeeded_81 (by decide) ?_
            exact ih54 (q54 + 1) tv_76 (by omega) (by have := nI_nlt2 (a := 31) c_58 (by omega); omega) (by have := nI_nlt2 (a := 31) c_58 (by omega); omega) _ _ (hP.sub [0, 1] rfl) (hD.sub [0, 1] (by decide) rfl) hS _ (lv_sub hl [0, 1, 2] rfl)
        exact LP54 _ 1 r_47 (by decide) (by decide) (Nat.lt_succ_self _) _ _ (hP.sub [0, 1] rfl) (hD.sub [0, 1] (by decide) rfl) hS _ (lv_sub hl [0, 1, 4] rfl)
      refine lv_iload_n hx hb dX4_bytesNeeded_17 rfl (lv_at hl 0 rfl) ?_
      refine lv_sipush (v := 128) hx hb dX4_bytesNeeded_18 (by decide) ?_
      refine lv_icmp_ge (tgt := 44) hx hb dX4_bytesNeeded_21 (by decide) (fun c_21 => ?_) (fun c_21 => ?_)
      · refine lv_iload_n hx hb dX4_bytesNeeded_44 rfl (lv_at hl 1 rfl) ?_
        refine lv_iconst (v := 1) hx hb dX4_bytesNeeded_45 (by decide) ?_
        refine lv_iadd hx hb dX4_bytesNeeded_46 ?_
        refine lv_topi (fun tv_46 etv_46 => ?_)
        refine g_calli (wr := [(ta, .inr (7, [.ref tb, .int (nI L)])), (tb, .inl (cB, 9000, .inl ft))]) (va_runS (As := [.int tv_46]) (rest := []) ⟨hx, hb, hml, hown, hts⟩ (k_patEnd l dC dI H.size tv_46 ) (va_cwS 1 hts (gG_S kw_330 kw_331 kw_30 kw_332) rfl rfl rfl (by decide +kernel) ⟨Nat.le_of_ble_eq_true rfl, Nat.le_of_ble_eq_true rfl⟩) (g_preS hP hD hK hS hA hN hZ [] (by decide) rfl [] rfl) rfl rfl hl.1 rfl (lv_room (Nat.le_of_ble_eq_true rfl)) dX4_bytesNeeded_47 ⟨Nat.le_of_ble_eq_true rfl, Nat.le_of_ble_eq_true rfl⟩) hP hD hK hS hA [] [0, 1] rfl rfl (by decide) (by decide) (fun r_47 w ty1 H locs hw_47 hP hD _ hS => ?_)
        have hu := hw_47
        cases hu
        have hP : va_P (dC, dI) vwCl [(ta, .inr (7, [.ref tb, .int (nI L)])), (tb, .inl (cB, 9000, .inl ft))] H := hP
        have hD : va_D A [(ta, .inr (7, [.ref tb, .int (nI L)])), (tb, .inl (cB, 9000, .inl ft))] := hD
        refine lv_istore_n (lv' := [(3, .int r_47), (2, .int gr), (1, .int r_4), (0, .ref ta)]) hx hb dX4_bytesNeeded_50 rfl hl (by decide) rfl (fun ls hl => ?_)
        refine lv_iconst (v := 1) hx hb dX4_bytesNeeded_51 (by decide) ?_
        refine lv_istore (lv' := [(4, .int 1), (3, .int r_47), (2, .int gr), (1, .int r_4), (0, .ref ta)]) hx hb dX4_bytesNeeded_52 hl (by decide) rfl (fun ls hl => ?_)
        have LP54 : ∀ (fu54 : Nat) (q54 : Nat) (ne_ : Int32) (hq54a : 1 ≤ q54) (hq54 : q54 ≤ 32) (hm54 : 32 - q54 < fu54) (H : Heap) (locs : List Loc), va_P (dC, dI) vwCl [(ta, .inr (7, [.ref tb, .int (nI L)])), (tb, .inl (cB, 9000, .inl ft))] H → va_D A [(ta, .inr (7, [.ref tb, .int (nI L)])), (tb, .inl (cB, 9000, .inl ft))] → va_S A s.heap H locs → ∀ ls : Array Slot, lv_has ls 5 [(4, .int (nI q54)), (3, .int ne_), (0, .ref ta)] → W p l e ({ frames := 3, cells := 0, slots := 0, locals := 63 }) s m ([.ref ta] : List Value).toArray below meth c H locs (0) (0) (MQ below (va_Qi (fun (r : Int32) (u : va_W × gT) => u = ([(ta, .inr (7, [.ref tb, .int (nI L)])), (tb, .inl (cB, 9000, .inl ft))], [])) (gB (dC, dI) A) A) ([.ref ta] : List Value).toArray s 0 0 A) (F0 m 54 ls []) := by
          intro fu54
          induction fu54 with
          | zero => intro q54 ne_ hq54a hq54 hm54; exact absurd hm54 (Nat.not_lt_zero _)
          | succ fu54 ih54 =>
            intro q54 ne_ hq54a hq54 hm54 H locs hP hD hS ls hl
            refine lv_iload hx hb dX4_bytesNeeded_54 (lv_at hl 0 rfl) ?_
            refine lv_bipush (v := 31) hx hb dX4_bytesNeeded_56 (by decide) ?_
            refine lv_icmp_gt (tgt := 84) hx hb dX4_bytesNeeded_58 (by decide) (fun c_58 => ?_) (fun c_58 => ?_)
            · refine lv_iload_n hx hb dX4_bytesNeeded_84 rfl (lv_at hl 1 rfl) ?_
              have hP9 := hP
              have hD9 := hD
              have hK9 := hK.sub (tys' := []) [] rfl
              exact W.iret (v := ne_) hx hb hr (fun t ht hW => ⟨⟨ne_, _, rfl, rfl, by rw [ht]; exact hP9, va_K.moved hW.alike hK9, hD9⟩, hS.F ht⟩) hS.2.2 dX4_bytesNeeded_85
            refine lv_iload_n hx hb dX4_bytesNeeded_61 rfl (lv_at hl 1 rfl) ?_
            refine lv_iconst (v := 2) hx hb dX4_bytesNeeded_62 (by decide) ?_
            refine lv_aload_n hx hb dX4_bytesNeeded_63 rfl (lv_at hl 2 rfl) ?_
            refine lv_iload hx hb dX4_bytesNeeded_64 (lv_at hl 0 rfl) ?_
            refine g_calli (wr := [(ta, .inr (7, [.ref tb, .int (nI L)])), (tb, .inl (cB, 9000, .inl ft))]) (va_runS (As := [.int (nI q54)]) (rest := [.ref ta, .int 2, .int ne_]) ⟨hx, hb, hml, hown, hts⟩ (c_sampleAt l dC dI H.size q54 (hq54a)) (va_cwS 1 hts (gG_S kw_306 kw_307 kw_30 kw_308) rfl rfl rfl (by decide +kernel) ⟨Nat.le_of_ble_eq_true rfl, Nat.le_of_ble_eq_true rfl⟩) (g_preS hP hD hK hS hA hN hZ [] (by decide) rfl [] rfl) rfl rfl hl.1 rfl (lv_room (Nat.le_of_ble_eq_true rfl)) dX4_bytesNeeded_66 ⟨Nat.le_of_ble_eq_true rfl, Nat.le_of_ble_eq_true rfl⟩) hP hD hK hS hA [] [0, 1] rfl rfl (by decide) (by decide) (fun r_66 w ty1 H locs hw_66 hP hD _ hS => ?_)
            rcases hw_66 with ⟨hu, hr_66⟩
            cases hu
            have hP : va_P (dC, dI) vwCl [(ta, .inr (7, [.ref tb, .int (nI L)])), (tb, .inl (cB, 9000, .inl ft))] H := hP
            have hD : va_D A [(ta, .inr (7, [.ref tb, .int (nI L)])), (tb, .inl (cB, 9000, .inl ft))] := hD
            refine g_topi (y := nI (20 + 30 * (q54 - 1))) hr_66 ?_
            refine lv_bipush (v := 22) hx hb dX4_bytesNeeded_69 (by decide) ?_
            refine lv_iadd hx hb dX4_bytesNeeded_71 ?_
            refine lv_topi (fun tv_71 etv_71 => ?_)
            refine g_calli (wr := []) (va_runV (As := [.int tv_71]) (rest := [.int 2, .int ne_]) ⟨hx, hb, hml, hown, hts⟩ (k_pairAt l dC dI H.size ta tb cB ft L tv_71 (hL)) (cwV 1 hts (gG_V kw_309 kw_310 kw_311 kw_18 kw_312) rfl rfl rfl (by decide +kernel) ⟨Nat.le_of_ble_eq_true rfl, Nat.le_of_ble_eq_true rfl⟩) (g_preV (C := RX7) (T := TX7) (N := 2) hP hD hK hS hA hN hZ (q0 := 0) rfl rfl [0, 1] (by decide) rfl [0] rfl) rfl rfl hl.1 rfl (lv_room (Nat.le_of_ble_eq_true rfl)) dX4_bytesNeeded_72 ⟨Nat.le_of_ble_eq_true rfl, Nat.le_of_ble_eq_true rfl⟩) hP hD hK hS hA [0, 1] [] rfl rfl (by decide) (by decide) (fun r_72 w ty1 H locs hw_72 hP hD _ hS => ?_)
            have hu := hw_72
            cases hu
            have hP : va_P (dC, dI) vwCl [(ta, .inr (7, [.ref tb, .int (nI L)])), (tb, .inl (cB, 9000, .inl ft))] H := hP
            have hD : va_D A [(ta, .inr (7, [.ref tb, .int (nI L)])), (tb, .inl (cB, 9000, .inl ft))] := hD
            refine lv_imul hx hb dX4_bytesNeeded_75 ?_
            refine lv_topi (fun tv_75 etv_75 => ?_)
            refine lv_iadd hx hb dX4_bytesNeeded_76 ?_
            refine lv_topi (fun tv_76 etv_76 => ?_)
            refine lv_istore_n (lv' := [(3, .int tv_76), (4, .int (nI q54)), (0, .ref ta)]) hx hb dX4_bytesNeeded_77 rfl hl (by decide) rfl (fun ls hl => ?_)
            refine lv_iinc (v := nI (q54 + 1)) (lv' := [(4, .int (nI (q54 + 1))), (3, .int tv_76), (0, .ref ta)]) hx hb dX4_bytesNeeded_78 hl (k := 1) rfl (nI_1 q54) (by decide) rfl (fun ls hl => ?_)
            refine lv_goto (tgt := 54) hx hb dX4_bytesNeeded_81 (by decide) ?_
            exact ih54 (q54 + 1) tv_76 (by omega) (by have := nI_nlt2 (a := 31) c_58 (by omega); omega) (by have := nI_nlt2 (a := 31) c_58 (by omega); omega) _ _ (hP.sub [0, 1] rfl) (hD.sub [0, 1] (by decide) rfl) hS _ (lv_sub hl [0, 1, 2] rfl)
        exact LP54 _ 1 r_47 (by decide) (by decide) (Nat.lt_succ_self _) _ _ (hP.sub [0, 1] rfl) (hD.sub [0, 1] (by decide) rfl) hS _ (lv_sub hl [0, 1, 4] rfl)
      refine lv_iload_n hx hb dX4_bytesNeeded_24 rfl (lv_at hl 1 rfl) ?_
      refine lv_aload_n hx hb dX4_bytesNeeded_25 rfl (lv_at hl 3 rfl) ?_
      refine lv_sipush (v := 952) hx hb dX4_bytesNeeded_26 (by decide) ?_
      refine lv_iload_n hx hb dX4_bytesNeeded_29 rfl (lv_at hl 0 rfl) ?_
      refine lv_iadd hx hb dX4_bytesNeeded_30 ?_
      refine lv_topi (fun tv_30 etv_30 => ?_)
      refine g_calli (wr := []) (va_runV (As := [.int tv_30]) (rest := [.int gr]) ⟨hx, hb, hml, hown, hts⟩ (k_at l dC dI H.size ta tb cB ft L tv_30 (hL)) (cwV 1 hts (gG_V kw_295 kw_296 kw_297 kw_18 kw_298) rfl rfl rfl (by decide +kernel) ⟨Nat.le_of_ble_eq_true rfl, Nat.le_of_ble_eq_true rfl⟩) (g_preV (C := RX7) (T := TX7) (N := 2) hP hD hK hS hA hN hZ (q0 := 0) rfl rfl [0, 1] (by decide) rfl [0] rfl) rfl rfl hl.1 rfl (lv_room (Nat.le_of_ble_eq_true rfl)) dX4_bytesNeeded_31 ⟨Nat.le_of_ble_eq_true rfl, Nat.le_of_ble_eq_true rfl⟩) hP hD hK hS hA [0, 1] [] rfl rfl (by decide) (by decide) (fun r_31 w ty1 H locs hw_31 hP hD _ hS => ?_)
      have hu := hw_31
      cases hu
      have hP : va_P (dC, dI) vwCl [(ta, .inr (7, [.ref tb, .int (nI L)])), (tb, .inl (cB, 9000, .inl ft))] H := hP
      have hD : va_D A [(ta, .inr (7, [.ref tb, .int (nI L)])), (tb, .inl (cB, 9000, .inl ft))] := hD
      refine va_mmax hx hb (by rw [hml]; exact hl.1.symm) hown (hts (.methodLink RX4 74 Lib.Math.max.name) (List.mem_cons_of_mem _ kw_329)) (hts (.static Lib.Math.max.name) (List.mem_cons_of_mem _ kw_102)) (hts (.initialized "java/lang/Math") (List.mem_cons_of_mem _ kw_103)) (hts (.code Lib.Math.max.name Lib.Math.max.code 2 (some .int)) (List.mem_cons_of_mem _ kw_104)) (Nat.le_of_ble_eq_true rfl) (Nat.le_of_ble_eq_true rfl) (Nat.le_of_ble_eq_true rfl) (Nat.le_of_ble_eq_true rfl) dX4_bytesNeeded_34 ?_
      refine lv_topi (fun tv_34 etv_34 => ?_)
      refine lv_istore_n (lv' := [(2, .int tv_34), (3, .int (nI q12)), (1, .int r_4), (0, .ref ta)]) hx hb dX4_bytesNeeded_37 rfl hl (by decide) rfl (fun ls hl => ?_)
      refine lv_iinc (v := nI (q12 + 1)) (lv' := [(3, .int (nI (q12 + 1))), (2, .int tv_34), (1, .int r_4), (0, .ref ta)]) hx hb dX4_bytesNeeded_38 hl (k := 1) rfl (nI_1 q12) (by decide) rfl (fun ls hl => ?_)
      refine lv_goto (tgt := 12) hx hb dX4_bytesNeeded_41 (by decide) ?_
      exact ih12 (q12 + 1) tv_34 (by have := nI_nle' (a := 128) c_21 (by omega); omega) (by have := nI_nle' (a := 128) c_21 (by omega); omega) _ _ (hP.sub [0, 1] rfl) (hD.sub [0, 1] (by decide) rfl) hS _ (lv_sub hl [0, 1, 2, 3] rfl)
  exact LP12 _ 0 0 (Nat.zero_le _) (Nat.lt_succ_self _) _ _ (hP.sub [0, 1] rfl) (hD.sub [0, 1] (by decide) rfl) hS _ (lv_sub hl [0, 1, 2, 3] rfl)

set_option maxHeartbeats 400000 in
set_option maxRecDepth 100000 in
theorem k_accepts (l : Launch) (dC : Nat → ClassId) (dI : Nat → Nat → Nat) (sz : Nat) (h : Nat) (x0 x1 : Int32) (ta tb : Nat) (cB : ClassId) (ft : Nat → Int32) (L : Nat) (hL : L ≤ 9000) : Met l yX4_accepts (wsG (.code yX4_accepts cX4_accepts 3 (some .boolean))) ({ frames := 4, cells := 0, slots := 0, locals := 89 }) (va_Pc [.ref h, .ref ta] (gP (dC, dI) [(cB, .byte)] [(h, .inr (4, [.int x0, .int x1])), (ta, .inr (7, [.ref tb, .int (nI L)])), (tb, .inl (cB, 9000, .inl ft))] sz)) (va_Qi (fun (r : Int32) (u : va_W × gT) => (u = ([(h, .inr (4, [.int 0, .int (-1)])), (ta, .inr (7, [.ref tb, .int (nI L)])), (tb, .inl (cB, 9000, .inl ft))], []) ∧ r = 1) ∨ (∃ (y0 : Int32) (y1 : Int32), u = ([(h, .inr (4, [.int y0, .int y1])), (ta, .inr (7, [.ref tb, .int (nI L)])), (tb, .inl (cB, 9000, .inl ft))], []) ∧ r = 0)) (gB (dC, dI) (va_A [(h, .inr (4, [.int x0, .int x1])), (ta, .inr (7, [.ref tb, .int (nI L)])), (tb, .inl (cB, 9000, .inl ft))] sz)) (va_A [(h, .inr (4, [.int x0, .int x1])), (ta, .inr (7, [.ref tb, .int (nI L)])), (tb, .inl (cB, 9000, .inl ft))] sz)) 0 0 (va_A [(h, .inr (4, [.int x0, .int x1])), (ta, .inr (7, [.ref tb, .int (nI L)])), (tb, .inl (cB, 9000, .inl ft))] sz) := by
  refine Met.ofW (cc := cX4_accepts) (maxL := 3) (ret := (some .boolean)) (by decide) rfl ?_
  intro p e s m args below meth c s₁ B hml hv
  obtain ⟨rfl, hsz, hP, hK, hD0, hN, hZ⟩ := hv
  have hx := B.exec
  have hb := B.bytes
  have hr := B.returns
  have hts := atoms_spec (ws := (wsG (.code yX4_accepts cX4_accepts 3 (some .boolean)))) B.pre
  have hown : s.vm.findClass RX4 = some m.cls := findClass_of_methodNamed B.named
  have hlocks := B.notSynchronized
  subst hsz
  have hD := hD0.self (sz := s.heap.size)
  generalize hAe : va_A [(h, .inr (4, [.int x0, .int x1])), (ta, .inr (7, [.ref tb, .int (nI L)])), (tb, .inl (cB, 9000, .inl ft))] s.heap.size = A at hD hZ ⊢
  have hA : ∀ q : Nat, s.heap.size ≤ q → A q := fun q h => by rw [← hAe]; exact Or.inr h
  have hl := lv_entry ([.ref h, .ref ta]) (n := 3) (Nat.le_of_ble_eq_true rfl)
  rw [lg_entry_eq]
  generalize (lg_sl ([.ref h, .ref ta]) ++ List.replicate (3 - (lg_sl ([.ref h, .ref ta])).length) Slot.unset).toArray = ls at hl ⊢
  have hl : lv_has ls 3 [(0, .ref h), (1, .ref ta)] := hl
  refine g_start (A := A) hP (fun H locs hP hS => ?_)
  refine lv_aload_n hx hb dX4_accepts_0 rfl (lv_at hl 1 rfl) ?_
  refine va_get (D := (dC, dI)) (ci := 7) (v := .int (nI L)) (C := RX7) (T := TX7) (N := 2) hx hb hts iwX7 hown hK hP 1 rfl rfl 1 (by decide) (hts (.fieldLink RX4 30 "ModulePlayer$Tape" "length" "I") (List.mem_cons_of_mem _ kw_287)) (fun _ h9 => h9) rfl dX4_accepts_1 ?_
  refine lv_sipush (v := 1084) hx hb dX4_accepts_4 (by decide) ?_
  refine lv_icmp_ge (tgt := 20) hx hb dX4_accepts_7 (by decide) (fun c_7 => ?_) (fun c_7 => ?_)
  · refine lv_aload_n hx hb dX4_accepts_20 rfl (lv_at hl 1 rfl) ?_
    refine g_calli (wr := [(h, .inr (4, [.int x0, .int x1]))]) (va_runS (As := [.ref ta]) (rest := []) ⟨hx, hb, hml, hown, hts⟩ (k_wrongMark l dC dI H.size ta tb cB ft L (hL)) (va_cwS 1 hts (gG_S kw_292 kw_293 kw_30 kw_294) rfl rfl rfl (by decide +kernel) ⟨Nat.le_of_ble_eq_true rfl, Nat.le_of_ble_eq_true rfl⟩) (g_preS hP hD hK hS hA hN hZ [1, 2] (by decide) rfl [0] rfl) rfl rfl hl.1 rfl (lv_room (Nat.le_of_ble_eq_true rfl)) dX4_accepts_21 ⟨Nat.le_of_ble_eq_true rfl, Nat.le_of_ble_eq_true rfl⟩) hP hD hK hS hA [1, 2] [0] rfl rfl (by decide) (by decide) (fun r_21 w ty1 H locs hw_21 hP hD _ hS => ?_)
    have hu := hw_21
    cases hu
    have hP : va_P (dC, dI) vwCl [(h, .inr (4, [.int x0, .int x1])), (ta, .inr (7, [.ref tb, .int (nI L)])), (tb, .inl (cB, 9000, .inl ft))] H := hP
    have hD : va_D A [(h, .inr (4, [.int x0, .int x1])), (ta, .inr (7, [.ref tb, .int (nI L)])), (tb, .inl (cB, 9000, .inl ft))] := hD
    refine lv_istore_n (lv' := [(2, .int r_21), (0, .ref h), (1, .ref ta)]) hx hb dX4_accepts_24 rfl hl (by decide) rfl (fun ls hl => ?_)
    refine lv_iload_n hx hb dX4_accepts_25 rfl (lv_at hl 0 rfl) ?_
    refine lv_iconst (v := (-1)) hx hb dX4_accepts_26 (by decide) ?_
    refine lv_icmp_eq (tgt := 37) hx hb dX4_accepts_27 (by decide) (fun c_27 => ?_) (fun c_27 => ?_)
    · refine lv_aload_n hx hb dX4_accepts_37 rfl (lv_at hl 2 rfl) ?_
      refine g_calli (wr := [(h, .inr (4, [.int x0, .int x1]))]) (va_runS (As := [.ref ta]) (rest := []) ⟨hx, hb, hml, hown, hts⟩ (k_wrongSample l dC dI H.size ta tb cB ft L (hL)) (va_cwS 1 hts (gG_S kw_303 kw_304 kw_30 kw_305) rfl rfl rfl (by decide +kernel) ⟨Nat.le_of_ble_eq_true rfl, Nat.le_of_ble_eq_true rfl⟩) (g_preS hP hD hK hS hA hN hZ [1, 2] (by decide) rfl [0] rfl) rfl rfl hl.1 rfl (lv_room (Nat.le_of_ble_eq_true rfl)) dX4_accepts_38 ⟨Nat.le_of_ble_eq_true rfl, Nat.le_of_ble_eq_true rfl⟩) hP hD hK hS hA [1, 2] [0] rfl rfl (by decide) (by decide) (fun r_38 w ty1 H locs hw_38 hP hD _ hS => ?_)
      have hu := hw_38
      cases hu
      have hP : va_P (dC, dI) vwCl [(h, .inr (4, [.int x0, .int x1])), (ta, .inr (7, [.ref tb, .int (nI L)])), (tb, .inl (cB, 9000, .inl ft))] H := hP
      have hD : va_D A [(h, .inr (4, [.int x0, .int x1])), (ta, .inr (7, [.ref tb, .int (nI L)])), (tb, .inl (cB, 9000, .inl ft))] := hD
      refine lv_istore_n (lv' := [(2, .int r_38), (0, .ref h), (1, .ref ta)]) hx hb dX4_accepts_41 rfl hl (by decide) rfl (fun ls hl => ?_)
      refine lv_iload_n hx hb dX4_accepts_42 rfl (lv_at hl 0 rfl) ?_
      refine lv_iconst (v := (-1)) hx hb dX4_accepts_43 (by decide) ?_
      refine lv_icmp_ne (tgt := 52) hx hb dX4_accepts_44 (by decide) (fun c_44 => ?_) (fun c_44 => ?_)
      · refine lv_iload_n hx hb dX4_accepts_52 rfl (lv_at hl 0 rfl) ?_
        refine lv_iconst (v := (-1)) hx hb dX4_accepts_53 (by decide) ?_
        refine lv_icmp_eq (tgt := 64) hx hb dX4_accepts_54 (by decide) (fun c_54 => ?_) (fun c_54 => ?_)
        · refine lv_aload_n hx hb dX4_accepts_64 rfl (lv_at hl 2 rfl) ?_
          refine va_get (D := (dC, dI)) (ci := 7) (v := .int (nI L)) (C := RX7) (T := TX7) (N := 2) hx hb hts iwX7 hown hK hP 1 rfl rfl 1 (by decide) (hts (.fieldLink RX4 30 "ModulePlayer$Tape" "length" "I") (List.mem_cons_of_mem _ kw_287)) (fun _ h9 => h9) rfl dX4_accepts_65 ?_
          refine lv_aload_n hx hb dX4_accepts_68 rfl (lv_at hl 2 rfl) ?_
          refine g_calli (wr := [(h, .inr (4, [.int x0, .int x1]))]) (va_runS (As := [.ref ta]) (rest := [.int (nI L)]) ⟨hx, hb, hml, hown, hts⟩ (k_bytesNeeded l dC dI H.size ta tb cB ft L (hL)) (va_cwS 1 hts (gG_S kw_326 kw_327 kw_30 kw_328) rfl rfl rfl (by decide +kernel) ⟨Nat.le_of_ble_eq_true rfl, Nat.le_of_ble_eq_true rfl⟩) (g_preS hP hD hK hS hA hN hZ [1, 2] (by decide) rfl [0] rfl) rfl rfl hl.1 rfl (lv_room (Nat.le_of_ble_eq_true rfl)) dX4_accepts_69 ⟨Nat.le_of_ble_eq_true rfl, Nat.le_of_ble_eq_true rfl⟩) hP hD hK hS hA [1, 2] [0] rfl rfl (by decide) (by decide) (fun r_69 w ty1 H locs hw_69 hP hD _ hS => ?_)
          have hu := hw_69
          cases hu
          have hP : va_P (dC, dI) vwCl [(h, .inr (4, [.int x0, .int x1])), (ta, .inr (7, [.ref tb, .int (nI L)])), (tb, .inl (cB, 9000, .inl ft))] H := hP
          have hD : va_D A [(h, .inr (4, [.int x0, .int x1])), (ta, .inr (7, [.ref tb, .int (nI L)])), (tb, .inl (cB, 9000, .inl ft))] := hD
          refine lv_icmp_ge (tgt := 85) hx hb dX4_accepts_72 (by decide) (fun c_72 => ?_) (fun c_72 => ?_)
          · refine lv_aload_n hx hb dX4_accepts_85 rfl (lv_at hl 1 rfl) ?_
            refine lv_iconst (v := 0) hx hb dX4_accepts_86 (by decide) ?_
            refine va_put (D := (dC, dI)) (ci := 4) (v := .int 0) (ty := tyX4 0) (C := RX4) (T := TX4) (N := 2) hx hb hts iwX4 tyX4 tyX4_ok nmX4 hown hK hP hD hS 0 rfl rfl 0 (by decide) (hts (.fieldLink RX4 11 "ModulePlayer$Reader" "fault" "I") (List.mem_cons_of_mem _ kw_71)) (fun _ h9 => h9) rfl (by decide +kernel) (rfl) (rfl) (Nat.le_of_ble_eq_true rfl) dX4_accepts_87 (fun H locs hP hD hS => ?_)
            have hP : va_P (dC, dI) vwCl [(h, .inr (4, [.int 0, .int x1])), (ta, .inr (7, [.ref tb, .int (nI L)])), (tb, .inl (cB, 9000, .inl ft))] H := hP
            have hD : va_D A [(h, .inr (4, [.int 0, .int x1])), (ta, .inr (7, [.ref tb, .int (nI L)])), (tb, .inl (cB, 9000, .inl ft))] := hD
            refine lv_aload_n hx hb dX4_accepts_90 rfl (lv_at hl 1 rfl) ?_
            refine lv_iconst (v := (-1)) hx hb dX4_accepts_91 (by decide) ?_
            refine va_put (D := (dC, dI)) (ci := 4) (v := .int (-1)) (ty := tyX4 1) (C := RX4) (T := TX4) (N := 2) hx hb hts iwX4 tyX4 tyX4_ok nmX4 hown hK hP hD hS 0 rfl rfl 1 (by decide) (hts (.fieldLink RX4 15 "ModulePlayer$Reader" "faultPlace" "I") (List.mem_cons_of_mem _ kw_72)) (fun _ h9 => h9) rfl (by decide +kernel) (rfl) (rfl) (Nat.le_of_ble_eq_true rfl) dX4_accepts_92 (fun H locs hP hD hS => ?_)
            have hP : va_P (dC, dI) vwCl [(h, .inr (4, [.int 0, .int (-1)])), (ta, .inr (7, [.ref tb, .int (nI L)])), (tb, .inl (cB, 9000, .inl ft))] H := hP
            have hD : va_D A [(h, .inr (4, [.int 0, .int (-1)])), (ta, .inr (7, [.ref tb, .int (nI L)])), (tb, .inl (cB, 9000, .inl ft))] := hD
            refine lv_iconst (v := 1) hx hb dX4_accepts_95 (by decide) ?_
            have hP9 := hP
            have hD9 := hD
            have hK9 := hK.sub (tys' := []) [] rfl
            exact W.zret (v := 1) hx hb hr (by decide) (fun t ht hW => ⟨⟨1, _, rfl, (Or.inl ⟨rfl, rfl⟩), by rw [ht]; exact hP9, va_K.moved hW.alike hK9, hD9⟩, hS.F ht⟩) hS.2.2 dX4_accepts_96
          refine lv_aload_n hx hb dX4_accepts_75 rfl (lv_at hl 1 rfl) ?_
          refine lv_iconst (v := 4) hx hb dX4_accepts_76 (by decide) ?_
          refine lv_aload_n hx hb dX4_accepts_77 rfl (lv_at hl 2 rfl) ?_
          refine va_get (D := (dC, dI)) (ci := 7) (v := .int (nI L)) (C := RX7) (T := TX7) (N := 2) hx hb hts iwX7 hown hK hP 1 rfl rfl 1 (by decide) (hts (.fieldLink RX4 30 "ModulePlayer$Tape" "length" "I") (List.mem_cons_of_mem _ kw_287)) (fun _ h9 => h9) rfl dX4_accepts_78 ?_
          refine g_calli (wr := [(ta, .inr (7, [.ref tb, .int (nI L)])), (tb, .inl (cB, 9000, .inl ft))]) (va_runV (As := [.int 4, .int (nI L)]) (rest := []) ⟨hx, hb, hml, hown, hts⟩ (c_refuse l dC dI H.size h x0 x1 4 (nI L) ) (cwV 2 hts (gG_V kw_288 kw_289 kw_290 kw_30 kw_291) rfl rfl rfl (by decide +kernel) ⟨Nat.le_of_ble_eq_true rfl, Nat.le_of_ble_eq_true rfl⟩) (g_preV (C := RX4) (T := TX4) (N := 2) hP hD hK hS hA hN hZ (q0 := 0) rfl rfl [0] (by decide) rfl [] rfl) rfl rfl hl.1 rfl (lv_room (Nat.le_of_ble_eq_true rfl)) dX4_accepts_81 ⟨Nat.le_of_ble_eq_true rfl, Nat.le_of_ble_eq_true rfl⟩) hP hD hK hS hA [0] [1, 2] rfl rfl (by decide) (by decide) (fun r_81 w ty1 H locs hw_81 hP hD _ hS => ?_)
          rcases hw_81 with ⟨hu, hr_81⟩
          cases hu
          have hP : va_P (dC, dI) vwCl [(ta, .inr (7, [.ref tb, .int (nI L)])), (tb, .inl (cB, 9000, .inl ft)), (h, .inr (4, [.int 4, .int (nI L)]))] H := hP
          have hD : va_D A [(ta, .inr (7, [.ref tb, .int (nI L)])), (tb, .inl (cB, 9000, .inl ft)), (h, .inr (4, [.int 4, .int (nI L)]))] := hD
          refine g_topi (y := 0) hr_81 ?_
          have hP9 := hP.sub (ws' := [(h, .inr (4, [.int 4, .int (nI L)])), (ta, .inr (7, [.ref tb, .int (nI L)])), (tb, .inl (cB, 9000, .inl ft))]) [2, 0, 1] rfl
          have hD9 := hD.sub (ws' := [(h, .inr (4, [.int 4, .int (nI L)])), (ta, .inr (7, [.ref tb, .int (nI L)])), (tb, .inl (cB, 9000, .inl ft))]) [2, 0, 1] (by decide) rfl
          have hK9 := hK.sub (tys' := []) [] rfl
          exact W.zret (v := 0) hx hb hr (by decide) (fun t ht hW => ⟨⟨0, _, rfl, (Or.inr ⟨4, (nI L), rfl, rfl⟩), by rw [ht]; exact hP9, va_K.moved hW.alike hK9, hD9⟩, hS.F ht⟩) hS.2.2 dX4_accepts_84
        refine lv_aload_n hx hb dX4_accepts_57 rfl (lv_at hl 1 rfl) ?_
        refine lv_iconst (v := 3) hx hb dX4_accepts_58 (by decide) ?_
        refine lv_iload_n hx hb dX4_accepts_59 rfl (lv_at hl 0 rfl) ?_
        refine g_calli (wr := [(ta, .inr (7, [.ref tb, .int (nI L)])), (tb, .inl (cB, 9000, .inl ft))]) (va_runV (As := [.int 3, .int r_38]) (rest := []) ⟨hx, hb, hml, hown, hts⟩ (c_refuse l dC dI H.size h x0 x1 3 r_38 ) (cwV 2 hts (gG_V kw_288 kw_289 kw_290 kw_30 kw_291) rfl rfl rfl (by decide +kernel) ⟨Nat.le_of_ble_eq_true rfl, Nat.le_of_ble_eq_true rfl⟩) (g_preV (C := RX4) (T := TX4) (N := 2) hP hD hK hS hA hN hZ (q0 := 0) rfl rfl [0] (by decide) rfl [] rfl) rfl rfl hl.1 rfl (lv_room (Nat.le_of_ble_eq_true rfl)) dX4_accepts_60 ⟨Nat.le_of_ble_eq_true rfl, Nat.le_of_ble_eq_true rfl⟩) hP hD hK hS hA [0] [1, 2] rfl rfl (by decide) (by decide) (fun r_60 w ty1 H locs hw_60 hP hD _ hS => ?_)
        rcases hw_60 with ⟨hu, hr_60⟩
        cases hu
        have hP : va_P (dC, dI) vwCl [(ta, .inr (7, [.ref tb, .int (nI L)])), (tb, .inl (cB, 9000, .inl ft)), (h, .inr (4, [.int 3, .int r_38]))] H := hP
        have hD : va_D A [(ta, .inr (7, [.ref tb, .int (nI L)])), (tb, .inl (cB, 9000, .inl ft)), (h, .inr (4, [.int 3, .int r_38]))] := hD
        refine g_topi (y := 0) hr_60 ?_
        have hP9 := hP.sub (ws' := [(h, .inr (4, [.int 3, .int r_38])), (ta, .inr (7, [.ref tb, .int (nI L)])), (tb, .inl (cB, 9000, .inl ft))]) [2, 0, 1] rfl
        have hD9 := hD.sub (ws' := [(h, .inr (4, [.int 3, .int r_38])), (ta, .inr (7, [.ref tb, .int (nI L)])), (tb, .inl (cB, 9000, .inl ft))]) [2, 0, 1] (by decide) rfl
        have hK9 := hK.sub (tys' := []) [] rfl
        exact W.zret (v := 0) hx hb hr (by decide) (fun t ht hW => ⟨⟨0, _, rfl, (Or.inr ⟨3, r_38, rfl, rfl⟩), by rw [ht]; exact hP9, va_K.moved hW.alike hK9, hD9⟩, hS.F ht⟩) hS.2.2 dX4_accepts_63
      refine lv_aload_n hx hb dX4_accepts_47 rfl (lv_at hl 2 rfl) ?_
      refine g_calli (wr := [(h, .inr (4, [.int x0, .int x1]))]) (va_runS (As := [.ref ta]) (rest := []) ⟨hx, hb, hml, hown, hts⟩ (k_wrongSong l dC dI H.size ta tb cB ft L (hL)) (va_cwS 1 hts (gG_S kw_323 kw_324 kw_30 kw_325) rfl rfl rfl (by decide +kernel) ⟨Nat.le_of_ble_eq_true rfl, Nat.le_of_ble_eq_true rfl⟩) (g_preS hP hD hK hS hA hN hZ [1, 2] (by decide) rfl [0] rfl) rfl rfl hl.1 rfl (lv_room (Nat.le_of_ble_eq_true rfl)) dX4_accepts_48 ⟨Nat.le_of_ble_eq_true rfl, Nat.le_of_ble_eq_true rfl⟩) hP hD hK hS hA [1, 2] [0] rfl rfl (by decide) (by decide) (fun r_48 w ty1 H locs hw_48 hP hD _ hS => ?_)
      have hu := hw_48
      cases hu
      have hP : va_P (dC, dI) vwCl [(h, .inr (4, [.int x0, .int x1])), (ta, .inr (7, [.ref tb, .int (nI L)])), (tb, .inl (cB, 9000, .inl ft))] H := hP
      have hD : va_D A [(h, .inr (4, [.int x0, .int x1])), (ta, .inr (7, [.ref tb, .int (nI L)])), (tb, .inl (cB, 9000, .inl ft))] := hD
      refine lv_istore_n (lv' := [(2, .int r_48), (0, .ref h), (1, .ref ta)]) hx hb dX4_accepts_51 rfl hl (by decide) rfl (fun ls hl => ?_)
      refine lv_iload_n hx hb dX4_accepts_52 rfl (lv_at hl 0 rfl) ?_
      refine lv_iconst (v := (-1)) hx hb dX4_accepts_53 (by decide) ?_
      refine lv_icmp_eq (tgt := 64) hx hb dX4_accepts_54 (by decide) (fun c_54 => ?_) (fun c_54 => ?_)
      · refine lv_aload_n hx hb dX4_accepts_64 rfl (lv_at hl 2 rfl) ?_
        refine va_get (D := (dC, dI)) (ci := 7) (v := .int (nI L)) (C := RX7) (T := TX7) (N := 2) hx hb hts iwX7 hown hK hP 1 rfl rfl 1 (by decide) (hts (.fieldLink RX4 30 "ModulePlayer$Tape" "length" "I") (List.mem_cons_of_mem _ kw_287)) (fun _ h9 => h9) rfl dX4_accepts_65 ?_
        refine lv_aload_n hx hb dX4_accepts_68 rfl (lv_at hl 2 rfl) ?_
        refine g_calli (wr := [(h, .inr (4, [.int x0, .int x1]))]) (va_runS (As := [.ref ta]) (rest := [.int (nI L)]) ⟨hx, hb, hml, hown, hts⟩ (k_bytesNeeded l dC dI H.size ta tb cB ft L (hL)) (va_cwS 1 hts (gG_S kw_326 kw_327 kw_30 kw_328) rfl rfl rfl (by decide +kernel) ⟨Nat.le_of_ble_eq_true rfl, Nat.le_of_ble_eq_true rfl⟩) (g_preS hP hD hK hS hA hN hZ [1, 2] (by decide) rfl [0] rfl) rfl rfl hl.1 rfl (lv_room (Nat.le_of_ble_eq_true rfl)) dX4_accepts_69 ⟨Nat.le_of_ble_eq_true rfl, Nat.le_of_ble_eq_true rfl⟩) hP hD hK hS hA [1, 2] [0] rfl rfl (by decide) (by decide) (fun r_69 w ty1 H locs hw_69 hP hD _ hS => ?_)
        have hu := hw_69
        cases hu
        have hP : va_P (dC, dI) vwCl [(h, .inr (4, [.int x0, .int x1])), (ta, .inr (7, [.ref tb, .int (nI L)])), (tb, .inl (cB, 9000, .inl ft))] H := hP
        have hD : va_D A [(h, .inr (4, [.int x0, .int x1])), (ta, .inr (7, [.ref tb, .int (nI L)])), (tb, .inl (cB, 9000, .inl ft))] := hD
        refine lv_icmp_ge (tgt := 85) hx hb dX4_accepts_72 (by decide) (fun c_72 => ?_) (fun c_72 => ?_)
        · refine lv_aload_n hx hb dX4_accepts_85 rfl (lv_at hl 1 rfl) ?_
          refine lv_iconst (v := 0) hx hb dX4_accepts_86 (by decide) ?_
          refine va_put (D := (dC, dI)) (ci := 4) (v := .int 0) (ty := tyX4 0) (C := RX4) (T := TX4) (N := 2) hx hb hts iwX4 tyX4 tyX4_ok nmX4 hown hK hP hD hS 0 rfl rfl 0 (by decide) (hts (.fieldLink RX4 11 "ModulePlayer$Reader" "fault" "I") (List.mem_cons_of_mem _ kw_71)) (fun _ h9 => h9) rfl (by decide +kernel) (rfl) (rfl) (Nat.le_of_ble_eq_true rfl) dX4_accepts_87 (fun H locs hP hD hS => ?_)
          have hP : va_P (dC, dI) vwCl [(h, .inr (4, [.int 0, .int x1])), (ta, .inr (7, [.ref tb, .int (nI L)])), (tb, .inl (cB, 9000, .inl ft))] H := hP
          have hD : va_D A [(h, .inr (4, [.int 0, .int x1])), (ta, .inr (7, [.ref tb, .int (nI L)])), (tb, .inl (cB, 9000, .inl ft))] := hD
          refine lv_aload_n hx hb dX4_accepts_90 rfl (lv_at hl 1 rfl) ?_
          refine lv_iconst (v := (-1)) hx hb dX4_accepts_91 (by decide) ?_
          refine va_put (D := (dC, dI)) (ci := 4) (v := .int (-1)) (ty := tyX4 1) (C := RX4) (T := TX4) (N := 2) hx hb hts iwX4 tyX4 tyX4_ok nmX4 hown hK hP hD hS 0 rfl rfl 1 (by decide) (hts (.fieldLink RX4 15 "ModulePlayer$Reader" "faultPlace" "I") (List.mem_cons_of_mem _ kw_72)) (fun _ h9 => h9) rfl (by decide +kernel) (rfl) (rfl) (Nat.le_of_ble_eq_true rfl) dX4_accepts_92 (fun H locs hP hD hS => ?_)
          have hP : va_P (dC, dI) vwCl [(h, .inr (4, [.int 0, .int (-1)])), (ta, .inr (7, [.ref tb, .int (nI L)])), (tb, .inl (cB, 9000, .inl ft))] H := hP
          have hD : va_D A [(h, .inr (4, [.int 0, .int (-1)])), (ta, .inr (7, [.ref tb, .int (nI L)])), (tb, .inl (cB, 9000, .inl ft))] := hD
          refine lv_iconst (v := 1) hx hb dX4_accepts_95 (by decide) ?_
          have hP9 := hP
          have hD9 := hD
          have hK9 := hK.sub (tys' := []) [] rfl
          exact W.zret (v := 1) hx hb hr (by decide) (fun t ht hW => ⟨⟨1, _, rfl, (Or.inl ⟨rfl, rfl⟩), by rw [ht]; exact hP9, va_K.moved hW.alike hK9, hD9⟩, hS.F ht⟩) hS.2.2 dX4_accepts_96
        refine lv_aload_n hx hb dX4_accepts_75 rfl (lv_at hl 1 rfl) ?_
        refine lv_iconst (v := 4) hx hb dX4_accepts_76 (by decide) ?_
        refine lv_aload_n hx hb dX4_accepts_77 rfl (lv_at hl 2 rfl) ?_
        refine va_get (D := (dC, dI)) (ci := 7) (v := .int (nI L)) (C := RX7) (T := TX7) (N := 2) hx hb hts iwX7 hown hK hP 1 rfl rfl 1 (by decide) (hts (.fieldLink RX4 30 "ModulePlayer$Tape" "length" "I") (List.mem_cons_of_mem _ kw_287)) (fun _ h9 => h9) rfl dX4_accepts_78 ?_
        refine g_calli (wr := [(ta, .inr (7, [.ref tb, .int (nI L)])), (tb, .inl (cB, 9000, .inl ft))]) (va_runV (As := [.int 4, .int (nI L)]) (rest := []) ⟨hx, hb, hml, hown, hts⟩ (c_refuse l dC dI H.size h x0 x1 4 (nI L) ) (cwV 2 hts (gG_V kw_288 kw_289 kw_290 kw_30 kw_291) rfl rfl rfl (by decide +kernel) ⟨Nat.le_of_ble_eq_true rfl, Nat.le_of_ble_eq_true rfl⟩) (g_preV (C := RX4) (T := TX4) (N := 2) hP hD hK hS hA hN hZ (q0 := 0) rfl rfl [0] (by decide) rfl [] rfl) rfl rfl hl.1 rfl (lv_room (Nat.le_of_ble_eq_true rfl)) dX4_accepts_81 ⟨Nat.le_of_ble_eq_true rfl, Nat.le_of_ble_eq_true rfl⟩) hP hD hK hS hA [0] [1, 2] rfl rfl (by decide) (by decide) (fun r_81 w ty1 H locs hw_81 hP hD _ hS => ?_)
        rcases hw_81 with ⟨hu, hr_81⟩
        cases hu
        have hP : va_P (dC, dI) vwCl [(ta, .inr (7, [.ref tb, .int (nI L)])), (tb, .inl (cB, 9000, .inl ft)), (h, .inr (4, [.int 4, .int (nI L)]))] H := hP
        have hD : va_D A [(ta, .inr (7, [.ref tb, .int (nI L)])), (tb, .inl (cB, 9000, .inl ft)), (h, .inr (4, [.int 4, .int (nI L)]))] := hD
        refine g_topi (y := 0) hr_81 ?_
        have hP9 := hP.sub (ws' := [(h, .inr (4, [.int 4, .int (nI L)])), (ta, .inr (7, [.ref tb, .int (nI L)])), (tb, .inl (cB, 9000, .inl ft))]) [2, 0, 1] rfl
        have hD9 := hD.sub (ws' := [(h, .inr (4, [.int 4, .int (nI L)])), (ta, .inr (7, [.ref tb, .int (nI L)])), (tb, .inl (cB, 9000, .inl ft))]) [2, 0, 1] (by decide) rfl
        have hK9 := hK.sub (tys' := []) [] rfl
        exact W.zret (v := 0) hx hb hr (by decide) (fun t ht hW => ⟨⟨0, _, rfl, (Or.inr ⟨4, (nI L), rfl, rfl⟩), by rw [ht]; exact hP9, va_K.moved hW.alike hK9, hD9⟩, hS.F ht⟩) hS.2.2 dX4_accepts_84
      refine lv_aload_n hx hb dX4_accepts_57 rfl (lv_at hl 1 rfl) ?_
      refine lv_iconst (v := 3) hx hb dX4_accepts_58 (by decide) ?_
      refine lv_iload_n hx hb dX4_accepts_59 rfl (lv_at hl 0 rfl) ?_
      refine g_calli (wr := [(ta, .inr (7, [.ref tb, .int (nI L)])), (tb, .inl (cB, 9000, .inl ft))]) (va_runV (As := [.int 3, .int r_48]) (rest := []) ⟨hx, hb, hml, hown, hts⟩ (c_refuse l dC dI H.size h x0 x1 3 r_48 ) (cwV 2 hts (gG_V kw_288 kw_289 kw_290 kw_30 kw_291) rfl rfl rfl (by decide +kernel) ⟨Nat.le_of_ble_eq_true rfl, Nat.le_of_ble_eq_true rfl⟩) (g_preV (C := RX4) (T := TX4) (N := 2) hP hD hK hS hA hN hZ (q0 := 0) rfl rfl [0] (by decide) rfl [] rfl) rfl rfl hl.1 rfl (lv_room (Nat.le_of_ble_eq_true rfl)) dX4_accepts_60 ⟨Nat.le_of_ble_eq_true rfl, Nat.le_of_ble_eq_true rfl⟩) hP hD hK hS hA [0] [1, 2] rfl rfl (by decide) (by decide) (fun r_60 w ty1 H locs hw_60 hP hD _ hS => ?_)
      rcases hw_60 with ⟨hu, hr_60⟩
      cases hu
      have hP : va_P (dC, dI) vwCl [(ta, .inr (7, [.ref tb, .int (nI L)])), (tb, .inl (cB, 9000, .inl ft)), (h, .inr (4, [.int 3, .int r_48]))] H := hP
      have hD : va_D A [(ta, .inr (7, [.ref tb, .int (nI L)])), (tb, .inl (cB, 9000, .inl ft)), (h, .inr (4, [.int 3, .int r_48]))] := hD
      refine g_topi (y := 0) hr_60 ?_
      have hP9 := hP.sub (ws' := [(h, .inr (4, [.int 3, .int r_48])), (ta, .inr (7, [.ref tb, .int (nI L)])), (tb, .inl (cB, 9000, .inl ft))]) [2, 0, 1] rfl
      have hD9 := hD.sub (ws' := [(h, .inr (4, [.int 3, .int r_48])), (ta, .inr (7, [.ref tb, .int (nI L)])), (tb, .inl (cB, 9000, .inl ft))]) [2, 0, 1] (by decide) rfl
      have hK9 := hK.sub (tys' := []) [] rfl
      exact W.zret (v := 0) hx hb hr (by decide) (fun t ht hW => ⟨⟨0, _, rfl, (Or.inr ⟨3, r_48, rfl, rfl⟩), by rw [ht]; exact hP9, va_K.moved hW.alike hK9, hD9⟩, hS.F ht⟩) hS.2.2 dX4_accepts_63
    refine lv_aload_n hx hb dX4_accepts_30 rfl (lv_at hl 1 rfl) ?_
    refine lv_iconst (v := 2) hx hb dX4_accepts_31 (by decide) ?_
    refine lv_iload_n hx hb dX4_accepts_32 rfl (lv_at hl 0 rfl) ?_
    refine g_calli (wr := [(ta, .inr (7, [.ref tb, .int (nI L)])), (tb, .inl (cB, 9000, .inl ft))]) (va_runV (As := [.int 2, .int r_21]) (rest := []) ⟨hx, hb, hml, hown, hts⟩ (c_refuse l dC dI H.size h x0 x1 2 r_21 ) (cwV 2 hts (gG_V kw_288 kw_289 kw_290 kw_30 kw_291) rfl rfl rfl (by decide +kernel) ⟨Nat.le_of_ble_eq_true rfl, Nat.le_of_ble_eq_true rfl⟩) (g_preV (C := RX4) (T := TX4) (N := 2) hP hD hK hS hA hN hZ (q0 := 0) rfl rfl [0] (by decide) rfl [] rfl) rfl rfl hl.1 rfl (lv_room (Nat.le_of_ble_eq_true rfl)) dX4_accepts_33 ⟨Nat.le_of_ble_eq_true rfl, Nat.le_of_ble_eq_true rfl⟩) hP hD hK hS hA [0] [1, 2] rfl rfl (by decide) (by decide) (fun r_33 w ty1 H locs hw_33 hP hD _ hS => ?_)
    rcases hw_33 with ⟨hu, hr_33⟩
    cases hu
    have hP : va_P (dC, dI) vwCl [(ta, .inr (7, [.ref tb, .int (nI L)])), (tb, .inl (cB, 9000, .inl ft)), (h, .inr (4, [.int 2, .int r_21]))] H := hP
    have hD : va_D A [(ta, .inr (7, [.ref tb, .int (nI L)])), (tb, .inl (cB, 9000, .inl ft)), (h, .inr (4, [.int 2, .int r_21]))] := hD
    refine g_topi (y := 0) hr_33 ?_
    have hP9 := hP.sub (ws' := [(h, .inr (4, [.int 2, .int r_21])), (ta, .inr (7, [.ref tb, .int (nI L)])), (tb, .inl (cB, 9000, .inl ft))]) [2, 0, 1] rfl
    have hD9 := hD.sub (ws' := [(h, .inr (4, [.int 2, .int r_21])), (ta, .inr (7, [.ref tb, .int (nI L)])), (tb, .inl (cB, 9000, .inl ft))]) [2, 0, 1] (by decide) rfl
    have hK9 := hK.sub (tys' := []) [] rfl
    exact W.zret (v := 0) hx hb hr (by decide) (fun t ht hW => ⟨⟨0, _, rfl, (Or.inr ⟨2, r_21, rfl, rfl⟩), by rw [ht]; exact hP9, va_K.moved hW.alike hK9, hD9⟩, hS.F ht⟩) hS.2.2 dX4_accepts_36
  refine lv_aload_n hx hb dX4_accepts_10 rfl (lv_at hl 0 rfl) ?_
  refine lv_iconst (v := 1) hx hb dX4_accepts_11 (by decide) ?_
  refine lv_aload_n hx hb dX4_accepts_12 rfl (lv_at hl 1 rfl) ?_
  refine va_get (D := (dC, dI)) (ci := 7) (v := .int (nI L)) (C := RX7) (T := TX7) (N := 2) hx hb hts iwX7 hown hK hP 1 rfl rfl 1 (by decide) (hts (.fieldLink RX4 30 "ModulePlayer$Tape" "length" "I") (List.mem_cons_of_mem _ kw_287)) (fun _ h9 => h9) rfl dX4_accepts_13 ?_
  refine g_calli (wr := [(ta, .inr (7, [.ref tb, .int (nI L)])), (tb, .inl (cB, 9000, .inl ft))]) (va_runV (As := [.int 1, .int (nI L)]) (rest := []) ⟨hx, hb, hml, hown, hts⟩ (c_refuse l dC dI H.size h x0 x1 1 (nI L) ) (cwV 2 hts (gG_V kw_288 kw_289 kw_290 kw_30 kw_291) rfl rfl rfl (by decide +kernel) ⟨Nat.le_of_ble_eq_true rfl, Nat.le_of_ble_eq_true rfl⟩) (g_preV (C := RX4) (T := TX4) (N := 2) hP hD hK hS hA hN hZ (q0 := 0) rfl rfl [0] (by decide) rfl [] rfl) rfl rfl hl.1 rfl (lv_room (Nat.le_of_ble_eq_true rfl)) dX4_accepts_16 ⟨Nat.le_of_ble_eq_true rfl, Nat.le_of_ble_eq_true rfl⟩) hP hD hK hS hA [0] [1, 2] rfl rfl (by decide) (by decide) (fun r_16 w ty1 H locs hw_16 hP hD _ hS => ?_)
  rcases hw_16 with ⟨hu, hr_16⟩
  cases hu
  have hP : va_P (dC, dI) vwCl [(ta, .inr (7, [.ref tb, .int (nI L)])), (tb, .inl (cB, 9000, .inl ft)), (h, .inr (4, [.int 1, .int (nI L)]))] H := hP
  have hD : va_D A [(ta, .inr (7, [.ref tb, .int (nI L)])), (tb, .inl (cB, 9000, .inl ft)), (h, .inr (4, [.int 1, .int (nI L)]))] := hD
  refine g_topi (y := 0) hr_16 ?_
  have hP9 := hP.sub (ws' := [(h, .inr (4, [.int 1, .int (nI L)])), (ta, .inr (7, [.ref tb, .int (nI L)])), (tb, .inl (cB, 9000, .inl ft))]) [2, 0, 1] rfl
  have hD9 := hD.sub (ws' := [(h, .inr (4, [.int 1, .int (nI L)])), (ta, .inr (7, [.ref tb, .int (nI L)])), (tb, .inl (cB, 9000, .inl ft))]) [2, 0, 1] (by decide) rfl
  have hK9 := hK.sub (tys' := []) [] rfl
  exact W.zret (v := 0) hx hb hr (by decide) (fun t ht hW => ⟨⟨0, _, rfl, (Or.inr ⟨1, (nI L), rfl, rfl⟩), by rw [ht]; exact hP9, va_K.moved hW.alike hK9, hD9⟩, hS.F ht⟩) hS.2.2 dX4_accepts_19

set_option maxHeartbeats 400000 in
set_option maxRecDepth 100000 in
theorem k_sclear (l : Launch) (dC : Nat → ClassId) (dI : Nat → Nat → Nat) (sz : Nat) (h ce pl : Nat) (sln srs : Int32) (fc fp : Nat → Int32) (cI : ClassId) : Met l yX6_clear (wsG (.code yX6_clear cX6_clear 1 none)) ({ frames := 1, cells := 0, slots := 0, locals := 23 }) (va_Pc [.ref h] (gP (dC, dI) [(cI, .int)] [(h, .inr (6, [.ref ce, .ref pl, .int sln, .int srs])), (ce, .inl (cI, 2048, .inl fc)), (pl, .inl (cI, 128, .inl fp))] sz)) (va_Qv (fun u : va_W × gT => ∃ (fc2 : Nat → Int32) (fp2 : Nat → Int32), u = ([(h, .inr (6, [.ref ce, .ref pl, .int sln, .int srs])), (ce, .inl (cI, 2048, .inl fc2)), (pl, .inl (cI, 128, .inl fp2))], [])) (gB (dC, dI) (va_A [(h, .inr (6, [.ref ce, .ref pl, .int sln, .int srs])), (ce, .inl (cI, 2048, .inl fc)), (pl, .inl (cI, 128, .inl fp))] sz)) (va_A [(h, .inr (6, [.ref ce, .ref pl, .int sln, .int srs])), (ce, .inl (cI, 2048, .inl fc)), (pl, .inl (cI, 128, .inl fp))] sz)) 0 0 (va_A [(h, .inr (6, [.ref ce, .ref pl, .int sln, .int srs])), (ce, .inl (cI, 2048, .inl fc)), (pl, .inl (cI, 128, .inl fp))] sz) := by
  refine Met.ofW (cc := cX6_clear) (maxL := 1) (ret := none) (by decide) rfl ?_
  intro p e s m args below meth c s₁ B hml hv
  obtain ⟨rfl, hsz, hP, hK, hD0, hN, hZ⟩ := hv
  have hx := B.exec
  have hb := B.bytes
  have hr := B.returns
  have hts := atoms_spec (ws := (wsG (.code yX6_clear cX6_clear 1 none))) B.pre
  have hown : s.vm.findClass RX6 = some m.cls := findClass_of_methodNamed B.named
  have hlocks := B.notSynchronized
  subst hsz
  have hD := hD0.self (sz := s.heap.size)
  generalize hAe : va_A [(h, .inr (6, [.ref ce, .ref pl, .int sln, .int srs])), (ce, .inl (cI, 2048, .inl fc)), (pl, .inl (cI, 128, .inl fp))] s.heap.size = A at hD hZ ⊢
  have hA : ∀ q : Nat, s.heap.size ≤ q → A q := fun q h => by rw [← hAe]; exact Or.inr h
  have hl := lv_entry ([.ref h]) (n := 1) (Nat.le_of_ble_eq_true rfl)
  rw [lg_entry_eq]
  generalize (lg_sl ([.ref h]) ++ List.replicate (1 - (lg_sl ([.ref h])).length) Slot.unset).toArray = ls at hl ⊢
  have hl : lv_has ls 1 [(0, .ref h)] := hl
  refine g_start (A := A) hP (fun H locs hP hS => ?_)
  refine lv_aload_n hx hb dX6_clear_0 rfl (lv_at hl 0 rfl) ?_
  refine va_get (D := (dC, dI)) (ci := 6) (v := .ref ce) (C := RX6) (T := TX6) (N := 4) hx hb hts iwX6 hown hK hP 0 rfl rfl 0 (by decide) (hts (.fieldLink RX6 9 "ModulePlayer$Score" "cells" "[I") (List.mem_cons_of_mem _ kw_65)) (fun _ h9 => h9) rfl dX6_clear_1 ?_
  refine lv_iconst (v := 0) hx hb dX6_clear_4 (by decide) ?_
  refine g_callv (wr := [(h, .inr (6, [.ref ce, .ref pl, .int sln, .int srs])), (pl, .inl (cI, 128, .inl fp))]) (va_runS (As := [.ref ce, .int 0]) (rest := []) ⟨hx, hb, hml, hown, hts⟩ (c_fillA l dC dI H.size ce cI 2048 fc 0 (by decide)) (va_cwS 2 hts (gG_S kw_343 kw_344 kw_124 kw_345) rfl rfl rfl (by decide +kernel) ⟨Nat.le_of_ble_eq_true rfl, Nat.le_of_ble_eq_true rfl⟩) (g_preS hP hD hK hS hA hN hZ [1] (by decide) rfl [0] rfl) rfl rfl hl.1 rfl (lv_room (Nat.le_of_ble_eq_true rfl)) dX6_clear_5 ⟨Nat.le_of_ble_eq_true rfl, Nat.le_of_ble_eq_true rfl⟩) hP hD hK hS hA [1] [0, 2] rfl rfl (by decide) (by decide) (fun w ty1 H locs hw_5 hP hD _ hS => ?_)
  rcases hw_5 with ⟨f2_5, hu, hf_5⟩
  cases hu
  have hP : va_P (dC, dI) vwCl [(h, .inr (6, [.ref ce, .ref pl, .int sln, .int srs])), (pl, .inl (cI, 128, .inl fp)), (ce, .inl (cI, 2048, .inl f2_5))] H := hP
  have hD : va_D A [(h, .inr (6, [.ref ce, .ref pl, .int sln, .int srs])), (pl, .inl (cI, 128, .inl fp)), (ce, .inl (cI, 2048, .inl f2_5))] := hD
  refine lv_aload_n hx hb dX6_clear_8 rfl (lv_at hl 0 rfl) ?_
  refine va_get (D := (dC, dI)) (ci := 6) (v := .ref pl) (C := RX6) (T := TX6) (N := 4) hx hb hts iwX6 hown hK hP 0 rfl rfl 1 (by decide) (hts (.fieldLink RX6 15 "ModulePlayer$Score" "places" "[I") (List.mem_cons_of_mem _ kw_66)) (fun _ h9 => h9) rfl dX6_clear_9 ?_
  refine lv_iconst (v := 0) hx hb dX6_clear_12 (by decide) ?_
  refine g_callv (wr := [(h, .inr (6, [.ref ce, .ref pl, .int sln, .int srs])), (ce, .inl (cI, 2048, .inl f2_5))]) (va_runS (As := [.ref pl, .int 0]) (rest := []) ⟨hx, hb, hml, hown, hts⟩ (c_fillA l dC dI H.size pl cI 128 fp 0 (by decide)) (va_cwS 2 hts (gG_S kw_343 kw_344 kw_124 kw_345) rfl rfl rfl (by decide +kernel) ⟨Nat.le_of_ble_eq_true rfl, Nat.le_of_ble_eq_true rfl⟩) (g_preS hP hD hK hS hA hN hZ [1] (by decide) rfl [0] rfl) rfl rfl hl.1 rfl (lv_room (Nat.le_of_ble_eq_true rfl)) dX6_clear_13 ⟨Nat.le_of_ble_eq_true rfl, Nat.le_of_ble_eq_true rfl⟩) hP hD hK hS hA [1] [0, 2] rfl rfl (by decide) (by decide) (fun w ty1 H locs hw_13 hP hD _ hS => ?_)
  rcases hw_13 with ⟨f2_13, hu, hf_13⟩
  cases hu
  have hP : va_P (dC, dI) vwCl [(h, .inr (6, [.ref ce, .ref pl, .int sln, .int srs])), (ce, .inl (cI, 2048, .inl f2_5)), (pl, .inl (cI, 128, .inl f2_13))] H := hP
  have hD : va_D A [(h, .inr (6, [.ref ce, .ref pl, .int sln, .int srs])), (ce, .inl (cI, 2048, .inl f2_5)), (pl, .inl (cI, 128, .inl f2_13))] := hD
  have hP9 := hP
  have hD9 := hD
  have hK9 := hK.sub (tys' := []) [] rfl
  exact W.vret hx hb hr (fun t ht hW => ⟨⟨_, rfl, ⟨f2_5, f2_13, rfl⟩, by rw [ht]; exact hP9, va_K.moved hW.alike hK9, hD9⟩, hS.F ht⟩) hS.2.2 dX6_clear_16

set_option maxHeartbeats 400000 in
set_option maxRecDepth 100000 in
theorem k_count (l : Launch) (dC : Nat → ClassId) (dI : Nat → Nat → Nat) (sz : Nat) (h ce pl : Nat) (sln srs : Int32) (fp : Nat → Int32) (cI : ClassId) : Met l yX6_countPatterns (wsG (.code yX6_countPatterns cX6_countPatterns 3 (some .int))) ({ frames := 1, cells := 0, slots := 0, locals := 13 }) (va_Pc [.ref h] (gP (dC, dI) [(cI, .int)] [(h, .inr (6, [.ref ce, .ref pl, .int sln, .int srs])), (pl, .inl (cI, 128, .inl fp))] sz)) (va_Qi (fun (r : Int32) (u : va_W × gT) => u = ([(h, .inr (6, [.ref ce, .ref pl, .int sln, .int srs])), (pl, .inl (cI, 128, .inl fp))], [])) (gB (dC, dI) (va_A [(h, .inr (6, [.ref ce, .ref pl, .int sln, .int srs])), (pl, .inl (cI, 128, .inl fp))] sz)) (va_A [(h, .inr (6, [.ref ce, .ref pl, .int sln, .int srs])), (pl, .inl (cI, 128, .inl fp))] sz)) 0 0 (va_A [(h, .inr (6, [.ref ce, .ref pl, .int sln, .int srs])), (pl, .inl (cI, 128, .inl fp))] sz) := by
  refine Met.ofW (cc := cX6_countPatterns) (maxL := 3) (ret := (some .int)) (by decide) rfl ?_
  intro p e s m args below meth c s₁ B hml hv
  obtain ⟨rfl, hsz, hP, hK, hD0, hN, hZ⟩ := hv
  have hx := B.exec
  have hb := B.bytes
  have hr := B.returns
  have hts := atoms_spec (ws := (wsG (.code yX6_countPatterns cX6_countPatterns 3 (some .int)))) B.pre
  have hown : s.vm.findClass RX6 = some m.cls := findClass_of_methodNamed B.named
  have hlocks := B.notSynchronized
  subst hsz
  have hD := hD0.self (sz := s.heap.size)
  generalize hAe : va_A [(h, .inr (6, [.ref ce, .ref pl, .int sln, .int srs])), (pl, .inl (cI, 128, .inl fp))] s.heap.size = A at hD hZ ⊢
  have hA : ∀ q : Nat, s.heap.size ≤ q → A q := fun q h => by rw [← hAe]; exact Or.inr h
  have hl := lv_entry ([.ref h]) (n := 3) (Nat.le_of_ble_eq_true rfl)
  rw [lg_entry_eq]
  generalize (lg_sl ([.ref h]) ++ List.replicate (3 - (lg_sl ([.ref h])).length) Slot.unset).toArray = ls at hl ⊢
  have hl : lv_has ls 3 [(0, .ref h)] := hl
  refine g_start (A := A) hP (fun H locs hP hS => ?_)
  refine lv_iconst (v := 0) hx hb dX6_countPatterns_0 (by decide) ?_
  refine lv_istore_n (lv' := [(1, .int 0), (0, .ref h)]) hx hb dX6_countPatterns_1 rfl hl (by decide) rfl (fun ls hl => ?_)
  refine lv_iconst (v := 0) hx hb dX6_countPatterns_2 (by decide) ?_
  refine lv_istore_n (lv' := [(2, .int 0), (1, .int 0), (0, .ref h)]) hx hb dX6_countPatterns_3 rfl hl (by decide) rfl (fun ls hl => ?_)
  have LP4 : ∀ (fu4 : Nat) (q4 : Nat) (gr : Int32) (hq4 : q4 ≤ 128) (hm4 : 128 - q4 < fu4) (H : Heap) (locs : List Loc), va_P (dC, dI) vwCl [(h, .inr (6, [.ref ce, .ref pl, .int sln, .int srs])), (pl, .inl (cI, 128, .inl fp))] H → va_D A [(h, .inr (6, [.ref ce, .ref pl, .int sln, .int srs])), (pl, .inl (cI, 128, .inl fp))] → va_S A s.heap H locs → ∀ ls : Array Slot, lv_has ls 3 [(2, .int (nI q4)), (1, .int gr), (0, .ref h)] → W p l e ({ frames := 1, cells := 0, slots := 0, locals := 13 }) s m ([.ref h] : List Value).toArray below meth c H locs (0) (0) (MQ below (va_Qi (fun (r : Int32) (u : va_W × gT) => u = ([(h, .inr (6, [.ref ce, .ref pl, .int sln, .int srs])), (pl, .inl (cI, 128, .inl fp))], [])) (gB (dC, dI) A) A) ([.ref h] : List Value).toArray s 0 0 A) (F0 m 4 ls []) := by
    intro fu4
    induction fu4 with
    | zero => intro q4 gr hq4 hm4; exact absurd hm4 (Nat.not_lt_zero _)
    | succ fu4 ih4 =>
      intro q4 gr hq4 hm4 H locs hP hD hS ls hl
      refine lv_iload_n hx hb dX6_countPatterns_4 rfl (lv_at hl 0 rfl) ?_
      refine lv_aload_n hx hb dX6_countPatterns_5 rfl (lv_at hl 2 rfl) ?_
      refine va_get (D := (dC, dI)) (ci := 6) (v := .int sln) (C := RX6) (T := TX6) (N := 4) hx hb hts iwX6 hown hK hP 0 rfl rfl 2 (by decide) (hts (.fieldLink RX6 18 "ModulePlayer$Score" "length" "I") (List.mem_cons_of_mem _ kw_67)) (fun _ h9 => h9) rfl dX6_countPatterns_6 ?_
      refine lv_icmp_ge (tgt := 36) hx hb dX6_countPatterns_9 (by decide) (fun c_9 => ?_) (fun c_9 => ?_)
      · refine lv_iload_n hx hb dX6_countPatterns_36 rfl (lv_at hl 1 rfl) ?_
        refine lv_iconst (v := 1) hx hb dX6_countPatterns_37 (by decide) ?_
        refine lv_iadd hx hb dX6_countPatterns_38 ?_
        refine lv_topi (fun tv_38 etv_38 => ?_)
        have hP9 := hP
        have hD9 := hD
        have hK9 := hK.sub (tys' := []) [] rfl
        exact W.iret (v := tv_38) hx hb hr (fun t ht hW => ⟨⟨tv_38, _, rfl, rfl, by rw [ht]; exact hP9, va_K.moved hW.alike hK9, hD9⟩, hS.F ht⟩) hS.2.2 dX6_countPatterns_39
      refine lv_iload_n hx hb dX6_countPatterns_12 rfl (lv_at hl 0 rfl) ?_
      refine lv_sipush (v := 128) hx hb dX6_countPatterns_13 (by decide) ?_
      refine lv_icmp_ge (tgt := 36) hx hb dX6_countPatterns_16 (by decide) (fun c_16 => ?_) (fun c_16 => ?_)
      · refine lv_iload_n hx hb dX6_countPatterns_36 rfl (lv_at hl 1 rfl) ?_
        refine lv_iconst (v := 1) hx hb dX6_countPatterns_37 (by decide) ?_
        refine lv_iadd hx hb dX6_countPatterns_38 ?_
        refine lv_topi (fun tv_38 etv_38 => ?_)
        have hP9 := hP
        have hD9 := hD
        have hK9 := hK.sub (tys' := []) [] rfl
        exact W.iret (v := tv_38) hx hb hr (fun t ht hW => ⟨⟨tv_38, _, rfl, rfl, by rw [ht]; exact hP9, va_K.moved hW.alike hK9, hD9⟩, hS.F ht⟩) hS.2.2 dX6_countPatterns_39
      refine lv_iload_n hx hb dX6_countPatterns_19 rfl (lv_at hl 1 rfl) ?_
      refine lv_aload_n hx hb dX6_countPatterns_20 rfl (lv_at hl 2 rfl) ?_
      refine va_get (D := (dC, dI)) (ci := 6) (v := .ref pl) (C := RX6) (T := TX6) (N := 4) hx hb hts iwX6 hown hK hP 0 rfl rfl 1 (by decide) (hts (.fieldLink RX6 15 "ModulePlayer$Score" "places" "[I") (List.mem_cons_of_mem _ kw_66)) (fun _ h9 => h9) rfl dX6_countPatterns_21 ?_
      refine lv_iload_n hx hb dX6_countPatterns_24 rfl (lv_at hl 0 rfl) ?_
      refine g_iald hx hb hK hP 1 0 rfl rfl q4 (nI_clamp (Nat.lt_trans (show q4 < 128 from by have := nI_nle' (a := 128) c_16 (by omega); omega) (by decide))) (vp_in_nI (by have := nI_nle' (a := 128) c_16 (by omega); omega) (by decide)) dX6_countPatterns_25 ?_
      refine lv_topi (fun tv_25 etv_25 => ?_)
      refine va_mmax hx hb (by rw [hml]; exact hl.1.symm) hown (hts (.methodLink RX6 34 Lib.Math.max.name) (List.mem_cons_of_mem _ kw_350)) (hts (.static Lib.Math.max.name) (List.mem_cons_of_mem _ kw_102)) (hts (.initialized "java/lang/Math") (List.mem_cons_of_mem _ kw_103)) (hts (.code Lib.Math.max.name Lib.Math.max.code 2 (some .int)) (List.mem_cons_of_mem _ kw_104)) (Nat.le_of_ble_eq_true rfl) (Nat.le_of_ble_eq_true rfl) (Nat.le_of_ble_eq_true rfl) (Nat.le_of_ble_eq_true rfl) dX6_countPatterns_26 ?_
      refine lv_topi (fun tv_26 etv_26 => ?_)
      refine lv_istore_n (lv' := [(1, .int tv_26), (2, .int (nI q4)), (0, .ref h)]) hx hb dX6_countPatterns_29 rfl hl (by decide) rfl (fun ls hl => ?_)
      refine lv_iinc (v := nI (q4 + 1)) (lv' := [(2, .int (nI (q4 + 1))), (1, .int tv_26), (0, .ref h)]) hx hb dX6_countPatterns_30 hl (k := 1) rfl (nI_1 q4) (by decide) rfl (fun ls hl => ?_)
      refine lv_goto (tgt := 4) hx hb dX6_countPatterns_33 (by decide) ?_
      exact ih4 (q4 + 1) tv_26 (by have := nI_nle' (a := 128) c_16 (by omega); omega) (by have := nI_nle' (a := 128) c_16 (by omega); omega) _ _ (hP.sub [0, 1] rfl) (hD.sub [0, 1] (by decide) rfl) hS _ (lv_sub hl [0, 1, 2] rfl)
  exact LP4 _ 0 0 (Nat.zero_le _) (Nat.lt_succ_self _) _ _ (hP.sub [0, 1] rfl) (hD.sub [0, 1] (by decide) rfl) hS _ (lv_sub hl [0, 1, 2] rfl)

set_option maxHeartbeats 400000 in
set_option maxRecDepth 100000 in
theorem k_putCell (l : Launch) (dC : Nat → ClassId) (dI : Nat → Nat → Nat) (sz : Nat) (h ce pl : Nat) (x2 x3 : Int32) (cI : ClassId) (f : Nat → Int32) (xa xb xd v : Int32) : Met l yX6_putCell (wsG (.code yX6_putCell cX6_putCell 5 none)) ({ frames := 2, cells := 0, slots := 0, locals := 43 }) (va_Pc [.ref h, .int xa, .int xb, .int xd, .int v] (gP (dC, dI) [(cI, .int)] [(h, .inr (6, [.ref ce, .ref pl, .int x2, .int x3])), (ce, .inl (cI, 2048, .inl f))] sz)) (va_Qv (fun u : va_W × gT => ∃ (f2 : Nat → Int32), u = ([(h, .inr (6, [.ref ce, .ref pl, .int x2, .int x3])), (ce, .inl (cI, 2048, .inl f2))], [])) (gB (dC, dI) (va_A [(h, .inr (6, [.ref ce, .ref pl, .int x2, .int x3])), (ce, .inl (cI, 2048, .inl f))] sz)) (va_A [(h, .inr (6, [.ref ce, .ref pl, .int x2, .int x3])), (ce, .inl (cI, 2048, .inl f))] sz)) 0 0 (va_A [(h, .inr (6, [.ref ce, .ref pl, .int x2, .int x3])), (ce, .inl (cI, 2048, .inl f))] sz) := by
  refine Met.ofW (cc := cX6_putCell) (maxL := 5) (ret := none) (by decide) rfl ?_
  intro p e s m args below meth c s₁ B hml hv
  obtain ⟨rfl, hsz, hP, hK, hD0, hN, hZ⟩ := hv
  have hx := B.exec
  have hb := B.bytes
  have hr := B.returns
  have hts := atoms_spec (ws := (wsG (.code yX6_putCell cX6_putCell 5 none))) B.pre
  have hown : s.vm.findClass RX6 = some m.cls := findClass_of_methodNamed B.named
  have hlocks := B.notSynchronized
  subst hsz
  have hD := hD0.self (sz := s.heap.size)
  generalize hAe : va_A [(h, .inr (6, [.ref ce, .ref pl, .int x2, .int x3])), (ce, .inl (cI, 2048, .inl f))] s.heap.size = A at hD hZ ⊢
  have hA : ∀ q : Nat, s.heap.size ≤ q → A q := fun q h => by rw [← hAe]; exact Or.inr h
  have hl := lv_entry ([.ref h, .int xa, .int xb, .int xd, .int v]) (n := 5) (Nat.le_of_ble_eq_true rfl)
  rw [lg_entry_eq]
  generalize (lg_sl ([.ref h, .int xa, .int xb, .int xd, .int v]) ++ List.replicate (5 - (lg_sl ([.ref h, .int xa, .int xb, .int xd, .int v])).length) Slot.unset).toArray = ls at hl ⊢
  have hl : lv_has ls 5 [(0, .ref h), (1, .int xa), (2, .int xb), (3, .int xd), (4, .int v)] := hl
  refine g_start (A := A) hP (fun H locs hP hS => ?_)
  refine lv_iload_n hx hb dX6_putCell_0 rfl (lv_at hl 1 rfl) ?_
  refine lv_iload_n hx hb dX6_putCell_1 rfl (lv_at hl 2 rfl) ?_
  refine lv_iload_n hx hb dX6_putCell_2 rfl (lv_at hl 3 rfl) ?_
  refine g_calli (wr := [(h, .inr (6, [.ref ce, .ref pl, .int x2, .int x3])), (ce, .inl (cI, 2048, .inl f))]) (va_runS (As := [.int xa, .int xb, .int xd]) (rest := []) ⟨hx, hb, hml, hown, hts⟩ (c_hasCell l dC dI H.size xa xb xd ) (va_cwS 3 hts (gG_S kw_364 kw_365 kw_26 kw_366) rfl rfl rfl (by decide +kernel) ⟨Nat.le_of_ble_eq_true rfl, Nat.le_of_ble_eq_true rfl⟩) (g_preS hP hD hK hS hA hN hZ [] (by decide) rfl [] rfl) rfl rfl hl.1 rfl (lv_room (Nat.le_of_ble_eq_true rfl)) dX6_putCell_3 ⟨Nat.le_of_ble_eq_true rfl, Nat.le_of_ble_eq_true rfl⟩) hP hD hK hS hA [] [0, 1] rfl rfl (by decide) (by decide) (fun r_3 w ty1 H locs hw_3 hP hD _ hS => ?_)
  rcases hw_3 with ⟨hu, hr_3, hh_3⟩ | ⟨hu, hr_3, hh_3⟩
  · cases hu
    have hP : va_P (dC, dI) vwCl [(h, .inr (6, [.ref ce, .ref pl, .int x2, .int x3])), (ce, .inl (cI, 2048, .inl f))] H := hP
    have hD : va_D A [(h, .inr (6, [.ref ce, .ref pl, .int x2, .int x3])), (ce, .inl (cI, 2048, .inl f))] := hD
    refine g_topi (y := 1) hr_3 ?_
    obtain ⟨ca, cb, cd, hca, hcb, hcd, e1, e2, e3⟩ := cells_n hh_3
    subst e1 e2 e3
    refine lv_if_eq (tgt := 22) hx hb dX6_putCell_6 (by decide) (fun c_6 => absurd c_6 (by decide)) (fun c_6 => ?_)
    refine lv_aload_n hx hb dX6_putCell_9 rfl (lv_at hl 0 rfl) ?_
    refine va_get (D := (dC, dI)) (ci := 6) (v := .ref ce) (C := RX6) (T := TX6) (N := 4) hx hb hts iwX6 hown hK hP 0 rfl rfl 0 (by decide) (hts (.fieldLink RX6 9 "ModulePlayer$Score" "cells" "[I") (List.mem_cons_of_mem _ kw_65)) (fun _ h9 => h9) rfl dX6_putCell_10 ?_
    refine lv_iload_n hx hb dX6_putCell_13 rfl (lv_at hl 1 rfl) ?_
    refine lv_iload_n hx hb dX6_putCell_14 rfl (lv_at hl 2 rfl) ?_
    refine lv_iload_n hx hb dX6_putCell_15 rfl (lv_at hl 3 rfl) ?_
    refine g_calli (wr := [(h, .inr (6, [.ref ce, .ref pl, .int x2, .int x3])), (ce, .inl (cI, 2048, .inl f))]) (va_runS (As := [.int (nI ca), .int (nI cb), .int (nI cd)]) (rest := [.ref ce]) ⟨hx, hb, hml, hown, hts⟩ (c_indexOf l dC dI H.size ca cb cd ) (va_cwS 3 hts (gG_S kw_367 kw_368 kw_26 kw_369) rfl rfl rfl (by decide +kernel) ⟨Nat.le_of_ble_eq_true rfl, Nat.le_of_ble_eq_true rfl⟩) (g_preS hP hD hK hS hA hN hZ [] (by decide) rfl [] rfl) rfl rfl hl.1 rfl (lv_room (Nat.le_of_ble_eq_true rfl)) dX6_putCell_16 ⟨Nat.le_of_ble_eq_true rfl, Nat.le_of_ble_eq_true rfl⟩) hP hD hK hS hA [] [0, 1] rfl rfl (by decide) (by decide) (fun r_16 w ty1 H locs hw_16 hP hD _ hS => ?_)
    rcases hw_16 with ⟨hu, hr_16⟩
    cases hu
    have hP : va_P (dC, dI) vwCl [(h, .inr (6, [.ref ce, .ref pl, .int x2, .int x3])), (ce, .inl (cI, 2048, .inl f))] H := hP
    have hD : va_D A [(h, .inr (6, [.ref ce, .ref pl, .int x2, .int x3])), (ce, .inl (cI, 2048, .inl f))] := hD
    refine g_topi (y := nI ((ca * 64 + cb) * 4 + cd)) hr_16 ?_
    refine lv_iload hx hb dX6_putCell_19 (lv_at hl 4 rfl) ?_
    refine g_iast hx hb hK hP hD hS 1 0 rfl rfl ((ca * 64 + cb) * 4 + cd) (nI_clamp (Nat.lt_trans (show (ca * 64 + cb) * 4 + cd < 2048 from by omega) (by decide))) (vp_in_nI (by omega) (by decide)) dX6_putCell_21 (fun H locs hP hD hS => ?_)
    have hP : va_P (dC, dI) vwCl [(h, .inr (6, [.ref ce, .ref pl, .int x2, .int x3])), (ce, .inl (cI, 2048, .inl (upd f ((ca * 64 + cb) * 4 + cd) v)))] H := hP
    have hD : va_D A [(h, .inr (6, [.ref ce, .ref pl, .int x2, .int x3])), (ce, .inl (cI, 2048, .inl (upd f ((ca * 64 + cb) * 4 + cd) v)))] := hD
    have hP9 := hP
    have hD9 := hD
    have hK9 := hK.sub (tys' := []) [] rfl
    exact W.vret hx hb hr (fun t ht hW => ⟨⟨_, rfl, ⟨(upd f ((ca * 64 + cb) * 4 + cd) v), rfl⟩, by rw [ht]; exact hP9, va_K.moved hW.alike hK9, hD9⟩, hS.F ht⟩) hS.2.2 dX6_putCell_22
  cases hu
  have hP : va_P (dC, dI) vwCl [(h, .inr (6, [.ref ce, .ref pl, .int x2, .int x3])), (ce, .inl (cI, 2048, .inl f))] H := hP
  have hD : va_D A [(h, .inr (6, [.ref ce, .ref pl, .int x2, .int x3])), (ce, .inl (cI, 2048, .inl f))] := hD
  refine g_topi (y := 0) hr_3 ?_
  refine lv_if_eq (tgt := 22) hx hb dX6_putCell_6 (by decide) (fun c_6 => ?_) (fun c_6 => absurd c_6 (by decide))
  have hP9 := hP
  have hD9 := hD
  have hK9 := hK.sub (tys' := []) [] rfl
  exact W.vret hx hb hr (fun t ht hW => ⟨⟨_, rfl, ⟨f, rfl⟩, by rw [ht]; exact hP9, va_K.moved hW.alike hK9, hD9⟩, hS.F ht⟩) hS.2.2 dX6_putCell_22

set_option maxHeartbeats 400000 in
set_option maxRecDepth 100000 in
theorem k_readCell (l : Launch) (dC : Nat → ClassId) (dI : Nat → Nat → Nat) (sz : Nat) (ta tb : Nat) (cB : ClassId) (ft : Nat → Int32) (L : Nat) (iv : Int32) (hL : L ≤ 9000) : Met l yX4_readCell (wsG (.code yX4_readCell cX4_readCell 6 (some .int))) ({ frames := 2, cells := 0, slots := 0, locals := 42 }) (va_Pc [.ref ta, .int iv] (gP (dC, dI) [(cB, .byte)] [(ta, .inr (7, [.ref tb, .int (nI L)])), (tb, .inl (cB, 9000, .inl ft))] sz)) (va_Qi (fun (r : Int32) (u : va_W × gT) => u = ([(ta, .inr (7, [.ref tb, .int (nI L)])), (tb, .inl (cB, 9000, .inl ft))], [])) (gB (dC, dI) (va_A [(ta, .inr (7, [.ref tb, .int (nI L)])), (tb, .inl (cB, 9000, .inl ft))] sz)) (va_A [(ta, .inr (7, [.ref tb, .int (nI L)])), (tb, .inl (cB, 9000, .inl ft))] sz)) 0 0 (va_A [(ta, .inr (7, [.ref tb, .int (nI L)])), (tb, .inl (cB, 9000, .inl ft))] sz) := by
  refine Met.ofW (cc := cX4_readCell) (maxL := 6) (ret := (some .int)) (by decide) rfl ?_
  intro p e s m args below meth c s₁ B hml hv
  obtain ⟨rfl, hsz, hP, hK, hD0, hN, hZ⟩ := hv
  have hx := B.exec
  have hb := B.bytes
  have hr := B.returns
  have hts := atoms_spec (ws := (wsG (.code yX4_readCell cX4_readCell 6 (some .int)))) B.pre
  have hown : s.vm.findClass RX4 = some m.cls := findClass_of_methodNamed B.named
  have hlocks := B.notSynchronized
  subst hsz
  have hD := hD0.self (sz := s.heap.size)
  generalize hAe : va_A [(ta, .inr (7, [.ref tb, .int (nI L)])), (tb, .inl (cB, 9000, .inl ft))] s.heap.size = A at hD hZ ⊢
  have hA : ∀ q : Nat, s.heap.size ≤ q → A q := fun q h => by rw [← hAe]; exact Or.inr h
  have hl := lv_entry ([.ref ta, .int iv]) (n := 6) (Nat.le_of_ble_eq_true rfl)
  rw [lg_entry_eq]
  generalize (lg_sl ([.ref ta, .int iv]) ++ List.replicate (6 - (lg_sl ([.ref ta, .int iv])).length) Slot.unset).toArray = ls at hl ⊢
  have hl : lv_has ls 6 [(0, .ref ta), (1, .int iv)] := hl
  refine g_start (A := A) hP (fun H locs hP hS => ?_)
  refine lv_aload_n hx hb dX4_readCell_0 rfl (lv_at hl 0 rfl) ?_
  refine lv_iload_n hx hb dX4_readCell_1 rfl (lv_at hl 1 rfl) ?_
  refine g_calli (wr := []) (va_runV (As := [.int iv]) (rest := []) ⟨hx, hb, hml, hown, hts⟩ (k_at l dC dI H.size ta tb cB ft L iv (hL)) (cwV 1 hts (gG_V kw_295 kw_296 kw_297 kw_18 kw_298) rfl rfl rfl (by decide +kernel) ⟨Nat.le_of_ble_eq_true rfl, Nat.le_of_ble_eq_true rfl⟩) (g_preV (C := RX7) (T := TX7) (N := 2) hP hD hK hS hA hN hZ (q0 := 0) rfl rfl [0, 1] (by decide) rfl [0] rfl) rfl rfl hl.1 rfl (lv_room (Nat.le_of_ble_eq_true rfl)) dX4_readCell_2 ⟨Nat.le_of_ble_eq_true rfl, Nat.le_of_ble_eq_true rfl⟩) hP hD hK hS hA [0, 1] [] rfl rfl (by decide) (by decide) (fun r_2 w ty1 H locs hw_2 hP hD _ hS => ?_)
  have hu := hw_2
  cases hu
  have hP : va_P (dC, dI) vwCl [(ta, .inr (7, [.ref tb, .int (nI L)])), (tb, .inl (cB, 9000, .inl ft))] H := hP
  have hD : va_D A [(ta, .inr (7, [.ref tb, .int (nI L)])), (tb, .inl (cB, 9000, .inl ft))] := hD
  refine lv_istore_n (lv' := [(2, .int r_2), (0, .ref ta), (1, .int iv)]) hx hb dX4_readCell_5 rfl hl (by decide) rfl (fun ls hl => ?_)
  refine lv_aload_n hx hb dX4_readCell_6 rfl (lv_at hl 1 rfl) ?_
  refine lv_iload_n hx hb dX4_readCell_7 rfl (lv_at hl 2 rfl) ?_
  refine lv_iconst (v := 2) hx hb dX4_readCell_8 (by decide) ?_
  refine lv_iadd hx hb dX4_readCell_9 ?_
  refine lv_topi (fun tv_9 etv_9 => ?_)
  refine g_calli (wr := []) (va_runV (As := [.int tv_9]) (rest := []) ⟨hx, hb, hml, hown, hts⟩ (k_at l dC dI H.size ta tb cB ft L tv_9 (hL)) (cwV 1 hts (gG_V kw_295 kw_296 kw_297 kw_18 kw_298) rfl rfl rfl (by decide +kernel) ⟨Nat.le_of_ble_eq_true rfl, Nat.le_of_ble_eq_true rfl⟩) (g_preV (C := RX7) (T := TX7) (N := 2) hP hD hK hS hA hN hZ (q0 := 0) rfl rfl [0, 1] (by decide) rfl [0] rfl) rfl rfl hl.1 rfl (lv_room (Nat.le_of_ble_eq_true rfl)) dX4_readCell_10 ⟨Nat.le_of_ble_eq_true rfl, Nat.le_of_ble_eq_true rfl⟩) hP hD hK hS hA [0, 1] [] rfl rfl (by decide) (by decide) (fun r_10 w ty1 H locs hw_10 hP hD _ hS => ?_)
  have hu := hw_10
  cases hu
  have hP : va_P (dC, dI) vwCl [(ta, .inr (7, [.ref tb, .int (nI L)])), (tb, .inl (cB, 9000, .inl ft))] H := hP
  have hD : va_D A [(ta, .inr (7, [.ref tb, .int (nI L)])), (tb, .inl (cB, 9000, .inl ft))] := hD
  refine lv_istore_n (lv' := [(3, .int r_10), (2, .int r_2), (0, .ref ta), (1, .int iv)]) hx hb dX4_readCell_13 rfl hl (by decide) rfl (fun ls hl => ?_)
  refine lv_iload_n hx hb dX4_readCell_14 rfl (lv_at hl 1 rfl) ?_
  refine lv_bipush (v := 15) hx hb dX4_readCell_15 (by decide) ?_
  refine lv_iand hx hb dX4_readCell_17 ?_
  refine lv_topi (fun tv_17 etv_17 => ?_)
  refine lv_bipush (v := 8) hx hb dX4_readCell_18 (by decide) ?_
  refine lv_ishl hx hb dX4_readCell_20 ?_
  refine lv_topi (fun tv_20 etv_20 => ?_)
  refine lv_aload_n hx hb dX4_readCell_21 rfl (lv_at hl 2 rfl) ?_
  refine lv_iload_n hx hb dX4_readCell_22 rfl (lv_at hl 3 rfl) ?_
  refine lv_iconst (v := 1) hx hb dX4_readCell_23 (by decide) ?_
  refine lv_iadd hx hb dX4_readCell_24 ?_
  refine lv_topi (fun tv_24 etv_24 => ?_)
  refine g_calli (wr := []) (va_runV (As := [.int tv_24]) (rest := [.int tv_20]) ⟨hx, hb, hml, hown, hts⟩ (k_at l dC dI H.size ta tb cB ft L tv_24 (hL)) (cwV 1 hts (gG_V kw_295 kw_296 kw_297 kw_18 kw_298) rfl rfl rfl (by decide +kernel) ⟨Nat.le_of_ble_eq_true rfl, Nat.le_of_ble_eq_true rfl⟩) (g_preV (C := RX7) (T := TX7) (N := 2) hP hD hK hS hA hN hZ (q0 := 0) rfl rfl [0, 1] (by decide) rfl [0] rfl) rfl rfl hl.1 rfl (lv_room (Nat.le_of_ble_eq_true rfl)) dX4_readCell_25 ⟨Nat.le_of_ble_eq_true rfl, Nat.le_of_ble_eq_true rfl⟩) hP hD hK hS hA [0, 1] [] rfl rfl (by decide) (by decide) (fun r_25 w ty1 H locs hw_25 hP hD _ hS => ?_)
  have hu := hw_25
  cases hu
  have hP : va_P (dC, dI) vwCl [(ta, .inr (7, [.ref tb, .int (nI L)])), (tb, .inl (cB, 9000, .inl ft))] H := hP
  have hD : va_D A [(ta, .inr (7, [.ref tb, .int (nI L)])), (tb, .inl (cB, 9000, .inl ft))] := hD
  refine lv_ior hx hb dX4_readCell_28 ?_
  refine lv_topi (fun tv_28 etv_28 => ?_)
  refine lv_istore (lv' := [(4, .int tv_28), (3, .int r_10), (2, .int r_2), (0, .ref ta), (1, .int iv)]) hx hb dX4_readCell_29 hl (by decide) rfl (fun ls hl => ?_)
  refine lv_iload_n hx hb dX4_readCell_31 rfl (lv_at hl 2 rfl) ?_
  refine lv_sipush (v := 240) hx hb dX4_readCell_32 (by decide) ?_
  refine lv_iand hx hb dX4_readCell_35 ?_
  refine lv_topi (fun tv_35 etv_35 => ?_)
  refine lv_iload_n hx hb dX4_readCell_36 rfl (lv_at hl 1 rfl) ?_
  refine lv_iconst (v := 4) hx hb dX4_readCell_37 (by decide) ?_
  refine lv_ishr hx hb dX4_readCell_38 ?_
  refine lv_topi (fun tv_38 etv_38 => ?_)
  refine lv_ior hx hb dX4_readCell_39 ?_
  refine lv_topi (fun tv_39 etv_39 => ?_)
  refine lv_bipush (v := 31) hx hb dX4_readCell_40 (by decide) ?_
  refine lv_iand hx hb dX4_readCell_42 ?_
  refine lv_topi (fun tv_42 etv_42 => ?_)
  refine lv_istore (lv' := [(5, .int tv_42), (4, .int tv_28), (3, .int r_10), (2, .int r_2), (0, .ref ta), (1, .int iv)]) hx hb dX4_readCell_43 hl (by decide) rfl (fun ls hl => ?_)
  refine lv_iload hx hb dX4_readCell_45 (lv_at hl 1 rfl) ?_
  refine lv_bipush (v := 17) hx hb dX4_readCell_47 (by decide) ?_
  refine lv_ishl hx hb dX4_readCell_49 ?_
  refine lv_topi (fun tv_49 etv_49 => ?_)
  refine lv_iload hx hb dX4_readCell_50 (lv_at hl 0 rfl) ?_
  refine lv_bipush (v := 12) hx hb dX4_readCell_52 (by decide) ?_
  refine lv_ishl hx hb dX4_readCell_54 ?_
  refine lv_topi (fun tv_54 etv_54 => ?_)
  refine lv_ior hx hb dX4_readCell_55 ?_
  refine lv_topi (fun tv_55 etv_55 => ?_)
  refine lv_iload_n hx hb dX4_readCell_56 rfl (lv_at hl 2 rfl) ?_
  refine lv_bipush (v := 15) hx hb dX4_readCell_57 (by decide) ?_
  refine lv_iand hx hb dX4_readCell_59 ?_
  refine lv_topi (fun tv_59 etv_59 => ?_)
  refine lv_bipush (v := 8) hx hb dX4_readCell_60 (by decide) ?_
  refine lv_ishl hx hb dX4_readCell_62 ?_
  refine lv_topi (fun tv_62 etv_62 => ?_)
  refine lv_ior hx hb dX4_readCell_63 ?_
  refine lv_topi (fun tv_63 etv_63 => ?_)
  refine lv_aload_n hx hb dX4_readCell_64 rfl (lv_at hl 4 rfl) ?_
  refine lv_iload_n hx hb dX4_readCell_65 rfl (lv_at hl 5 rfl) ?_
  refine lv_iconst (v := 3) hx hb dX4_readCell_66 (by decide) ?_
  refine lv_iadd hx hb dX4_readCell_67 ?_
  refine lv_topi (fun tv_67 etv_67 => ?_)
  refine g_calli (wr := []) (va_runV (As := [.int tv_67]) (rest := [.int tv_63]) ⟨hx, hb, hml, hown, hts⟩ (k_at l dC dI H.size ta tb cB ft L tv_67 (hL)) (cwV 1 hts (gG_V kw_295 kw_296 kw_297 kw_18 kw_298) rfl rfl rfl (by decide +kernel) ⟨Nat.le_of_ble_eq_true rfl, Nat.le_of_ble_eq_true rfl⟩) (g_preV (C := RX7) (T := TX7) (N := 2) hP hD hK hS hA hN hZ (q0 := 0) rfl rfl [0, 1] (by decide) rfl [0] rfl) rfl rfl hl.1 rfl (lv_room (Nat.le_of_ble_eq_true rfl)) dX4_readCell_68 ⟨Nat.le_of_ble_eq_true rfl, Nat.le_of_ble_eq_true rfl⟩) hP hD hK hS hA [0, 1] [] rfl rfl (by decide) (by decide) (fun r_68 w ty1 H locs hw_68 hP hD _ hS => ?_)
  have hu := hw_68
  cases hu
  have hP : va_P (dC, dI) vwCl [(ta, .inr (7, [.ref tb, .int (nI L)])), (tb, .inl (cB, 9000, .inl ft))] H := hP
  have hD : va_D A [(ta, .inr (7, [.ref tb, .int (nI L)])), (tb, .inl (cB, 9000, .inl ft))] := hD
  refine lv_ior hx hb dX4_readCell_71 ?_
  refine lv_topi (fun tv_71 etv_71 => ?_)
  have hP9 := hP
  have hD9 := hD
  have hK9 := hK.sub (tys' := []) [] rfl
  exact W.iret (v := tv_71) hx hb hr (fun t ht hW => ⟨⟨tv_71, _, rfl, rfl, by rw [ht]; exact hP9, va_K.moved hW.alike hK9, hD9⟩, hS.F ht⟩) hS.2.2 dX4_readCell_72

set_option maxHeartbeats 400000 in
set_option maxRecDepth 100000 in
theorem k_readPattern (l : Launch) (dC : Nat → ClassId) (dI : Nat → Nat → Nat) (sz : Nat) (ta tb : Nat) (cB : ClassId) (ft : Nat → Int32) (L : Nat) (aS ce pl : Nat) (sln srs : Int32) (fc : Nat → Int32) (cI : ClassId) (pv : Int32) (hL : L ≤ 9000) : Met l yX4_readPattern (wsG (.code yX4_readPattern cX4_readPattern 6 none)) ({ frames := 3, cells := 0, slots := 0, locals := 67 }) (va_Pc [.ref ta, .ref aS, .int pv] (gP (dC, dI) [(cB, .byte), (cI, .int)] [(ta, .inr (7, [.ref tb, .int (nI L)])), (tb, .inl (cB, 9000, .inl ft)), (aS, .inr (6, [.ref ce, .ref pl, .int sln, .int srs])), (ce, .inl (cI, 2048, .inl fc))] sz)) (va_Qv (fun u : va_W × gT => ∃ (fc2 : Nat → Int32), u = ([(ta, .inr (7, [.ref tb, .int (nI L)])), (tb, .inl (cB, 9000, .inl ft)), (aS, .inr (6, [.ref ce, .ref pl, .int sln, .int srs])), (ce, .inl (cI, 2048, .inl fc2))], [])) (gB (dC, dI) (va_A [(ta, .inr (7, [.ref tb, .int (nI L)])), (tb, .inl (cB, 9000, .inl ft)), (aS, .inr (6, [.ref ce, .ref pl, .int sln, .int srs])), (ce, .inl (cI, 2048, .inl fc))] sz)) (va_A [(ta, .inr (7, [.ref tb, .int (nI L)])), (tb, .inl (cB, 9000, .inl ft)), (aS, .inr (6, [.ref ce, .ref pl, .int sln, .int srs])), (ce, .inl (cI, 2048, .inl fc))] sz)) 0 0 (va_A [(ta, .inr (7, [.ref tb, .int (nI L)])), (tb, .inl (cB, 9000, .inl ft)), (aS, .inr (6, [.ref ce, .ref pl, .int sln, .int srs])), (ce, .inl (cI, 2048, .inl fc))] sz) := by
  refine Met.ofW (cc := cX4_readPattern) (maxL := 6) (ret := none) (by decide) rfl ?_
  intro p e s m args below meth c s₁ B hml hv
  obtain ⟨rfl, hsz, hP, hK, hD0, hN, hZ⟩ := hv
  have hx := B.exec
  have hb := B.bytes
  have hr := B.returns
  have hts := atoms_spec (ws := (wsG (.code yX4_readPattern cX4_readPattern 6 none))) B.pre
  have hown : s.vm.findClass RX4 = some m.cls := findClass_of_methodNamed B.named
  have hlocks := B.notSynchronized
  subst hsz
  have hD := hD0.self (sz := s.heap.size)
  generalize hAe : va_A [(ta, .inr (7, [.ref tb, .int (nI L)])), (tb, .inl (cB, 9000, .inl ft)), (aS, .inr (6, [.ref ce, .ref pl, .int sln, .int srs])), (ce, .inl (cI, 2048, .inl fc))] s.heap.size = A at hD hZ ⊢
  have hA : ∀ q : Nat, s.heap.size ≤ q → A q := fun q h => by rw [← hAe]; exact Or.inr h
  have hl := lv_entry ([.ref ta, .ref aS, .int pv]) (n := 6) (Nat.le_of_ble_eq_true rfl)
  rw [lg_entry_eq]
  generalize (lg_sl ([.ref ta, .ref aS, .int pv]) ++ List.replicate (6 - (lg_sl ([.ref ta, .ref aS, .int pv])).length) Slot.unset).toArray = ls at hl ⊢
  have hl : lv_has ls 6 [(0, .ref ta), (1, .ref aS), (2, .int pv)] := hl
  refine g_start (A := A) hP (fun H locs hP hS => ?_)
  refine lv_iconst (v := 0) hx hb dX4_readPattern_0 (by decide) ?_
  refine lv_istore_n (lv' := [(3, .int 0), (0, .ref ta), (1, .ref aS), (2, .int pv)]) hx hb dX4_readPattern_1 rfl hl (by decide) rfl (fun ls hl => ?_)
  have LP2 : ∀ (fu2 : Nat) (q2 : Nat) (fc1 : Nat → Int32) (hq2 : q2 ≤ 64) (hm2 : 64 - q2 < fu2) (H : Heap) (locs : List Loc), va_P (dC, dI) vwCl [(ta, .inr (7, [.ref tb, .int (nI L)])), (tb, .inl (cB, 9000, .inl ft)), (aS, .inr (6, [.ref ce, .ref pl, .int sln, .int srs])), (ce, .inl (cI, 2048, .inl fc1))] H → va_D A [(ta, .inr (7, [.ref tb, .int (nI L)])), (tb, .inl (cB, 9000, .inl ft)), (aS, .inr (6, [.ref ce, .ref pl, .int sln, .int srs])), (ce, .inl (cI, 2048, .inl fc1))] → va_S A s.heap H locs → ∀ ls : Array Slot, lv_has ls 6 [(3, .int (nI q2)), (0, .ref ta), (1, .ref aS), (2, .int pv)] → W p l e ({ frames := 3, cells := 0, slots := 0, locals := 67 }) s m ([.ref ta, .ref aS, .int pv] : List Value).toArray below meth c H locs (0) (0) (MQ below (va_Qv (fun u : va_W × gT => ∃ (fc2 : Nat → Int32), u = ([(ta, .inr (7, [.ref tb, .int (nI L)])), (tb, .inl (cB, 9000, .inl ft)), (aS, .inr (6, [.ref ce, .ref pl, .int sln, .int srs])), (ce, .inl (cI, 2048, .inl fc2))], [])) (gB (dC, dI) A) A) ([.ref ta, .ref aS, .int pv] : List Value).toArray s 0 0 A) (F0 m 2 ls []) := by
    intro fu2
    induction fu2 with
    | zero => intro q2 fc1 hq2 hm2; exact absurd hm2 (Nat.not_lt_zero _)
    | succ fu2 ih2 =>
      intro q2 fc1 hq2 hm2 H locs hP hD hS ls hl
      refine lv_iload_n hx hb dX4_readPattern_2 rfl (lv_at hl 0 rfl) ?_
      refine lv_bipush (v := 64) hx hb dX4_readPattern_3 (by decide) ?_
      refine lv_icmp_ge (tgt := 52) hx hb dX4_readPattern_5 (by decide) (fun c_5 => ?_) (fun c_5 => ?_)
      · have hP9 := hP
        have hD9 := hD
        have hK9 := hK.sub (tys' := []) [] rfl
        exact W.vret hx hb hr (fun t ht hW => ⟨⟨_, rfl, ⟨fc1, rfl⟩, by rw [ht]; exact hP9, va_K.moved hW.alike hK9, hD9⟩, hS.F ht⟩) hS.2.2 dX4_readPattern_52
      refine lv_iconst (v := 0) hx hb dX4_readPattern_8 (by decide) ?_
      refine lv_istore (lv' := [(4, .int 0), (3, .int (nI q2)), (0, .ref ta), (1, .ref aS), (2, .int pv)]) hx hb dX4_readPattern_9 hl (by decide) rfl (fun ls hl => ?_)
      refine lv_iload hx hb dX4_readPattern_11 (lv_at hl 0 rfl) ?_
      refine lv_iconst (v := 4) hx hb dX4_readPattern_13 (by decide) ?_
      refine lv_icmp_ge (tgt := 46) hx hb dX4_readPattern_14 (by decide) (fun c_14 => absurd c_14 (by decide)) (fun c_14 => ?_)
      refine lv_iload_n hx hb dX4_readPattern_17 rfl (lv_at hl 4 rfl) ?_
      refine lv_iload_n hx hb dX4_readPattern_18 rfl (lv_at hl 1 rfl) ?_
      refine lv_iload hx hb dX4_readPattern_19 (lv_at hl 0 rfl) ?_
      refine g_calli (wr := [(ta, .inr (7, [.ref tb, .int (nI L)])), (tb, .inl (cB, 9000, .inl ft)), (aS, .inr (6, [.ref ce, .ref pl, .int sln, .int srs])), (ce, .inl (cI, 2048, .inl fc1))]) (va_runS (As := [.int pv, .int (nI q2), .int 0]) (rest := []) ⟨hx, hb, hml, hown, hts⟩ (k_cellAt l dC dI H.size pv (nI q2) 0 ) (va_cwS 3 hts (gG_S kw_354 kw_355 kw_30 kw_356) rfl rfl rfl (by decide +kernel) ⟨Nat.le_of_ble_eq_true rfl, Nat.le_of_ble_eq_true rfl⟩) (g_preS hP hD hK hS hA hN hZ [] (by decide) rfl [] rfl) rfl rfl hl.1 rfl (lv_room (Nat.le_of_ble_eq_true rfl)) dX4_readPattern_21 ⟨Nat.le_of_ble_eq_true rfl, Nat.le_of_ble_eq_true rfl⟩) hP hD hK hS hA [] [0, 1, 2, 3] rfl rfl (by decide) (by decide) (fun r_21 w ty1 H locs hw_21 hP hD _ hS => ?_)
      have hu := hw_21
      cases hu
      have hP : va_P (dC, dI) vwCl [(ta, .inr (7, [.ref tb, .int (nI L)])), (tb, .inl (cB, 9000, .inl ft)), (aS, .inr (6, [.ref ce, .ref pl, .int sln, .int srs])), (ce, .inl (cI, 2048, .inl fc1))] H := hP
      have hD : va_D A [(ta, .inr (7, [.ref tb, .int (nI L)])), (tb, .inl (cB, 9000, .inl ft)), (aS, .inr (6, [.ref ce, .ref pl, .int sln, .int srs])), (ce, .inl (cI, 2048, .inl fc1))] := hD
      refine lv_istore (lv' := [(5, .int r_21), (4, .int 0), (3, .int (nI q2)), (0, .ref ta), (1, .ref aS), (2, .int pv)]) hx hb dX4_readPattern_24 hl (by decide) rfl (fun ls hl => ?_)
      refine lv_aload_n hx hb dX4_readPattern_26 rfl (lv_at hl 4 rfl) ?_
      refine lv_iload_n hx hb dX4_readPattern_27 rfl (lv_at hl 5 rfl) ?_
      refine lv_iload_n hx hb dX4_readPattern_28 rfl (lv_at hl 2 rfl) ?_
      refine lv_iload hx hb dX4_readPattern_29 (lv_at hl 1 rfl) ?_
      refine lv_aload_n hx hb dX4_readPattern_31 rfl (lv_at hl 3 rfl) ?_
      refine lv_iload hx hb dX4_readPattern_32 (lv_at hl 0 rfl) ?_
      refine g_calli (wr := [(aS, .inr (6, [.ref ce, .ref pl, .int sln, .int srs])), (ce, .inl (cI, 2048, .inl fc1))]) (va_runS (As := [.ref ta, .int r_21]) (rest := [.int 0, .int (nI q2), .int pv, .ref aS]) ⟨hx, hb, hml, hown, hts⟩ (k_readCell l dC dI H.size ta tb cB ft L r_21 (hL)) (va_cwS 2 hts (gG_S kw_357 kw_358 kw_30 kw_359) rfl rfl rfl (by decide +kernel) ⟨Nat.le_of_ble_eq_true rfl, Nat.le_of_ble_eq_true rfl⟩) (g_preS hP hD hK hS hA hN hZ [0, 1] (by decide) rfl [0] rfl) rfl rfl hl.1 rfl (lv_room (Nat.le_of_ble_eq_true rfl)) dX4_readPattern_34 ⟨Nat.le_of_ble_eq_true rfl, Nat.le_of_ble_eq_true rfl⟩) hP hD hK hS hA [0, 1] [2, 3] rfl rfl (by decide) (by decide) (fun r_34 w ty1 H locs hw_34 hP hD _ hS => ?_)
      have hu := hw_34
      cases hu
      have hP : va_P (dC, dI) vwCl [(aS, .inr (6, [.ref ce, .ref pl, .int sln, .int srs])), (ce, .inl (cI, 2048, .inl fc1)), (ta, .inr (7, [.ref tb, .int (nI L)])), (tb, .inl (cB, 9000, .inl ft))] H := hP
      have hD : va_D A [(aS, .inr (6, [.ref ce, .ref pl, .int sln, .int srs])), (ce, .inl (cI, 2048, .inl fc1)), (ta, .inr (7, [.ref tb, .int (nI L)])), (tb, .inl (cB, 9000, .inl ft))] := hD
      refine g_callv (wr := [(ta, .inr (7, [.ref tb, .int (nI L)])), (tb, .inl (cB, 9000, .inl ft))]) (va_runV (As := [.int pv, .int (nI q2), .int 0, .int r_34]) (rest := []) ⟨hx, hb, hml, hown, hts⟩ (k_putCell l dC dI H.size aS ce pl sln srs cI fc1 pv (nI q2) 0 r_34 ) (cwV 4 hts (gG_V kw_360 kw_361 kw_362 kw_26 kw_363) rfl rfl rfl (by decide +kernel) ⟨Nat.le_of_ble_eq_true rfl, Nat.le_of_ble_eq_true rfl⟩) (g_preV (C := RX6) (T := TX6) (N := 4) hP hD hK hS hA hN hZ (q0 := 0) rfl rfl [0, 1] (by decide) rfl [1] rfl) rfl rfl hl.1 rfl (lv_room (Nat.le_of_ble_eq_true rfl)) dX4_readPattern_37 ⟨Nat.le_of_ble_eq_true rfl, Nat.le_of_ble_eq_true rfl⟩) hP hD hK hS hA [0, 1] [2, 3] rfl rfl (by decide) (by decide) (fun w ty1 H locs hw_37 hP hD _ hS => ?_)
      rcases hw_37 with ⟨f2_37, hu⟩
      cases hu
      have hP : va_P (dC, dI) vwCl [(ta, .inr (7, [.ref tb, .int (nI L)])), (tb, .inl (cB, 9000, .inl ft)), (aS, .inr (6, [.ref ce, .ref pl, .int sln, .int srs])), (ce, .inl (cI, 2048, .inl f2_37))] H := hP
      have hD : va_D A [(ta, .inr (7, [.ref tb, .int (nI L)])), (tb, .inl (cB, 9000, .inl ft)), (aS, .inr (6, [.ref ce, .ref pl, .int sln, .int srs])), (ce, .inl (cI, 2048, .inl f2_37))] := hD
      refine lv_iinc (v := 1) (lv' := [(4, .int 1), (5, .int r_21), (3, .int (nI q2)), (0, .ref ta), (1, .ref aS), (2, .int pv)]) hx hb dX4_readPattern_40 hl (k := 1) rfl (by decide) (by decide) rfl (fun ls hl => ?_)
      refine lv_goto (tgt := 11) hx hb dX4_readPattern_43 (by decide) ?_
      refine lv_iload hx hb dX4_readPattern_11 (lv_at hl 0 rfl) ?_
      refine lv_iconst (v := 4) hx hb dX4_readPattern_13 (by decide) ?_
      refine lv_icmp_ge (tgt := 46) hx hb dX4_readPattern_14 (by decide) (fun c_14_2 => absurd c_14_2 (by decide)) (fun c_14_2 => ?_)
      refine lv_iload_n hx hb dX4_readPattern_17 rfl (lv_at hl 5 rfl) ?_
      refine lv_iload_n hx hb dX4_readPattern_18 rfl (lv_at hl 2 rfl) ?_
      refine lv_iload hx hb dX4_readPattern_19 (lv_at hl 0 rfl) ?_
      refine g_calli (wr := [(ta, .inr (7, [.ref tb, .int (nI L)])), (tb, .inl (cB, 9000, .inl ft)), (aS, .inr (6, [.ref ce, .ref pl, .int sln, .int srs])), (ce, .inl (cI, 2048, .inl f2_37))]) (va_runS (As := [.int pv, .int (nI q2), .int 1]) (rest := []) ⟨hx, hb, hml, hown, hts⟩ (k_cellAt l dC dI H.size pv (nI q2) 1 ) (va_cwS 3 hts (gG_S kw_354 kw_355 kw_30 kw_356) rfl rfl rfl (by decide +kernel) ⟨Nat.le_of_ble_eq_true rfl, Nat.le_of_ble_eq_true rfl⟩) (g_preS hP hD hK hS hA hN hZ [] (by decide) rfl [] rfl) rfl rfl hl.1 rfl (lv_room (Nat.le_of_ble_eq_true rfl)) dX4_readPattern_21 ⟨Nat.le_of_ble_eq_true rfl, Nat.le_of_ble_eq_true rfl⟩) hP hD hK hS hA [] [0, 1, 2, 3] rfl rfl (by decide) (by decide) (fun r_21_2 w ty1 H locs hw_21 hP hD _ hS => ?_)
      have hu := hw_21
      cases hu
      have hP : va_P (dC, dI) vwCl [(ta, .inr (7, [.ref tb, .int (nI L)])), (tb, .inl (cB, 9000, .inl ft)), (aS, .inr (6, [.ref ce, .ref pl, .int sln, .int srs])), (ce, .inl (cI, 2048, .inl f2_37))] H := hP
      have hD : va_D A [(ta, .inr (7, [.ref tb, .int (nI L)])), (tb, .inl (cB, 9000, .inl ft)), (aS, .inr (6, [.ref ce, .ref pl, .int sln, .int srs])), (ce, .inl (cI, 2048, .inl f2_37))] := hD
      refine lv_istore (lv' := [(5, .int r_21_2), (4, .int 1), (3, .int (nI q2)), (0, .ref ta), (1, .ref aS), (2, .int pv)]) hx hb dX4_readPattern_24 hl (by decide) rfl (fun ls hl => ?_)
      refine lv_aload_n hx hb dX4_readPattern_26 rfl (lv_at hl 4 rfl) ?_
      refine lv_iload_n hx hb dX4_readPattern_27 rfl (lv_at hl 5 rfl) ?_
      refine lv_iload_n hx hb dX4_readPattern_28 rfl (lv_at hl 2 rfl) ?_
      refine lv_iload hx hb dX4_readPattern_29 (lv_at hl 1 rfl) ?_
      refine lv_aload_n hx hb dX4_readPattern_31 rfl (lv_at hl 3 rfl) ?_
      refine lv_iload hx hb dX4_readPattern_32 (lv_at hl 0 rfl) ?_
      refine g_calli (wr := [(aS, .inr (6, [.ref ce, .ref pl, .int sln, .int srs])), (ce, .inl (cI, 2048, .inl f2_37))]) (va_runS (As := [.ref ta, .int r_21_2]) (rest := [.int 1, .int (nI q2), .int pv, .ref aS]) ⟨hx, hb, hml, hown, hts⟩ (k_readCell l dC dI H.size ta tb cB ft L r_21_2 (hL)) (va_cwS 2 hts (gG_S kw_357 kw_358 kw_30 kw_359) rfl rfl rfl (by decide +kernel) ⟨Nat.le_of_ble_eq_true rfl, Nat.le_of_ble_eq_true rfl⟩) (g_preS hP hD hK hS hA hN hZ [0, 1] (by decide) rfl [0] rfl) rfl rfl hl.1 rfl (lv_room (Nat.le_of_ble_eq_true rfl)) dX4_readPattern_34 ⟨Nat.le_of_ble_eq_true rfl, Nat.le_of_ble_eq_true rfl⟩) hP hD hK hS hA [0, 1] [2, 3] rfl rfl (by decide) (by decide) (fun r_34_2 w ty1 H locs hw_34 hP hD _ hS => ?_)
      have hu := hw_34
      cases hu
      have hP : va_P (dC, dI) vwCl [(aS, .inr (6, [.ref ce, .ref pl, .int sln, .int srs])), (ce, .inl (cI, 2048, .inl f2_37)), (ta, .inr (7, [.ref tb, .int (nI L)])), (tb, .inl (cB, 9000, .inl ft))] H := hP
      have hD : va_D A [(aS, .inr (6, [.ref ce, .ref pl, .int sln, .int srs])), (ce, .inl (cI, 2048, .inl f2_37)), (ta, .inr (7, [.ref tb, .int (nI L)])), (tb, .inl (cB, 9000, .inl ft))] := hD
      refine g_callv (wr := [(ta, .inr (7, [.ref tb, .int (nI L)])), (tb, .inl (cB, 9000, .inl ft))]) (va_runV (As := [.int pv, .int (nI q2), .int 1, .int r_34_2]) (rest := []) ⟨hx, hb, hml, hown, hts⟩ (k_putCell l dC dI H.size aS ce pl sln srs cI f2_37 pv (nI q2) 1 r_34_2 ) (cwV 4 hts (gG_V kw_360 kw_361 kw_362 kw_26 kw_363) rfl rfl rfl (by decide +kernel) ⟨Nat.le_of_ble_eq_true rfl, Nat.le_of_ble_eq_true rfl⟩) (g_preV (C := RX6) (T := TX6) (N := 4) hP hD hK hS hA hN hZ (q0 := 0) rfl rfl [0, 1] (by decide) rfl [1] rfl) rfl rfl hl.1 rfl (lv_room (Nat.le_of_ble_eq_true rfl)) dX4_readPattern_37 ⟨Nat.le_of_ble_eq_true rfl, Nat.le_of_ble_eq_true rfl⟩) hP hD hK hS hA [0, 1] [2, 3] rfl rfl (by decide) (by decide) (fun w ty1 H locs hw_37 hP hD _ hS => ?_)
      rcases hw_37 with ⟨f2_37_2, hu⟩
      cases hu
      have hP : va_P (dC, dI) vwCl [(ta, .inr (7, [.ref tb, .int (nI L)])), (tb, .inl (cB, 9000, .inl ft)), (aS, .inr (6, [.ref ce, .ref pl, .int sln, .int srs])), (ce, .inl (cI, 2048, .inl f2_37_2))] H := hP
      have hD : va_D A [(ta, .inr (7, [.ref tb, .int (nI L)])), (tb, .inl (cB, 9000, .inl ft)), (aS, .inr (6, [.ref ce, .ref pl, .int sln, .int srs])), (ce, .inl (cI, 2048, .inl f2_37_2))] := hD
      refine lv_iinc (v := 2) (lv' := [(4, .int 2), (5, .int r_21_2), (3, .int (nI q2)), (0, .ref ta), (1, .ref aS), (2, .int pv)]) hx hb dX4_readPattern_40 hl (k := 1) rfl (by decide) (by decide) rfl (fun ls hl => ?_)
      refine lv_goto (tgt := 11) hx hb dX4_readPattern_43 (by decide) ?_
      refine lv_iload hx hb dX4_readPattern_11 (lv_at hl 0 rfl) ?_
      refine lv_iconst (v := 4) hx hb dX4_readPattern_13 (by decide) ?_
      refine lv_icmp_ge (tgt := 46) hx hb dX4_readPattern_14 (by decide) (fun c_14_3 => absurd c_14_3 (by decide)) (fun c_14_3 => ?_)
      refine lv_iload_n hx hb dX4_readPattern_17 rfl (lv_at hl 5 rfl) ?_
      refine lv_iload_n hx hb dX4_readPattern_18 rfl (lv_at hl 2 rfl) ?_
      refine lv_iload hx hb dX4_readPattern_19 (lv_at hl 0 rfl) ?_
      refine g_calli (wr := [(ta, .inr (7, [.ref tb, .int (nI L)])), (tb, .inl (cB, 9000, .inl ft)), (aS, .inr (6, [.ref ce, .ref pl, .int sln, .int srs])), (ce, .inl (cI, 2048, .inl f2_37_2))]) (va_runS (As := [.int pv, .int (nI q2), .int 2]) (rest := []) ⟨hx, hb, hml, hown, hts⟩ (k_cellAt l dC dI H.size pv (nI q2) 2 ) (va_cwS 3 hts (gG_S kw_354 kw_355 kw_30 kw_356) rfl rfl rfl (by decide +kernel) ⟨Nat.le_of_ble_eq_true rfl, Nat.le_of_ble_eq_true rfl⟩) (g_preS hP hD hK hS hA hN hZ [] (by decide) rfl [] rfl) rfl rfl hl.1 rfl (lv_room (Nat.le_of_ble_eq_true rfl)) dX4_readPattern_21 ⟨Nat.le_of_ble_eq_true rfl, Nat.le_of_ble_eq_true rfl⟩) hP hD hK hS hA [] [0, 1, 2, 3] rfl rfl (by decide) (by decide) (fun r_21_3 w ty1 H locs hw_21 hP hD _ hS => ?_)
      have hu := hw_21
      cases hu
      have hP : va_P (dC, dI) vwCl [(ta, .inr (7, [.ref tb, .int (nI L)])), (tb, .inl (cB, 9000, .inl ft)), (aS, .inr (6, [.ref ce, .ref pl, .int sln, .int srs])), (ce, .inl (cI, 2048, .inl f2_37_2))] H := hP
      have hD : va_D A [(ta, .inr (7, [.ref tb, .int (nI L)])), (tb, .inl (cB, 9000, .inl ft)), (aS, .inr (6, [.ref ce, .ref pl, .int sln, .int srs])), (ce, .inl (cI, 2048, .inl f2_37_2))] := hD
      refine lv_istore (lv' := [(5, .int r_21_3), (4, .int 2), (3, .int (nI q2)), (0, .ref ta), (1, .ref aS), (2, .int pv)]) hx hb dX4_readPattern_24 hl (by decide) rfl (fun ls hl => ?_)
      refine lv_aload_n hx hb dX4_readPattern_26 rfl (lv_at hl 4 rfl) ?_
      refine lv_iload_n hx hb dX4_readPattern_27 rfl (lv_at hl 5 rfl) ?_
      refine lv_iload_n hx hb dX4_readPattern_28 rfl (lv_at hl 2 rfl) ?_
      refine lv_iload hx hb dX4_readPattern_29 (lv_at hl 1 rfl) ?_
      refine lv_aload_n hx hb dX4_readPattern_31 rfl (lv_at hl 3 rfl) ?_
      refine lv_iload hx hb dX4_readPattern_32 (lv_at hl 0 rfl) ?_
      refine g_calli (wr := [(aS, .inr (6, [.ref ce, .ref pl, .int sln, .int srs])), (ce, .inl (cI, 2048, .inl f2_37_2))]) (va_runS (As := [.ref ta, .int r_21_3]) (rest := [.int 2, .int (nI q2), .int pv, .ref aS]) ⟨hx, hb, hml, hown, hts⟩ (k_readCell l dC dI H.size ta tb cB ft L r_21_3 (hL)) (va_cwS 2 hts (gG_S kw_357 kw_358 kw_30 kw_359) rfl rfl rfl (by decide +kernel) ⟨Nat.le_of_ble_eq_true rfl, Nat.le_of_ble_eq_true rfl⟩) (g_preS hP hD hK hS hA hN hZ [0, 1] (by decide) rfl [0] rfl) rfl rfl hl.1 rfl (lv_room (Nat.le_of_ble_eq_true rfl)) dX4_readPattern_34 ⟨Nat.le_of_ble_eq_true rfl, Nat.le_of_ble_eq_true rfl⟩) hP hD hK hS hA [0, 1] [2, 3] rfl rfl (by decide) (by decide) (fun r_34_3 w ty1 H locs hw_34 hP hD _ hS => ?_)
      have hu := hw_34
      cases hu
      have hP : va_P (dC, dI) vwCl [(aS, .inr (6, [.ref ce, .ref pl, .int sln, .int srs])), (ce, .inl (cI, 2048, .inl f2_37_2)), (ta, .inr (7, [.ref tb, .int (nI L)])), (tb, .inl (cB, 9000, .inl ft))] H := hP
      have hD : va_D A [(aS, .inr (6, [.ref ce, .ref pl, .int sln, .int srs])), (ce, .inl (cI, 2048, .inl f2_37_2)), (ta, .inr (7, [.ref tb, .int (nI L)])), (tb, .inl (cB, 9000, .inl ft))] := hD
      refine g_callv (wr := [(ta, .inr (7, [.ref tb, .int (nI L)])), (tb, .inl (cB, 9000, .inl ft))]) (va_runV (As := [.int pv, .int (nI q2), .int 2, .int r_34_3]) (rest := []) ⟨hx, hb, hml, hown, hts⟩ (k_putCell l dC dI H.size aS ce pl sln srs cI f2_37_2 pv (nI q2) 2 r_34_3 ) (cwV 4 hts (gG_V kw_360 kw_361 kw_362 kw_26 kw_363) rfl rfl rfl (by decide +kernel) ⟨Nat.le_of_ble_eq_true rfl, Nat.le_of_ble_eq_true rfl⟩) (g_preV (C := RX6) (T := TX6) (N := 4) hP hD hK hS hA hN hZ (q0 := 0) rfl rfl [0, 1] (by decide) rfl [1] rfl) rfl rfl hl.1 rfl (lv_room (Nat.le_of_ble_eq_true rfl)) dX4_readPattern_37 ⟨Nat.le_of_ble_eq_true rfl, Nat.le_of_ble_eq_true rfl⟩) hP hD hK hS hA [0, 1] [2, 3] rfl rfl (by decide) (by decide) (fun w ty1 H locs hw_37 hP hD _ hS => ?_)
      rcases hw_37 with ⟨f2_37_3, hu⟩
      cases hu
      have hP : va_P (dC, dI) vwCl [(ta, .inr (7, [.ref tb, .int (nI L)])), (tb, .inl (cB, 9000, .inl ft)), (aS, .inr (6, [.ref ce, .ref pl, .int sln, .int srs])), (ce, .inl (cI, 2048, .inl f2_37_3))] H := hP
      have hD : va_D A [(ta, .inr (7, [.ref tb, .int (nI L)])), (tb, .inl (cB, 9000, .inl ft)), (aS, .inr (6, [.ref ce, .ref pl, .int sln, .int srs])), (ce, .inl (cI, 2048, .inl f2_37_3))] := hD
      refine lv_iinc (v := 3) (lv' := [(4, .int 3), (5, .int r_21_3), (3, .int (nI q2)), (0, .ref ta), (1, .ref aS), (2, .int pv)]) hx hb dX4_readPattern_40 hl (k := 1) rfl (by decide) (by decide) rfl (fun ls hl => ?_)
      refine lv_goto (tgt := 11) hx hb dX4_readPattern_43 (by decide) ?_
      refine lv_iload hx hb dX4_readPattern_11 (lv_at hl 0 rfl) ?_
      refine lv_iconst (v := 4) hx hb dX4_readPattern_13 (by decide) ?_
      refine lv_icmp_ge (tgt := 46) hx hb dX4_readPattern_14 (by decide) (fun c_14_4 => absurd c_14_4 (by decide)) (fun c_14_4 => ?_)
      refine lv_iload_n hx hb dX4_readPattern_17 rfl (lv_at hl 5 rfl) ?_
      refine lv_iload_n hx hb dX4_readPattern_18 rfl (lv_at hl 2 rfl) ?_
      refine lv_iload hx hb dX4_readPattern_19 (lv_at hl 0 rfl) ?_
      refine g_calli (wr := [(ta, .inr (7, [.ref tb, .int (nI L)])), (tb, .inl (cB, 9000, .inl ft)), (aS, .inr (6, [.ref ce, .ref pl, .int sln, .int srs])), (ce, .inl (cI, 2048, .inl f2_37_3))]) (va_runS (As := [.int pv, .int (nI q2), .int 3]) (rest := []) ⟨hx, hb, hml, hown, hts⟩ (k_cellAt l dC dI H.size pv (nI q2) 3 ) (va_cwS 3 hts (gG_S kw_354 kw_355 kw_30 kw_356) rfl rfl rfl (by decide +kernel) ⟨Nat.le_of_ble_eq_true rfl, Nat.le_of_ble_eq_true rfl⟩) (g_preS hP hD hK hS hA hN hZ [] (by decide) rfl [] rfl) rfl rfl hl.1 rfl (lv_room (Nat.le_of_ble_eq_true rfl)) dX4_readPattern_21 ⟨Nat.le_of_ble_eq_true rfl, Nat.le_of_ble_eq_true rfl⟩) hP hD hK hS hA [] [0, 1, 2, 3] rfl rfl (by decide) (by decide) (fun r_21_4 w ty1 H locs hw_21 hP hD _ hS => ?_)
      have hu := hw_21
      cases hu
      have hP : va_P (dC, dI) vwCl [(ta, .inr (7, [.ref tb, .int (nI L)])), (tb, .inl (cB, 9000, .inl ft)), (aS, .inr (6, [.ref ce, .ref pl, .int sln, .int srs])), (ce, .inl (cI, 2048, .inl f2_37_3))] H := hP
      have hD : va_D A [(ta, .inr (7, [.ref tb, .int (nI L)])), (tb, .inl (cB, 9000, .inl ft)), (aS, .inr (6, [.ref ce, .ref pl, .int sln, .int srs])), (ce, .inl (cI, 2048, .inl f2_37_3))] := hD
      refine lv_istore (lv' := [(5, .int r_21_4), (4, .int 3), (3, .int (nI q2)), (0, .ref ta), (1, .ref aS), (2, .int pv)]) hx hb dX4_readPattern_24 hl (by decide) rfl (fun ls hl => ?_)
      refine lv_aload_n hx hb dX4_readPattern_26 rfl (lv_at hl 4 rfl) ?_
      refine lv_iload_n hx hb dX4_readPattern_27 rfl (lv_at hl 5 rfl) ?_
      refine lv_iload_n hx hb dX4_readPattern_28 rfl (lv_at hl 2 rfl) ?_
      refine lv_iload hx hb dX4_readPattern_29 (lv_at hl 1 rfl) ?_
      refine lv_aload_n hx hb dX4_readPattern_31 rfl (lv_at hl 3 rfl) ?_
      refine lv_iload hx hb dX4_readPattern_32 (lv_at hl 0 rfl) ?_
      refine g_calli (wr := [(aS, .inr (6, [.ref ce, .ref pl, .int sln, .int srs])), (ce, .inl (cI, 2048, .inl f2_37_3))]) (va_runS (As := [.ref ta, .int r_21_4]) (rest := [.int 3, .int (nI q2), .int pv, .ref aS]) ⟨hx, hb, hml, hown, hts⟩ (k_readCell l dC dI H.size ta tb cB ft L r_21_4 (hL)) (va_cwS 2 hts (gG_S kw_357 kw_358 kw_30 kw_359) rfl rfl rfl (by decide +kernel) ⟨Nat.le_of_ble_eq_true rfl, Nat.le_of_ble_eq_true rfl⟩) (g_preS hP hD hK hS hA hN hZ [0, 1] (by decide) rfl [0] rfl) rfl rfl hl.1 rfl (lv_room (Nat.le_of_ble_eq_true rfl)) dX4_readPattern_34 ⟨Nat.le_of_ble_eq_true rfl, Nat.le_of_ble_eq_true rfl⟩) hP hD hK hS hA [0, 1] [2, 3] rfl rfl (by decide) (by decide) (fun r_34_4 w ty1 H locs hw_34 hP hD _ hS => ?_)
      have hu := hw_34
      cases hu
      have hP : va_P (dC, dI) vwCl [(aS, .inr (6, [.ref ce, .ref pl, .int sln, .int srs])), (ce, .inl (cI, 2048, .inl f2_37_3)), (ta, .inr (7, [.ref tb, .int (nI L)])), (tb, .inl (cB, 9000, .inl ft))] H := hP
      have hD : va_D A [(aS, .inr (6, [.ref ce, .ref pl, .int sln, .int srs])), (ce, .inl (cI, 2048, .inl f2_37_3)), (ta, .inr (7, [.ref tb, .int (nI L)])), (tb, .inl (cB, 9000, .inl ft))] := hD
      refine g_callv (wr := [(ta, .inr (7, [.ref tb, .int (nI L)])), (tb, .inl (cB, 9000, .inl ft))]) (va_runV (As := [.int pv, .int (nI q2), .int 3, .int r_34_4]) (rest := []) ⟨hx, hb, hml, hown, hts⟩ (k_putCell l dC dI H.size aS ce pl sln srs cI f2_37_3 pv (nI q2) 3 r_34_4 ) (cwV 4 hts (gG_V kw_360 kw_361 kw_362 kw_26 kw_363) rfl rfl rfl (by decide +kernel) ⟨Nat.le_of_ble_eq_true rfl, Nat.le_of_ble_eq_true rfl⟩) (g_preV (C := RX6) (T := TX6) (N := 4) hP hD hK hS hA hN hZ (q0 := 0) rfl rfl [0, 1] (by decide) rfl [1] rfl) rfl rfl hl.1 rfl (lv_room (Nat.le_of_ble_eq_true rfl)) dX4_readPattern_37 ⟨Nat.le_of_ble_eq_true rfl, Nat.le_of_ble_eq_true rfl⟩) hP hD hK hS hA [0, 1] [2, 3] rfl rfl (by decide) (by decide) (fun w ty1 H locs hw_37 hP hD _ hS => ?_)
      rcases hw_37 with ⟨f2_37_4, hu⟩
      cases hu
      have hP : va_P (dC, dI) vwCl [(ta, .inr (7, [.ref tb, .int (nI L)])), (tb, .inl (cB, 9000, .inl ft)), (aS, .inr (6, [.ref ce, .ref pl, .int sln, .int srs])), (ce, .inl (cI, 2048, .inl f2_37_4))] H := hP
      have hD : va_D A [(ta, .inr (7, [.ref tb, .int (nI L)])), (tb, .inl (cB, 9000, .inl ft)), (aS, .inr (6, [.ref ce, .ref pl, .int sln, .int srs])), (ce, .inl (cI, 2048, .inl f2_37_4))] := hD
      refine lv_iinc (v := 4) (lv' := [(4, .int 4), (5, .int r_21_4), (3, .int (nI q2)), (0, .ref ta), (1, .ref aS), (2, .int pv)]) hx hb dX4_readPattern_40 hl (k := 1) rfl (by decide) (by decide) rfl (fun ls hl => ?_)
      refine lv_goto (tgt := 11) hx hb dX4_readPattern_43 (by decide) ?_
      refine lv_iload hx hb dX4_readPattern_11 (lv_at hl 0 rfl) ?_
      refine lv_iconst (v := 4) hx hb dX4_readPattern_13 (by decide) ?_
      refine lv_icmp_ge (tgt := 46) hx hb dX4_readPattern_14 (by decide) (fun c_14_5 => ?_) (fun c_14_5 => absurd c_14_5 (by decide))
      refine lv_iinc (v := nI (q2 + 1)) (lv' := [(3, .int (nI (q2 + 1))), (4, .int 4), (5, .int r_21_4), (0, .ref ta), (1, .ref aS), (2, .int pv)]) hx hb dX4_readPattern_46 hl (k := 2) rfl (nI_1 q2) (by decide) rfl (fun ls hl => ?_)
      refine lv_goto (tgt := 2) hx hb dX4_readPattern_49 (by decide) ?_
      exact ih2 (q2 + 1) f2_37_4 (by have := nI_nle' (a := 64) c_5 (by omega); omega) (by have := nI_nle' (a := 64) c_5 (by omega); omega) _ _ (hP.sub [0, 1, 2, 3] rfl) (hD.sub [0, 1, 2, 3] (by decide) rfl) hS _ (lv_sub hl [0, 3, 4, 5] rfl)
  exact LP2 _ 0 fc (Nat.zero_le _) (Nat.lt_succ_self _) _ _ (hP.sub [0, 1, 2, 3] rfl) (hD.sub [0, 1, 2, 3] (by decide) rfl) hS _ (lv_sub hl [0, 1, 2, 3] rfl)

set_option maxHeartbeats 400000 in
set_option maxRecDepth 100000 in
theorem k_readSong (l : Launch) (dC : Nat → ClassId) (dI : Nat → Nat → Nat) (sz : Nat) (ta tb : Nat) (cB : ClassId) (ft : Nat → Int32) (L : Nat) (aS ce pl : Nat) (sln srs : Int32) (fc fp : Nat → Int32) (cI : ClassId) (hL : L ≤ 9000) : Met l yX4_readSong (wsG (.code yX4_readSong cX4_readSong 4 none)) ({ frames := 4, cells := 0, slots := 0, locals := 92 }) (va_Pc [.ref ta, .ref aS] (gP (dC, dI) [(cB, .byte), (cI, .int)] [(ta, .inr (7, [.ref tb, .int (nI L)])), (tb, .inl (cB, 9000, .inl ft)), (aS, .inr (6, [.ref ce, .ref pl, .int sln, .int srs])), (ce, .inl (cI, 2048, .inl fc)), (pl, .inl (cI, 128, .inl fp))] sz)) (va_Qv (fun u : va_W × gT => ∃ (sln2 : Int32) (srs2 : Int32) (fc2 : Nat → Int32) (fp2 : Nat → Int32), u = ([(ta, .inr (7, [.ref tb, .int (nI L)])), (tb, .inl (cB, 9000, .inl ft)), (aS, .inr (6, [.ref ce, .ref pl, .int sln2, .int srs2])), (ce, .inl (cI, 2048, .inl fc2)), (pl, .inl (cI, 128, .inl fp2))], [])) (gB (dC, dI) (va_A [(ta, .inr (7, [.ref tb, .int (nI L)])), (tb, .inl (cB, 9000, .inl ft)), (aS, .inr (6, [.ref ce, .ref pl, .int sln, .int srs])), (ce, .inl (cI, 2048, .inl fc)), (pl, .inl (cI, 128, .inl fp))] sz)) (va_A [(ta, .inr (7, [.ref tb, .int (nI L)])), (tb, .inl (cB, 9000, .inl ft)), (aS, .inr (6, [.ref ce, .ref pl, .int sln, .int srs])), (ce, .inl (cI, 2048, .inl fc)), (pl, .inl (cI, 128, .inl fp))] sz)) 0 0 (va_A [(ta, .inr (7, [.ref tb, .int (nI L)])), (tb, .inl (cB, 9000, .inl ft)), (aS, .inr (6, [.ref ce, .ref pl, .int sln, .int srs])), (ce, .inl (cI, 2048, .inl fc)), (pl, .inl (cI, 128, .inl fp))] sz) := by
  refine Met.ofW (cc := cX4_readSong) (maxL := 4) (ret := none) (by decide) rfl ?_
  intro p e s m args below meth c s₁ B hml hv
  obtain ⟨rfl, hsz, hP, hK, hD0, hN, hZ⟩ := hv
  have hx := B.exec
  have hb := B.bytes
  have hr := B.returns
  have hts := atoms_spec (ws := (wsG (.code yX4_readSong cX4_readSong 4 none))) B.pre
  have hown : s.vm.findClass RX4 = some m.cls := findClass_of_methodNamed B.named
  have hlocks := B.notSynchronized
  subst hsz
  have hD := hD0.self (sz := s.heap.size)
  generalize hAe : va_A [(ta, .inr (7, [.ref tb, .int (nI L)])), (tb, .inl (cB, 9000, .inl ft)), (aS, .inr (6, [.ref ce, .ref pl, .int sln, .int srs])), (ce, .inl (cI, 2048, .inl fc)), (pl, .inl (cI, 128, .inl fp))] s.heap.size = A at hD hZ ⊢
  have hA : ∀ q : Nat, s.heap.size ≤ q → A q := fun q h => by rw [← hAe]; exact Or.inr h
  have hl := lv_entry ([.ref ta, .ref aS]) (n := 4) (Nat.le_of_ble_eq_true rfl)
  rw [lg_entry_eq]
  generalize (lg_sl ([.ref ta, .ref aS]) ++ List.replicate (4 - (lg_sl ([.ref ta, .ref aS])).length) Slot.unset).toArray = ls at hl ⊢
  have hl : lv_has ls 4 [(0, .ref ta), (1, .ref aS)] := hl
  refine g_start (A := A) hP (fun H locs hP hS => ?_)
  refine lv_aload_n hx hb dX4_readSong_0 rfl (lv_at hl 1 rfl) ?_
  refine g_callv (wr := [(ta, .inr (7, [.ref tb, .int (nI L)])), (tb, .inl (cB, 9000, .inl ft))]) (va_runV (As := []) (rest := []) ⟨hx, hb, hml, hown, hts⟩ (k_sclear l dC dI H.size aS ce pl sln srs fc fp cI ) (cwV 0 hts (gG_V kw_339 kw_340 kw_341 kw_26 kw_342) rfl rfl rfl (by decide +kernel) ⟨Nat.le_of_ble_eq_true rfl, Nat.le_of_ble_eq_true rfl⟩) (g_preV (C := RX6) (T := TX6) (N := 4) hP hD hK hS hA hN hZ (q0 := 2) rfl rfl [2, 3, 4] (by decide) rfl [1] rfl) rfl rfl hl.1 rfl (lv_room (Nat.le_of_ble_eq_true rfl)) dX4_readSong_1 ⟨Nat.le_of_ble_eq_true rfl, Nat.le_of_ble_eq_true rfl⟩) hP hD hK hS hA [2, 3, 4] [0, 1] rfl rfl (by decide) (by decide) (fun w ty1 H locs hw_1 hP hD _ hS => ?_)
  rcases hw_1 with ⟨fc2_1, fp2_1, hu⟩
  cases hu
  have hP : va_P (dC, dI) vwCl [(ta, .inr (7, [.ref tb, .int (nI L)])), (tb, .inl (cB, 9000, .inl ft)), (aS, .inr (6, [.ref ce, .ref pl, .int sln, .int srs])), (ce, .inl (cI, 2048, .inl fc2_1)), (pl, .inl (cI, 128, .inl fp2_1))] H := hP
  have hD : va_D A [(ta, .inr (7, [.ref tb, .int (nI L)])), (tb, .inl (cB, 9000, .inl ft)), (aS, .inr (6, [.ref ce, .ref pl, .int sln, .int srs])), (ce, .inl (cI, 2048, .inl fc2_1)), (pl, .inl (cI, 128, .inl fp2_1))] := hD
  refine lv_aload_n hx hb dX4_readSong_4 rfl (lv_at hl 1 rfl) ?_
  refine lv_aload_n hx hb dX4_readSong_5 rfl (lv_at hl 0 rfl) ?_
  refine lv_sipush (v := 950) hx hb dX4_readSong_6 (by decide) ?_
  refine g_calli (wr := [(aS, .inr (6, [.ref ce, .ref pl, .int sln, .int srs])), (ce, .inl (cI, 2048, .inl fc2_1)), (pl, .inl (cI, 128, .inl fp2_1))]) (va_runV (As := [.int 950]) (rest := [.ref aS]) ⟨hx, hb, hml, hown, hts⟩ (k_at l dC dI H.size ta tb cB ft L 950 (hL)) (cwV 1 hts (gG_V kw_295 kw_296 kw_297 kw_18 kw_298) rfl rfl rfl (by decide +kernel) ⟨Nat.le_of_ble_eq_true rfl, Nat.le_of_ble_eq_true rfl⟩) (g_preV (C := RX7) (T := TX7) (N := 2) hP hD hK hS hA hN hZ (q0 := 0) rfl rfl [0, 1] (by decide) rfl [0] rfl) rfl rfl hl.1 rfl (lv_room (Nat.le_of_ble_eq_true rfl)) dX4_readSong_9 ⟨Nat.le_of_ble_eq_true rfl, Nat.le_of_ble_eq_true rfl⟩) hP hD hK hS hA [0, 1] [2, 3, 4] rfl rfl (by decide) (by decide) (fun r_9 w ty1 H locs hw_9 hP hD _ hS => ?_)
  have hu := hw_9
  cases hu
  have hP : va_P (dC, dI) vwCl [(aS, .inr (6, [.ref ce, .ref pl, .int sln, .int srs])), (ce, .inl (cI, 2048, .inl fc2_1)), (pl, .inl (cI, 128, .inl fp2_1)), (ta, .inr (7, [.ref tb, .int (nI L)])), (tb, .inl (cB, 9000, .inl ft))] H := hP
  have hD : va_D A [(aS, .inr (6, [.ref ce, .ref pl, .int sln, .int srs])), (ce, .inl (cI, 2048, .inl fc2_1)), (pl, .inl (cI, 128, .inl fp2_1)), (ta, .inr (7, [.ref tb, .int (nI L)])), (tb, .inl (cB, 9000, .inl ft))] := hD
  refine va_put (D := (dC, dI)) (ci := 6) (v := .int r_9) (ty := tyX6 2) (C := RX6) (T := TX6) (N := 4) hx hb hts iwX6 tyX6 tyX6_ok nmX6 hown hK hP hD hS 0 rfl rfl 2 (by decide) (hts (.fieldLink RX4 85 "ModulePlayer$Score" "length" "I") (List.mem_cons_of_mem _ kw_336)) (fun _ h9 => h9) rfl (by decide +kernel) (rfl) (rfl) (Nat.le_of_ble_eq_true rfl) dX4_readSong_12 (fun H locs hP hD hS => ?_)
  have hP : va_P (dC, dI) vwCl [(aS, .inr (6, [.ref ce, .ref pl, .int r_9, .int srs])), (ce, .inl (cI, 2048, .inl fc2_1)), (pl, .inl (cI, 128, .inl fp2_1)), (ta, .inr (7, [.ref tb, .int (nI L)])), (tb, .inl (cB, 9000, .inl ft))] H := hP
  have hD : va_D A [(aS, .inr (6, [.ref ce, .ref pl, .int r_9, .int srs])), (ce, .inl (cI, 2048, .inl fc2_1)), (pl, .inl (cI, 128, .inl fp2_1)), (ta, .inr (7, [.ref tb, .int (nI L)])), (tb, .inl (cB, 9000, .inl ft))] := hD
  refine lv_aload_n hx hb dX4_readSong_15 rfl (lv_at hl 1 rfl) ?_
  refine lv_aload_n hx hb dX4_readSong_16 rfl (lv_at hl 0 rfl) ?_
  refine lv_sipush (v := 951) hx hb dX4_readSong_17 (by decide) ?_
  refine g_calli (wr := [(aS, .inr (6, [.ref ce, .ref pl, .int r_9, .int srs])), (ce, .inl (cI, 2048, .inl fc2_1)), (pl, .inl (cI, 128, .inl fp2_1))]) (va_runV (As := [.int 951]) (rest := [.ref aS]) ⟨hx, hb, hml, hown, hts⟩ (k_at l dC dI H.size ta tb cB ft L 951 (hL)) (cwV 1 hts (gG_V kw_295 kw_296 kw_297 kw_18 kw_298) rfl rfl rfl (by decide +kernel) ⟨Nat.le_of_ble_eq_true rfl, Nat.le_of_ble_eq_true rfl⟩) (g_preV (C := RX7) (T := TX7) (N := 2) hP hD hK hS hA hN hZ (q0 := 3) rfl rfl [3, 4] (by decide) rfl [0] rfl) rfl rfl hl.1 rfl (lv_room (Nat.le_of_ble_eq_true rfl)) dX4_readSong_20 ⟨Nat.le_of_ble_eq_true rfl, Nat.le_of_ble_eq_true rfl⟩) hP hD hK hS hA [3, 4] [0, 1, 2] rfl rfl (by decide) (by decide) (fun r_20 w ty1 H locs hw_20 hP hD _ hS => ?_)
  have hu := hw_20
  cases hu
  have hP : va_P (dC, dI) vwCl [(aS, .inr (6, [.ref ce, .ref pl, .int r_9, .int srs])), (ce, .inl (cI, 2048, .inl fc2_1)), (pl, .inl (cI, 128, .inl fp2_1)), (ta, .inr (7, [.ref tb, .int (nI L)])), (tb, .inl (cB, 9000, .inl ft))] H := hP
  have hD : va_D A [(aS, .inr (6, [.ref ce, .ref pl, .int r_9, .int srs])), (ce, .inl (cI, 2048, .inl fc2_1)), (pl, .inl (cI, 128, .inl fp2_1)), (ta, .inr (7, [.ref tb, .int (nI L)])), (tb, .inl (cB, 9000, .inl ft))] := hD
  refine va_put (D := (dC, dI)) (ci := 6) (v := .int r_20) (ty := tyX6 3) (C := RX6) (T := TX6) (N := 4) hx hb hts iwX6 tyX6 tyX6_ok nmX6 hown hK hP hD hS 0 rfl rfl 3 (by decide) (hts (.fieldLink RX4 86 "ModulePlayer$Score" "restart" "I") (List.mem_cons_of_mem _ kw_337)) (fun _ h9 => h9) rfl (by decide +kernel) (rfl) (rfl) (Nat.le_of_ble_eq_true rfl) dX4_readSong_23 (fun H locs hP hD hS => ?_)
  have hP : va_P (dC, dI) vwCl [(aS, .inr (6, [.ref ce, .ref pl, .int r_9, .int r_20])), (ce, .inl (cI, 2048, .inl fc2_1)), (pl, .inl (cI, 128, .inl fp2_1)), (ta, .inr (7, [.ref tb, .int (nI L)])), (tb, .inl (cB, 9000, .inl ft))] H := hP
  have hD : va_D A [(aS, .inr (6, [.ref ce, .ref pl, .int r_9, .int r_20])), (ce, .inl (cI, 2048, .inl fc2_1)), (pl, .inl (cI, 128, .inl fp2_1)), (ta, .inr (7, [.ref tb, .int (nI L)])), (tb, .inl (cB, 9000, .inl ft))] := hD
  refine lv_iconst (v := 0) hx hb dX4_readSong_26 (by decide) ?_
  refine lv_istore_n (lv' := [(2, .int 0), (0, .ref ta), (1, .ref aS)]) hx hb dX4_readSong_27 rfl hl (by decide) rfl (fun ls hl => ?_)
  have LP28 : ∀ (fu28 : Nat) (q28 : Nat) (fp1 : Nat → Int32) (hq28 : q28 ≤ 128) (hm28 : 128 - q28 < fu28) (H : Heap) (locs : List Loc), va_P (dC, dI) vwCl [(aS, .inr (6, [.ref ce, .ref pl, .int r_9, .int r_20])), (ce, .inl (cI, 2048, .inl fc2_1)), (pl, .inl (cI, 128, .inl fp1)), (ta, .inr (7, [.ref tb, .int (nI L)])), (tb, .inl (cB, 9000, .inl ft))] H → va_D A [(aS, .inr (6, [.ref ce, .ref pl, .int r_9, .int r_20])), (ce, .inl (cI, 2048, .inl fc2_1)), (pl, .inl (cI, 128, .inl fp1)), (ta, .inr (7, [.ref tb, .int (nI L)])), (tb, .inl (cB, 9000, .inl ft))] → va_S A s.heap H locs → ∀ ls : Array Slot, lv_has ls 4 [(2, .int (nI q28)), (0, .ref ta), (1, .ref aS)] → W p l e ({ frames := 4, cells := 0, slots := 0, locals := 92 }) s m ([.ref ta, .ref aS] : List Value).toArray below meth c H locs (0) (0) (MQ below (va_Qv (fun u : va_W × gT => ∃ (sln2 : Int32) (srs2 : Int32) (fc2 : Nat → Int32) (fp2 : Nat → Int32), u = ([(ta, .inr (7, [.ref tb, .int (nI L)])), (tb, .inl (cB, 9000, .inl ft)), (aS, .inr (6, [.ref ce, .ref pl, .int sln2, .int srs2])), (ce, .inl (cI, 2048, .inl fc2)), (pl, .inl (cI, 128, .inl fp2))], [])) (gB (dC, dI) A) A) ([.ref ta, .ref aS] : List Value).toArray s 0 0 A) (F0 m 28 ls []) := by
    intro fu28
    induction fu28 with
    | zero => intro q28 fp1 hq28 hm28; exact absurd hm28 (Nat.not_lt_zero _)
    | succ fu28 ih28 =>
      intro q28 fp1 hq28 hm28 H locs hP hD hS ls hl
      refine lv_iload_n hx hb dX4_readSong_28 rfl (lv_at hl 0 rfl) ?_
      refine lv_aload_n hx hb dX4_readSong_29 rfl (lv_at hl 2 rfl) ?_
      refine va_get (D := (dC, dI)) (ci := 6) (v := .int r_9) (C := RX6) (T := TX6) (N := 4) hx hb hts iwX6 hown hK hP 0 rfl rfl 2 (by decide) (hts (.fieldLink RX4 85 "ModulePlayer$Score" "length" "I") (List.mem_cons_of_mem _ kw_336)) (fun _ h9 => h9) rfl dX4_readSong_30 ?_
      refine lv_icmp_ge (tgt := 64) hx hb dX4_readSong_33 (by decide) (fun c_33 => ?_) (fun c_33 => ?_)
      · refine lv_aload_n hx hb dX4_readSong_64 rfl (lv_at hl 2 rfl) ?_
        refine g_calli (wr := [(ce, .inl (cI, 2048, .inl fc2_1)), (ta, .inr (7, [.ref tb, .int (nI L)])), (tb, .inl (cB, 9000, .inl ft))]) (va_runV (As := []) (rest := []) ⟨hx, hb, hml, hown, hts⟩ (k_count l dC dI H.size aS ce pl r_9 r_20 fp1 cI ) (cwV 0 hts (gG_V kw_346 kw_347 kw_348 kw_26 kw_349) rfl rfl rfl (by decide +kernel) ⟨Nat.le_of_ble_eq_true rfl, Nat.le_of_ble_eq_true rfl⟩) (g_preV (C := RX6) (T := TX6) (N := 4) hP hD hK hS hA hN hZ (q0 := 0) rfl rfl [0, 2] (by decide) rfl [1] rfl) rfl rfl hl.1 rfl (lv_room (Nat.le_of_ble_eq_true rfl)) dX4_readSong_65 ⟨Nat.le_of_ble_eq_true rfl, Nat.le_of_ble_eq_true rfl⟩) hP hD hK hS hA [0, 2] [1, 3, 4] rfl rfl (by decide) (by decide) (fun r_65 w ty1 H locs hw_65 hP hD _ hS => ?_)
        have hu := hw_65
        cases hu
        have hP : va_P (dC, dI) vwCl [(ce, .inl (cI, 2048, .inl fc2_1)), (ta, .inr (7, [.ref tb, .int (nI L)])), (tb, .inl (cB, 9000, .inl ft)), (aS, .inr (6, [.ref ce, .ref pl, .int r_9, .int r_20])), (pl, .inl (cI, 128, .inl fp1))] H := hP
        have hD : va_D A [(ce, .inl (cI, 2048, .inl fc2_1)), (ta, .inr (7, [.ref tb, .int (nI L)])), (tb, .inl (cB, 9000, .inl ft)), (aS, .inr (6, [.ref ce, .ref pl, .int r_9, .int r_20])), (pl, .inl (cI, 128, .inl fp1))] := hD
        refine lv_istore_n (lv' := [(2, .int r_65), (0, .ref ta), (1, .ref aS)]) hx hb dX4_readSong_68 rfl hl (by decide) rfl (fun ls hl => ?_)
        refine lv_iconst (v := 0) hx hb dX4_readSong_69 (by decide) ?_
        refine lv_istore_n (lv' := [(3, .int 0), (2, .int r_65), (0, .ref ta), (1, .ref aS)]) hx hb dX4_readSong_70 rfl hl (by decide) rfl (fun ls hl => ?_)
        obtain ⟨hTz, ehTz⟩ : ∃ xx : Nat, xx = (r_65).toInt.toNat := ⟨_, rfl⟩
        have LP71 : ∀ (fu71 : Nat) (q71 : Nat) (fc3 : Nat → Int32) (hq71 : q71 < 2147483648) (hm71 : hTz - q71 < fu71) (H : Heap) (locs : List Loc), va_P (dC, dI) vwCl [(ce, .inl (cI, 2048, .inl fc3)), (ta, .inr (7, [.ref tb, .int (nI L)])), (tb, .inl (cB, 9000, .inl ft)), (aS, .inr (6, [.ref ce, .ref pl, .int r_9, .int r_20])), (pl, .inl (cI, 128, .inl fp1))] H → va_D A [(ce, .inl (cI, 2048, .inl fc3)), (ta, .inr (7, [.ref tb, .int (nI L)])), (tb, .inl (cB, 9000, .inl ft)), (aS, .inr (6, [.ref ce, .ref pl, .int r_9, .int r_20])), (pl, .inl (cI, 128, .inl fp1))] → va_S A s.heap H locs → ∀ ls : Array Slot, lv_has ls 4 [(3, .int (nI q71)), (2, .int r_65), (0, .ref ta), (1, .ref aS)] → W p l e ({ frames := 4, cells := 0, slots := 0, locals := 92 }) s m ([.ref ta, .ref aS] : List Value).toArray below meth c H locs (0) (0) (MQ below (va_Qv (fun u : va_W × gT => ∃ (sln2 : Int32) (srs2 : Int32) (fc2 : Nat → Int32) (fp2 : Nat → Int32), u = ([(ta, .inr (7, [.ref tb, .int (nI L)])), (tb, .inl (cB, 9000, .inl ft)), (aS, .inr (6, [.ref ce, .ref pl, .int sln2, .int srs2])), (ce, .inl (cI, 2048, .inl fc2)), (pl, .inl (cI, 128, .inl fp2))], [])) (gB (dC, dI) A) A) ([.ref ta, .ref aS] : List Value).toArray s 0 0 A) (F0 m 71 ls []) := by
          intro fu71
          induction fu71 with
          | zero => intro q71 fc3 hq71 hm71; exact absurd hm71 (Nat.not_lt_zero _)
          | succ fu71 ih71 =>
            intro q71 fc3 hq71 hm71 H locs hP hD hS ls hl
            refine lv_iload_n hx hb dX4_readSong_71 rfl (lv_at hl 0 rfl) ?_
            refine lv_iload_n hx hb dX4_readSong_72 rfl (lv_at hl 1 rfl) ?_
            refine lv_icmp_ge (tgt := 88) hx hb dX4_readSong_73 (by decide) (fun c_73 => ?_) (fun c_73 => ?_)
            · have hP9 := hP.sub (ws' := [(ta, .inr (7, [.ref tb, .int (nI L)])), (tb, .inl (cB, 9000, .inl ft)), (aS, .inr (6, [.ref ce, .ref pl, .int r_9, .int r_20])), (ce, .inl (cI, 2048, .inl fc3)), (pl, .inl (cI, 128, .inl fp1))]) [1, 2, 3, 0, 4] rfl
              have hD9 := hD.sub (ws' := [(ta, .inr (7, [.ref tb, .int (nI L)])), (tb, .inl (cB, 9000, .inl ft)), (aS, .inr (6, [.ref ce, .ref pl, .int r_9, .int r_20])), (ce, .inl (cI, 2048, .inl fc3)), (pl, .inl (cI, 128, .inl fp1))]) [1, 2, 3, 0, 4] (by decide) rfl
              have hK9 := hK.sub (tys' := []) [] rfl
              exact W.vret hx hb hr (fun t ht hW => ⟨⟨_, rfl, ⟨r_9, r_20, fc3, fp1, rfl⟩, by rw [ht]; exact hP9, va_K.moved hW.alike hK9, hD9⟩, hS.F ht⟩) hS.2.2 dX4_readSong_88
            refine lv_aload_n hx hb dX4_readSong_76 rfl (lv_at hl 2 rfl) ?_
            refine lv_aload_n hx hb dX4_readSong_77 rfl (lv_at hl 3 rfl) ?_
            refine lv_iload_n hx hb dX4_readSong_78 rfl (lv_at hl 0 rfl) ?_
            refine g_callv (wr := [(pl, .inl (cI, 128, .inl fp1))]) (va_runS (As := [.ref ta, .ref aS, .int (nI q71)]) (rest := []) ⟨hx, hb, hml, hown, hts⟩ (k_readPattern l dC dI H.size ta tb cB ft L aS ce pl r_9 r_20 fc3 cI (nI q71) (hL)) (va_cwS 3 hts (gG_S kw_351 kw_352 kw_30 kw_353) rfl rfl rfl (by decide +kernel) ⟨Nat.le_of_ble_eq_true rfl, Nat.le_of_ble_eq_true rfl⟩) (g_preS hP hD hK hS hA hN hZ [1, 2, 3, 0] (by decide) rfl [0, 1] rfl) rfl rfl hl.1 rfl (lv_room (Nat.le_of_ble_eq_true rfl)) dX4_readSong_79 ⟨Nat.le_of_ble_eq_true rfl, Nat.le_of_ble_eq_true rfl⟩) hP hD hK hS hA [1, 2, 3, 0] [4] rfl rfl (by decide) (by decide) (fun w ty1 H locs hw_79 hP hD _ hS => ?_)
            rcases hw_79 with ⟨fc2_79, hu⟩
            cases hu
            have hP : va_P (dC, dI) vwCl [(pl, .inl (cI, 128, .inl fp1)), (ta, .inr (7, [.ref tb, .int (nI L)])), (tb, .inl (cB, 9000, .inl ft)), (aS, .inr (6, [.ref ce, .ref pl, .int r_9, .int r_20])), (ce, .inl (cI, 2048, .inl fc2_79))] H := hP
            have hD : va_D A [(pl, .inl (cI, 128, .inl fp1)), (ta, .inr (7, [.ref tb, .int (nI L)])), (tb, .inl (cB, 9000, .inl ft)), (aS, .inr (6, [.ref ce, .ref pl, .int r_9, .int r_20])), (ce, .inl (cI, 2048, .inl fc2_79))] := hD
            refine lv_iinc (v := nI (q71 + 1)) (lv' := [(3, .int (nI (q71 + 1))), (2, .int r_65), (0, .ref ta), (1, .ref aS)]) hx hb dX4_readSong_82 hl (k := 0) rfl (nI_1 q71) (by decide) rfl (fun ls hl => ?_)
            refine lv_goto (tgt := 71) hx hb dX4_readSong_85 (by decide) ?_
            exact ih71 (q71 + 1) fc2_79 (by have := ht_lt ehTz c_73 hq71; omega) (by have := ht_lt ehTz c_73 hq71; omega) _ _ (hP.sub [4, 1, 2, 3, 0] rfl) (hD.sub [4, 1, 2, 3, 0] (by decide) rfl) hS _ (lv_sub hl [0, 1, 2, 3] rfl)
        exact LP71 _ 0 fc2_1 (by decide) (Nat.lt_succ_self _) _ _ (hP.sub [0, 1, 2, 3, 4] rfl) (hD.sub [0, 1, 2, 3, 4] (by decide) rfl) hS _ (lv_sub hl [0, 1, 2, 3] rfl)
      refine lv_iload_n hx hb dX4_readSong_36 rfl (lv_at hl 0 rfl) ?_
      refine lv_sipush (v := 128) hx hb dX4_readSong_37 (by decide) ?_
      refine lv_icmp_ge (tgt := 64) hx hb dX4_readSong_40 (by decide) (fun c_40 => ?_) (fun c_40 => ?_)
      · refine lv_aload_n hx hb dX4_readSong_64 rfl (lv_at hl 2 rfl) ?_
        refine g_calli (wr := [(ce, .inl (cI, 2048, .inl fc2_1)), (ta, .inr (7, [.ref tb, .int (nI L)])), (tb, .inl (cB, 9000, .inl ft))]) (va_runV (As := []) (rest := []) ⟨hx, hb, hml, hown, hts⟩ (k_count l dC dI H.size aS ce pl r_9 r_20 fp1 cI ) (cwV 0 hts (gG_V kw_346 kw_347 kw_348 kw_26 kw_349) rfl rfl rfl (by decide +kernel) ⟨Nat.le_of_ble_eq_true rfl, Nat.le_of_ble_eq_true rfl⟩) (g_preV (C := RX6) (T := TX6) (N := 4) hP hD hK hS hA hN hZ (q0 := 0) rfl rfl [0, 2] (by decide) rfl [1] rfl) rfl rfl hl.1 rfl (lv_room (Nat.le_of_ble_eq_true rfl)) dX4_readSong_65 ⟨Nat.le_of_ble_eq_true rfl, Nat.le_of_ble_eq_true rfl⟩) hP hD hK hS hA [0, 2] [1, 3, 4] rfl rfl (by decide) (by decide) (fun r_65 w ty1 H locs hw_65 hP hD _ hS => ?_)
        have hu := hw_65
        cases hu
        have hP : va_P (dC, dI) vwCl [(ce, .inl (cI, 2048, .inl fc2_1)), (ta, .inr (7, [.ref tb, .int (nI L)])), (tb, .inl (cB, 9000, .inl ft)), (aS, .inr (6, [.ref ce, .ref pl, .int r_9, .int r_20])), (pl, .inl (cI, 128, .inl fp1))] H := hP
        have hD : va_D A [(ce, .inl (cI, 2048, .inl fc2_1)), (ta, .inr (7, [.ref tb, .int (nI L)])), (tb, .inl (cB, 9000, .inl ft)), (aS, .inr (6, [.ref ce, .ref pl, .int r_9, .int r_20])), (pl, .inl (cI, 128, .inl fp1))] := hD
        refine lv_istore_n (lv' := [(2, .int r_65), (0, .ref ta), (1, .ref aS)]) hx hb dX4_readSong_68 rfl hl (by decide) rfl (fun ls hl => ?_)
        refine lv_iconst (v := 0) hx hb dX4_readSong_69 (by decide) ?_
        refine lv_istore_n (lv' := [(3, .int 0), (2, .int r_65), (0, .ref ta), (1, .ref aS)]) hx hb dX4_readSong_70 rfl hl (by decide) rfl (fun ls hl => ?_)
        obtain ⟨hTz, ehTz⟩ : ∃ xx : Nat, xx = (r_65).toInt.toNat := ⟨_, rfl⟩
        have LP71 : ∀ (fu71 : Nat) (q71 : Nat) (fc3 : Nat → Int32) (hq71 : q71 < 2147483648) (hm71 : hTz - q71 < fu71) (H : Heap) (locs : List Loc), va_P (dC, dI) vwCl [(ce, .inl (cI, 2048, .inl fc3)), (ta, .inr (7, [.ref tb, .int (nI L)])), (tb, .inl (cB, 9000, .inl ft)), (aS, .inr (6, [.ref ce, .ref pl, .int r_9, .int r_20])), (pl, .inl (cI, 128, .inl fp1))] H → va_D A [(ce, .inl (cI, 2048, .inl fc3)), (ta, .inr (7, [.ref tb, .int (nI L)])), (tb, .inl (cB, 9000, .inl ft)), (aS, .inr (6, [.ref ce, .ref pl, .int r_9, .int r_20])), (pl, .inl (cI, 128, .inl fp1))] → va_S A s.heap H locs → ∀ ls : Array Slot, lv_has ls 4 [(3, .int (nI q71)), (2, .int r_65), (0, .ref ta), (1, .ref aS)] → W p l e ({ frames := 4, cells := 0, slots := 0, locals := 92 }) s m ([.ref ta, .ref aS] : List Value).toArray below meth c H locs (0) (0) (MQ below (va_Qv (fun u : va_W × gT => ∃ (sln2 : Int32) (srs2 : Int32) (fc2 : Nat → Int32) (fp2 : Nat → Int32), u = ([(ta, .inr (7, [.ref tb, .int (nI L)])), (tb, .inl (cB, 9000, .inl ft)), (aS, .inr (6, [.ref ce, .ref pl, .int sln2, .int srs2])), (ce, .inl (cI, 2048, .inl fc2)), (pl, .inl (cI, 128, .inl fp2))], [])) (gB (dC, dI) A) A) ([.ref ta, .ref aS] : List Value).toArray s 0 0 A) (F0 m 71 ls []) := by
          intro fu71
          induction fu71 with
          | zero => intro q71 fc3 hq71 hm71; exact absurd hm71 (Nat.not_lt_zero _)
          | succ fu71 ih71 =>
            intro q71 fc3 hq71 hm71 H locs hP hD hS ls hl
            refine lv_iload_n hx hb dX4_readSong_71 rfl (lv_at hl 0 rfl) ?_
            refine lv_iload_n hx hb dX4_readSong_72 rfl (lv_at hl 1 rfl) ?_
            refine lv_icmp_ge (tgt := 88) hx hb dX4_readSong_73 (by decide) (fun c_73 => ?_) (fun c_73 => ?_)
            · have hP9 := hP.sub (ws' := [(ta, .inr (7, [.ref tb, .int (nI L)])), (tb, .inl (cB, 9000, .inl ft)), (aS, .inr (6, [.ref ce, .ref pl, .int r_9, .int r_20])), (ce, .inl (cI, 2048, .inl fc3)), (pl, .inl (cI, 128, .inl fp1))]) [1, 2, 3, 0, 4] rfl
              have hD9 := hD.sub (ws' := [(ta, .inr (7, [.ref tb, .int (nI L)])), (tb, .inl (cB, 9000, .inl ft)), (aS, .inr (6, [.ref ce, .ref pl, .int r_9, .int r_20])), (ce, .inl (cI, 2048, .inl fc3)), (pl, .inl (cI, 128, .inl fp1))]) [1, 2, 3, 0, 4] (by decide) rfl
              have hK9 := hK.sub (tys' := []) [] rfl
              exact W.vret hx hb hr (fun t ht hW => ⟨⟨_, rfl, ⟨r_9, r_20, fc3, fp1, rfl⟩, by rw [ht]; exact hP9, va_K.moved hW.alike hK9, hD9⟩, hS.F ht⟩) hS.2.2 dX4_readSong_88
            refine lv_aload_n hx hb dX4_readSong_76 rfl (lv_at hl 2 rfl) ?_
            refine lv_aload_n hx hb dX4_readSong_77 rfl (lv_at hl 3 rfl) ?_
            refine lv_iload_n hx hb dX4_readSong_78 rfl (lv_at hl 0 rfl) ?_
            refine g_callv (wr := [(pl, .inl (cI, 128, .inl fp1))]) (va_runS (As := [.ref ta, .ref aS, .int (nI q71)]) (rest := []) ⟨hx, hb, hml, hown, hts⟩ (k_readPattern l dC dI H.size ta tb cB ft L aS ce pl r_9 r_20 fc3 cI (nI q71) (hL)) (va_cwS 3 hts (gG_S kw_351 kw_352 kw_30 kw_353) rfl rfl rfl (by decide +kernel) ⟨Nat.le_of_ble_eq_true rfl, Nat.le_of_ble_eq_true rfl⟩) (g_preS hP hD hK hS hA hN hZ [1, 2, 3, 0] (by decide) rfl [0, 1] rfl) rfl rfl hl.1 rfl (lv_room (Nat.le_of_ble_eq_true rfl)) dX4_readSong_79 ⟨Nat.le_of_ble_eq_true rfl, Nat.le_of_ble_eq_true rfl⟩) hP hD hK hS hA [1, 2, 3, 0] [4] rfl rfl (by decide) (by decide) (fun w ty1 H locs hw_79 hP hD _ hS => ?_)
            rcases hw_79 with ⟨fc2_79, hu⟩
            cases hu
            have hP : va_P (dC, dI) vwCl [(pl, .inl (cI, 128, .inl fp1)), (ta, .inr (7, [.ref tb, .int (nI L)])), (tb, .inl (cB, 9000, .inl ft)), (aS, .inr (6, [.ref ce, .ref pl, .int r_9, .int r_20])), (ce, .inl (cI, 2048, .inl fc2_79))] H := hP
            have hD : va_D A [(pl, .inl (cI, 128, .inl fp1)), (ta, .inr (7, [.ref tb, .int (nI L)])), (tb, .inl (cB, 9000, .inl ft)), (aS, .inr (6, [.ref ce, .ref pl, .int r_9, .int r_20])), (ce, .inl (cI, 2048, .inl fc2_79))] := hD
            refine lv_iinc (v := nI (q71 + 1)) (lv' := [(3, .int (nI (q71 + 1))), (2, .int r_65), (0, .ref ta), (1, .ref aS)]) hx hb dX4_readSong_82 hl (k := 0) rfl (nI_1 q71) (by decide) rfl (fun ls hl => ?_)
            refine lv_goto (tgt := 71) hx hb dX4_readSong_85 (by decide) ?_
            exact ih71 (q71 + 1) fc2_79 (by have := ht_lt ehTz c_73 hq71; omega) (by have := ht_lt ehTz c_73 hq71; omega) _ _ (hP.sub [4, 1, 2, 3, 0] rfl) (hD.sub [4, 1, 2, 3, 0] (by decide) rfl) hS _ (lv_sub hl [0, 1, 2, 3] rfl)
        exact LP71 _ 0 fc2_1 (by decide) (Nat.lt_succ_self _) _ _ (hP.sub [0, 1, 2, 3, 4] rfl) (hD.sub [0, 1, 2, 3, 4] (by decide) rfl) hS _ (lv_sub hl [0, 1, 2, 3] rfl)
      refine lv_aload_n hx hb dX4_readSong_43 rfl (lv_at hl 2 rfl) ?_
      refine va_get (D := (dC, dI)) (ci := 6) (v := .ref pl) (C := RX6) (T := TX6) (N := 4) hx hb hts iwX6 hown hK hP 0 rfl rfl 1 (by decide) (hts (.fieldLink RX4 89 "ModulePlayer$Score" "places" "[I") (List.mem_cons_of_mem _ kw_338)) (fun _ h9 => h9) rfl dX4_readSong_44 ?_
      refine lv_iload_n hx hb dX4_readSong_47 rfl (lv_at hl 0 rfl) ?_
      refine lv_aload_n hx hb dX4_readSong_48 rfl (lv_at hl 1 rfl) ?_
      refine lv_sipush (v := 952) hx hb dX4_readSong_49 (by decide) ?_
      refine lv_iload_n hx hb dX4_readSong_52 rfl (lv_at hl 0 rfl) ?_
      refine lv_iadd hx hb dX4_readSong_53 ?_
      refine lv_topi (fun tv_53 etv_53 => ?_)
      refine g_calli (wr := [(aS, .inr (6, [.ref ce, .ref pl, .int r_9, .int r_20])), (ce, .inl (cI, 2048, .inl fc2_1)), (pl, .inl (cI, 128, .inl fp1))]) (va_runV (As := [.int tv_53]) (rest := [.int (nI q28), .ref pl]) ⟨hx, hb, hml, hown, hts⟩ (k_at l dC dI H.size ta tb cB ft L tv_53 (hL)) (cwV 1 hts (gG_V kw_295 kw_296 kw_297 kw_18 kw_298) rfl rfl rfl (by decide +kernel) ⟨Nat.le_of_ble_eq_true rfl, Nat.le_of_ble_eq_true rfl⟩) (g_preV (C := RX7) (T := TX7) (N := 2) hP hD hK hS hA hN hZ (q0 := 3) rfl rfl [3, 4] (by decide) rfl [0] rfl) rfl rfl hl.1 rfl (lv_room (Nat.le_of_ble_eq_true rfl)) dX4_readSong_54 ⟨Nat.le_of_ble_eq_true rfl, Nat.le_of_ble_eq_true rfl⟩) hP hD hK hS hA [3, 4] [0, 1, 2] rfl rfl (by decide) (by decide) (fun r_54 w ty1 H locs hw_54 hP hD _ hS => ?_)
      have hu := hw_54
      cases hu
      have hP : va_P (dC, dI) vwCl [(aS, .inr (6, [.ref ce, .ref pl, .int r_9, .int r_20])), (ce, .inl (cI, 2048, .inl fc2_1)), (pl, .inl (cI, 128, .inl fp1)), (ta, .inr (7, [.ref tb, .int (nI L)])), (tb, .inl (cB, 9000, .inl ft))] H := hP
      have hD : va_D A [(aS, .inr (6, [.ref ce, .ref pl, .int r_9, .int r_20])), (ce, .inl (cI, 2048, .inl fc2_1)), (pl, .inl (cI, 128, .inl fp1)), (ta, .inr (7, [.ref tb, .int (nI L)])), (tb, .inl (cB, 9000, .inl ft))] := hD
      refine g_iast hx hb hK hP hD hS 2 1 rfl rfl q28 (nI_clamp (Nat.lt_trans (show q28 < 128 from by have := nI_nle' (a := 128) c_40 (by omega); omega) (by decide))) (vp_in_nI (by have := nI_nle' (a := 128) c_40 (by omega); omega) (by decide)) dX4_readSong_57 (fun H locs hP hD hS => ?_)
      have hP : va_P (dC, dI) vwCl [(aS, .inr (6, [.ref ce, .ref pl, .int r_9, .int r_20])), (ce, .inl (cI, 2048, .inl fc2_1)), (pl, .inl (cI, 128, .inl (upd fp1 q28 r_54))), (ta, .inr (7, [.ref tb, .int (nI L)])), (tb, .inl (cB, 9000, .inl ft))] H := hP
      have hD : va_D A [(aS, .inr (6, [.ref ce, .ref pl, .int r_9, .int r_20])), (ce, .inl (cI, 2048, .inl fc2_1)), (pl, .inl (cI, 128, .inl (upd fp1 q28 r_54))), (ta, .inr (7, [.ref tb, .int (nI L)])), (tb, .inl (cB, 9000, .inl ft))] := hD
      generalize upd fp1 q28 r_54 = fg__57 at hP hD
      refine lv_iinc (v := nI (q28 + 1)) (lv' := [(2, .int (nI (q28 + 1))), (0, .ref ta), (1, .ref aS)]) hx hb dX4_readSong_58 hl (k := 0) rfl (nI_1 q28) (by decide) rfl (fun ls hl => ?_)
      refine lv_goto (tgt := 28) hx hb dX4_readSong_61 (by decide) ?_
      exact ih28 (q28 + 1) fg__57 (by have := nI_nle' (a := 128) c_40 (by omega); omega) (by have := nI_nle' (a := 128) c_40 (by omega); omega) _ _ (hP.sub [0, 1, 2, 3, 4] rfl) (hD.sub [0, 1, 2, 3, 4] (by decide) rfl) hS _ (lv_sub hl [0, 1, 2] rfl)
  exact LP28 _ 0 fp2_1 (Nat.zero_le _) (Nat.lt_succ_self _) _ _ (hP.sub [0, 1, 2, 3, 4] rfl) (hD.sub [0, 1, 2, 3, 4] (by decide) rfl) hS _ (lv_sub hl [0, 1, 2] rfl)

set_option maxHeartbeats 400000 in
set_option maxRecDepth 100000 in
theorem k_bclear (l : Launch) (dC : Nat → ClassId) (dI : Nat → Nat → Nat) (sz : Nat) (h sa bb : Nat) (us : Int32) (ad : Nat → Nat) (cS : ClassId) (g : Nat → Option Nat) (le tu vo sr lo fr : Nat → Int32) (hg : ∀ x, x < 32 → g x = some (ad x)) : Met l yX0_clear (wsG (.code yX0_clear cX0_clear 2 none)) ({ frames := 0, cells := 0, slots := 0, locals := 0 }) (va_Pc [.ref h] (gP (dC, dI) [(cS, .object RX5)] ([(h, .inr (0, [.ref sa, .ref bb, .int us])), (sa, .inl (cS, 32, .inr (.inr (.inr (.inr g)))))] ++ famN 32 ad le tu vo sr lo fr) sz)) (va_Qv (fun u : va_W × gT => ∃ (le2 : Nat → Int32) (fr2 : Nat → Int32), u = (([(h, .inr (0, [.ref sa, .ref bb, .int 0])), (sa, .inl (cS, 32, .inr (.inr (.inr (.inr g)))))] ++ famN 32 ad le2 tu vo sr lo fr2), []) ∧ bankOk (fun _ => 0) le2 fr2 0) (gB (dC, dI) (va_A ([(h, .inr (0, [.ref sa, .ref bb, .int us])), (sa, .inl (cS, 32, .inr (.inr (.inr (.inr g)))))] ++ famN 32 ad le tu vo sr lo fr) sz)) (va_A ([(h, .inr (0, [.ref sa, .ref bb, .int us])), (sa, .inl (cS, 32, .inr (.inr (.inr (.inr g)))))] ++ famN 32 ad le tu vo sr lo fr) sz)) 0 0 (va_A ([(h, .inr (0, [.ref sa, .ref bb, .int us])), (sa, .inl (cS, 32, .inr (.inr (.inr (.inr g)))))] ++ famN 32 ad le tu vo sr lo fr) sz) := by
  refine Met.ofW (cc := cX0_clear) (maxL := 2) (ret := none) (by decide) rfl ?_
  intro p e s m args below meth c s₁ B hml hv
  obtain ⟨rfl, hsz, hP, hK, hD0, hN, hZ⟩ := hv
  have hx := B.exec
  have hb := B.bytes
  have hr := B.returns
  have hts := atoms_spec (ws := (wsG (.code yX0_clear cX0_clear 2 none))) B.pre
  have hown : s.vm.findClass RX0 = some m.cls := findClass_of_methodNamed B.named
  have hlocks := B.notSynchronized
  subst hsz
  have hD := hD0.self (sz := s.heap.size)
  generalize hAe : va_A ([(h, .inr (0, [.ref sa, .ref bb, .int us])), (sa, .inl (cS, 32, .inr (.inr (.inr (.inr g)))))] ++ famN 32 ad le tu vo sr lo fr) s.heap.size = A at hD hZ ⊢
  have hA : ∀ q : Nat, s.heap.size ≤ q → A q := fun q h => by rw [← hAe]; exact Or.inr h
  have hl := lv_entry ([.ref h]) (n := 2) (Nat.le_of_ble_eq_true rfl)
  rw [lg_entry_eq]
  generalize (lg_sl ([.ref h]) ++ List.replicate (2 - (lg_sl ([.ref h])).length) Slot.unset).toArray = ls at hl ⊢
  have hl : lv_has ls 2 [(0, .ref h)] := hl
  refine g_start (A := A) hP (fun H locs hP hS => ?_)
  refine lv_iconst (v := 0) hx hb dX0_clear_0 (by decide) ?_
  refine lv_istore_n (lv' := [(1, .int 0), (0, .ref h)]) hx hb dX0_clear_1 rfl hl (by decide) rfl (fun ls hl => ?_)
  have LP2 : ∀ (fu2 : Nat) (q2 : Nat) (le1 : Nat → Int32) (fr1 : Nat → Int32) (hq2 : q2 ≤ 32) (hz : ∀ xx, xx < q2 → le1 xx = 0 ∧ fr1 xx = 0) (hm2 : 32 - q2 < fu2) (H : Heap) (locs : List Loc), va_P (dC, dI) vwCl ([(h, .inr (0, [.ref sa, .ref bb, .int us])), (sa, .inl (cS, 32, .inr (.inr (.inr (.inr g)))))] ++ famN 32 ad le1 tu vo sr lo fr1) H → va_D A ([(h, .inr (0, [.ref sa, .ref bb, .int us])), (sa, .inl (cS, 32, .inr (.inr (.inr (.inr g)))))] ++ famN 32 ad le1 tu vo sr lo fr1) → va_S A s.heap H locs → ∀ ls : Array Slot, lv_has ls 2 [(1, .int (nI q2)), (0, .ref h)] → W p l e ({ frames := 0, cells := 0, slots := 0, locals := 0 }) s m ([.ref h] : List Value).toArray below meth c H locs (0) (0) (MQ below (va_Qv (fun u : va_W × gT => ∃ (le2 : Nat → Int32) (fr2 : Nat → Int32), u = (([(h, .inr (0, [.ref sa, .ref bb, .int 0])), (sa, .inl (cS, 32, .inr (.inr (.inr (.inr g)))))] ++ famN 32 ad le2 tu vo sr lo fr2), []) ∧ bankOk (fun _ => 0) le2 fr2 0) (gB (dC, dI) A) A) ([.ref h] : List Value).toArray s 0 0 A) (F0 m 2 ls []) := by
    intro fu2
    induction fu2 with
    | zero => intro q2 le1 fr1 hq2 hz hm2; exact absurd hm2 (Nat.not_lt_zero _)
    | succ fu2 ih2 =>
      intro q2 le1 fr1 hq2 hz hm2 H locs hP hD hS ls hl
      refine lv_iload_n hx hb dX0_clear_2 rfl (lv_at hl 0 rfl) ?_
      refine lv_bipush (v := 31) hx hb dX0_clear_3 (by decide) ?_
      refine lv_icmp_gt (tgt := 34) hx hb dX0_clear_5 (by decide) (fun c_5 => ?_) (fun c_5 => ?_)
      · refine lv_aload_n hx hb dX0_clear_34 rfl (lv_at hl 1 rfl) ?_
        refine lv_iconst (v := 0) hx hb dX0_clear_35 (by decide) ?_
        refine va_put (D := (dC, dI)) (ci := 0) (v := .int 0) (ty := tyX0 2) (C := RX0) (T := TX0) (N := 3) hx hb hts iwX0 tyX0 tyX0_ok nmX0 hown hK hP hD hS 0 rfl rfl 2 (by decide) (hts (.fieldLink RX0 26 "ModulePlayer$Bank" "used" "I") (List.mem_cons_of_mem _ kw_383)) (fun _ h9 => h9) rfl (by decide +kernel) (rfl) (rfl) (Nat.le_of_ble_eq_true rfl) dX0_clear_36 (fun H locs hP hD hS => ?_)
        have hP : va_P (dC, dI) vwCl ([(h, .inr (0, [.ref sa, .ref bb, .int 0])), (sa, .inl (cS, 32, .inr (.inr (.inr (.inr g)))))] ++ famN 32 ad le1 tu vo sr lo fr1) H := hP
        have hD : va_D A ([(h, .inr (0, [.ref sa, .ref bb, .int 0])), (sa, .inl (cS, 32, .inr (.inr (.inr (.inr g)))))] ++ famN 32 ad le1 tu vo sr lo fr1) := hD
        have hP9 := hP
        have hD9 := hD
        have hK9 := hK.sub (tys' := []) [] rfl
        exact W.vret hx hb hr (fun t ht hW => ⟨⟨_, rfl, ⟨le1, fr1, rfl, (bk_zero (fun xx hx9 => hz xx (by have := nI_lt' (a := 31) c_5 (by decide) (by omega); omega)))⟩, by rw [ht]; exact hP9, va_K.moved hW.alike hK9, hD9⟩, hS.F ht⟩) hS.2.2 dX0_clear_39
      have hq3 : q2 < 32 := by have := nI_nlt2 (a := 31) c_5 (by omega); omega
      refine lv_aload_n hx hb dX0_clear_8 rfl (lv_at hl 1 rfl) ?_
      refine va_get (D := (dC, dI)) (ci := 0) (v := .ref sa) (C := RX0) (T := TX0) (N := 3) hx hb hts iwX0 hown hK hP 0 rfl rfl 0 (by decide) (hts (.fieldLink RX0 11 "ModulePlayer$Bank" "samples" "[LModulePlayer$Sample;") (List.mem_cons_of_mem _ kw_54)) (fun _ h9 => h9) rfl dX0_clear_9 ?_
      refine lv_iload_n hx hb dX0_clear_12 rfl (lv_at hl 0 rfl) ?_
      refine g_aald hx hb hK hP 1 0 rfl rfl q2 (nI_clamp (by omega)) (y := (ad q2)) (hg q2 hq3) (vp_in_nI hq3 (by decide)) dX0_clear_13 ?_
      refine lv_iconst (v := 0) hx hb dX0_clear_14 (by decide) ?_
      refine va_put (D := (dC, dI)) (ci := 5) (v := .int 0) (ty := tyX5 0) (C := RX5) (T := TX5) (N := 6) hx hb hts iwX5 tyX5 tyX5_ok nmX5 hown hK hP hD hS _ (fam_at (k := q2) (hq3)) rfl 0 (by decide) (hts (.fieldLink RX0 34 "ModulePlayer$Sample" "length" "I") (List.mem_cons_of_mem _ kw_381)) (fun _ h9 => h9) rfl (by decide +kernel) rfl rfl (Nat.le_of_ble_eq_true rfl) dX0_clear_15 (fun H locs hP hD hS => ?_)
      have hP : va_P (dC, dI) vwCl ([(h, .inr (0, [.ref sa, .ref bb, .int us])), (sa, .inl (cS, 32, .inr (.inr (.inr (.inr g)))))] ++ famN 32 ad (upd le1 q2 0) tu vo sr lo fr1) H := by have h9 : va_P (dC, dI) vwCl ((([(h, .inr (0, [.ref sa, .ref bb, .int us])), (sa, .inl (cS, 32, .inr (.inr (.inr (.inr g)))))] ++ famN 32 ad le1 tu vo sr lo fr1) : va_W).set (([(h, .inr (0, [.ref sa, .ref bb, .int us])), (sa, .inl (cS, 32, .inr (.inr (.inr (.inr g)))))] : va_W).length + q2) (ad q2, .inr (5, [.int (0), .int ((tu) q2), .int ((vo) q2), .int ((sr) q2), .int ((lo) q2), .int ((fr1) q2)]))) H := hP; rw [fam_up] at h9; simp only [upd_id] at h9 ⊢; exact h9
      have hD : va_D A ([(h, .inr (0, [.ref sa, .ref bb, .int us])), (sa, .inl (cS, 32, .inr (.inr (.inr (.inr g)))))] ++ famN 32 ad (upd le1 q2 0) tu vo sr lo fr1) := by have h9 : va_D A ((([(h, .inr (0, [.ref sa, .ref bb, .int us])), (sa, .inl (cS, 32, .inr (.inr (.inr (.inr g)))))] ++ famN 32 ad le1 tu vo sr lo fr1) : va_W).set (([(h, .inr (0, [.ref sa, .ref bb, .int us])), (sa, .inl (cS, 32, .inr (.inr (.inr (.inr g)))))] : va_W).length + q2) (ad q2, .inr (5, [.int (0), .int ((tu) q2), .int ((vo) q2), .int ((sr) q2), .int ((lo) q2), .int ((fr1) q2)]))) := hD; rw [fam_up] at h9; simp only [upd_id] at h9 ⊢; exact h9
      refine lv_aload_n hx hb dX0_clear_18 rfl (lv_at hl 1 rfl) ?_
      refine va_get (D := (dC, dI)) (ci := 0) (v := .ref sa) (C := RX0) (T := TX0) (N := 3) hx hb hts iwX0 hown hK hP 0 rfl rfl 0 (by decide) (hts (.fieldLink RX0 11 "ModulePlayer$Bank" "samples" "[LModulePlayer$Sample;") (List.mem_cons_of_mem _ kw_54)) (fun _ h9 => h9) rfl dX0_clear_19 ?_
      refine lv_iload_n hx hb dX0_clear_22 rfl (lv_at hl 0 rfl) ?_
      refine g_aald hx hb hK hP 1 0 rfl rfl q2 (nI_clamp (by omega)) (y := (ad q2)) (hg q2 hq3) (vp_in_nI hq3 (by decide)) dX0_clear_23 ?_
      refine lv_iconst (v := 0) hx hb dX0_clear_24 (by decide) ?_
      refine va_put (D := (dC, dI)) (ci := 5) (v := .int 0) (ty := tyX5 5) (C := RX5) (T := TX5) (N := 6) hx hb hts iwX5 tyX5 tyX5_ok nmX5 hown hK hP hD hS _ (fam_at (k := q2) (hq3)) rfl 5 (by decide) (hts (.fieldLink RX0 41 "ModulePlayer$Sample" "from" "I") (List.mem_cons_of_mem _ kw_382)) (fun _ h9 => h9) rfl (by decide +kernel) rfl rfl (Nat.le_of_ble_eq_true rfl) dX0_clear_25 (fun H locs hP hD hS => ?_)
      have hP : va_P (dC, dI) vwCl ([(h, .inr (0, [.ref sa, .ref bb, .int us])), (sa, .inl (cS, 32, .inr (.inr (.inr (.inr g)))))] ++ famN 32 ad (upd le1 q2 0) tu vo sr lo (upd fr1 q2 0)) H := by have h9 : va_P (dC, dI) vwCl ((([(h, .inr (0, [.ref sa, .ref bb, .int us])), (sa, .inl (cS, 32, .inr (.inr (.inr (.inr g)))))] ++ famN 32 ad (upd le1 q2 0) tu vo sr lo fr1) : va_W).set (([(h, .inr (0, [.ref sa, .ref bb, .int us])), (sa, .inl (cS, 32, .inr (.inr (.inr (.inr g)))))] : va_W).length + q2) (ad q2, .inr (5, [.int ((upd le1 q2 0) q2), .int ((tu) q2), .int ((vo) q2), .int ((sr) q2), .int ((lo) q2), .int (0)]))) H := hP; rw [fam_up] at h9; simp only [upd_id] at h9 ⊢; exact h9
      have hD : va_D A ([(h, .inr (0, [.ref sa, .ref bb, .int us])), (sa, .inl (cS, 32, .inr (.inr (.inr (.inr g)))))] ++ famN 32 ad (upd le1 q2 0) tu vo sr lo (upd fr1 q2 0)) := by have h9 : va_D A ((([(h, .inr (0, [.ref sa, .ref bb, .int us])), (sa, .inl (cS, 32, .inr (.inr (.inr (.inr g)))))] ++ famN 32 ad (upd le1 q2 0) tu vo sr lo fr1) : va_W).set (([(h, .inr (0, [.ref sa, .ref bb, .int us])), (sa, .inl (cS, 32, .inr (.inr (.inr (.inr g)))))] : va_W).length + q2) (ad q2, .inr (5, [.int ((upd le1 q2 0) q2), .int ((tu) q2), .int ((vo) q2), .int ((sr) q2), .int ((lo) q2), .int (0)]))) := hD; rw [fam_up] at h9; simp only [upd_id] at h9 ⊢; exact h9
      refine lv_iinc (v := nI (q2 + 1)) (lv' := [(1, .int (nI (q2 + 1))), (0, .ref h)]) hx hb dX0_clear_28 hl (k := 0) rfl (nI_1 q2) (by decide) rfl (fun ls hl => ?_)
      refine lv_goto (tgt := 2) hx hb dX0_clear_31 (by decide) ?_
      exact ih2 (q2 + 1) (upd le1 q2 0) (upd fr1 q2 0) (hq3) (clr_s hz) (by omega) _ _ hP hD hS _ (lv_sub hl [0, 1] rfl)
  exact LP2 _ 0 le fr (Nat.zero_le _) (fun xx hx9 => absurd hx9 (Nat.not_lt_zero xx)) (Nat.lt_succ_self _) _ _ hP hD hS _ (lv_sub hl [0, 1] rfl)

set_option maxHeartbeats 400000 in
set_option maxRecDepth 100000 in
theorem k_reshape (l : Launch) (dC : Nat → ClassId) (dI : Nat → Nat → Nat) (sz : Nat) (h sa bb : Nat) (us : Int32) (ad : Nat → Nat) (cS cB : ClassId) (g : Nat → Option Nat) (f : Nat → Int32) (le tu vo sr lo fr : Nat → Int32) (ln : Nat → Nat) (k : Nat) (nv t0 v0 : Int32) (hg : ∀ x, x < 32 → g x = some (ad x)) (hk1 : 1 ≤ k) (hk : k < 32) (hB : bankOk ln le fr us) (hfit : sb_Fit f) : Met l yX0_reshape (wsG (.code yX0_reshape cX0_reshape 10 none)) ({ frames := 3, cells := 0, slots := 0, locals := 64 }) (va_Pc [.ref h, .int (nI k), .int nv, .int t0, .int v0] (gP (dC, dI) [(cS, .object RX5), (cB, .byte)] ([(h, .inr (0, [.ref sa, .ref bb, .int us])), (sa, .inl (cS, 32, .inr (.inr (.inr (.inr g))))), (bb, .inl (cB, 4000, .inl f))] ++ famN 32 ad le tu vo sr lo fr) sz)) (va_Qv (fun u : va_W × gT => ∃ (ln2 : Nat → Nat) (us2 : Int32) (f2 : Nat → Int32) (le2 : Nat → Int32) (tu2 : Nat → Int32) (vo2 : Nat → Int32) (sr2 : Nat → Int32) (lo2 : Nat → Int32) (fr2 : Nat → Int32), u = (([(h, .inr (0, [.ref sa, .ref bb, .int us2])), (sa, .inl (cS, 32, .inr (.inr (.inr (.inr g))))), (bb, .inl (cB, 4000, .inl f2))] ++ famN 32 ad le2 tu2 vo2 sr2 lo2 fr2), []) ∧ bankOk ln2 le2 fr2 us2 ∧ sb_Fit f2) (gB (dC, dI) (va_A ([(h, .inr (0, [.ref sa, .ref bb, .int us])), (sa, .inl (cS, 32, .inr (.inr (.inr (.inr g))))), (bb, .inl (cB, 4000, .inl f))] ++ famN 32 ad le tu vo sr lo fr) sz)) (va_A ([(h, .inr (0, [.ref sa, .ref bb, .int us])), (sa, .inl (cS, 32, .inr (.inr (.inr (.inr g))))), (bb, .inl (cB, 4000, .inl f))] ++ famN 32 ad le tu vo sr lo fr) sz)) 0 0 (va_A ([(h, .inr (0, [.ref sa, .ref bb, .int us])), (sa, .inl (cS, 32, .inr (.inr (.inr (.inr g))))), (bb, .inl (cB, 4000, .inl f))] ++ famN 32 ad le tu vo sr lo fr) sz) := by
  refine Met.ofW (cc := cX0_reshape) (maxL := 10) (ret := none) (by decide) rfl ?_
  intro p e s m args below meth c s₁ B hml hv
  obtain ⟨rfl, hsz, hP, hK, hD0, hN, hZ⟩ := hv
  have hx := B.exec
  have hb := B.bytes
  have hr := B.returns
  have hts := atoms_spec (ws := (wsG (.code yX0_reshape cX0_reshape 10 none))) B.pre
  have hown : s.vm.findClass RX0 = some m.cls := findClass_of_methodNamed B.named
  have hlocks := B.notSynchronized
  subst hsz
  have hD := hD0.self (sz := s.heap.size)
  generalize hAe : va_A ([(h, .inr (0, [.ref sa, .ref bb, .int us])), (sa, .inl (cS, 32, .inr (.inr (.inr (.inr g))))), (bb, .inl (cB, 4000, .inl f))] ++ famN 32 ad le tu vo sr lo fr) s.heap.size = A at hD hZ ⊢
  have hA : ∀ q : Nat, s.heap.size ≤ q → A q := fun q h => by rw [← hAe]; exact Or.inr h
  have hl := lv_entry ([.ref h, .int (nI k), .int nv, .int t0, .int v0]) (n := 10) (Nat.le_of_ble_eq_true rfl)
  rw [lg_entry_eq]
  generalize (lg_sl ([.ref h, .int (nI k), .int nv, .int t0, .int v0]) ++ List.replicate (10 - (lg_sl ([.ref h, .int (nI k), .int nv, .int t0, .int v0])).length) Slot.unset).toArray = ls at hl ⊢
  have hl : lv_has ls 10 [(0, .ref h), (1, .int (nI k)), (2, .int nv), (3, .int t0), (4, .int v0)] := hl
  refine g_start (A := A) hP (fun H locs hP hS => ?_)
  have hq := bk_sum hB hk
  refine lv_aload_n hx hb dX0_reshape_0 rfl (lv_at hl 0 rfl) ?_
  refine lv_iload_n hx hb dX0_reshape_1 rfl (lv_at hl 1 rfl) ?_
  refine g_calliQ (X := [(h, .inr (0, [.ref sa, .ref bb, .int us])), (sa, .inl (cS, 32, .inr (.inr (.inr (.inr g))))), (bb, .inl (cB, 4000, .inl f))]) (wr := [(sa, .inl (cS, 32, .inr (.inr (.inr (.inr g))))), (bb, .inl (cB, 4000, .inl f))]) (va_runV (As := [.int (nI k)]) (rest := []) ⟨hx, hb, hml, hown, hts⟩ (c_has l dC dI H.size h sa bb us (nI k) ) (cwV 1 hts (gG_V kw_396 kw_397 kw_398 kw_22 kw_399) rfl rfl rfl (by decide +kernel) ⟨Nat.le_of_ble_eq_true rfl, Nat.le_of_ble_eq_true rfl⟩) (g_preV (ws := [(h, .inr (0, [.ref sa, .ref bb, .int us])), (sa, .inl (cS, 32, .inr (.inr (.inr (.inr g))))), (bb, .inl (cB, 4000, .inl f))]) (C := RX0) (T := TX0) (N := 3) hP.left hD.left hK hS hA hN hZ (q0 := 0) rfl rfl [0] (by decide) rfl [] rfl) rfl rfl hl.1 rfl (lv_room (Nat.le_of_ble_eq_true rfl)) dX0_reshape_2 ⟨Nat.le_of_ble_eq_true rfl, Nat.le_of_ble_eq_true rfl⟩) hP hD hK hS hA [0] [1, 2] rfl rfl (by decide) (by decide) (fun r_2 w ty1 H locs hw_2 hP hD _ hS => ?_)
  rcases hw_2 with ⟨hu, hr_2, hh_2⟩ | ⟨hu, hr_2, hh_2⟩
  · cases hu
    have hP : va_P (dC, dI) vwCl ([(sa, .inl (cS, 32, .inr (.inr (.inr (.inr g))))), (bb, .inl (cB, 4000, .inl f)), (h, .inr (0, [.ref sa, .ref bb, .int us]))] ++ famN 32 ad le tu vo sr lo fr) H := hP
    have hD : va_D A ([(sa, .inl (cS, 32, .inr (.inr (.inr (.inr g))))), (bb, .inl (cB, 4000, .inl f)), (h, .inr (0, [.ref sa, .ref bb, .int us]))] ++ famN 32 ad le tu vo sr lo fr) := hD
    refine g_topi (y := 1) hr_2 ?_
    refine lv_if_eq (tgt := 17) hx hb dX0_reshape_5 (by decide) (fun c_5 => absurd c_5 (by decide)) (fun c_5 => ?_)
    refine lv_aload_n hx hb dX0_reshape_8 rfl (lv_at hl 0 rfl) ?_
    refine lv_iload_n hx hb dX0_reshape_9 rfl (lv_at hl 1 rfl) ?_
    refine lv_iload_n hx hb dX0_reshape_10 rfl (lv_at hl 2 rfl) ?_
    refine g_calliP (X := [(sa, .inl (cS, 32, .inr (.inr (.inr (.inr g))))), (bb, .inl (cB, 4000, .inl f)), (h, .inr (0, [.ref sa, .ref bb, .int us]))]) (wr := [(bb, .inl (cB, 4000, .inl f))]) (va_runV (As := [.int (nI k), .int nv]) (rest := []) ⟨hx, hb, hml, hown, hts⟩ (c_canResize l dC dI H.size h sa bb us ad cS g le tu vo sr lo fr k nv (hg) (hk)) (cwV 2 hts (gG_V kw_400 kw_401 kw_402 kw_22 kw_403) rfl rfl rfl (by decide +kernel) ⟨Nat.le_of_ble_eq_true rfl, Nat.le_of_ble_eq_true rfl⟩) (g_preVP (X := [(sa, .inl (cS, 32, .inr (.inr (.inr (.inr g))))), (bb, .inl (cB, 4000, .inl f)), (h, .inr (0, [.ref sa, .ref bb, .int us]))]) (C := RX0) (T := TX0) (N := 3) hP hD hK hS hA hN hZ (q0 := 2) rfl rfl [2, 0] (by decide) rfl [0] rfl) rfl rfl hl.1 rfl (lv_room (Nat.le_of_ble_eq_true rfl)) dX0_reshape_11 ⟨Nat.le_of_ble_eq_true rfl, Nat.le_of_ble_eq_true rfl⟩) hP hD hK hS hA [2, 0] [1] rfl rfl (by decide) (by decide) (fun r_11 w ty1 H locs hw_11 hJ _ hS => ?_)
    rcases hw_11 with ⟨hu, hr_11, hh_11⟩ | ⟨hu, hr_11, hh_11⟩
    · cases hu
      obtain ⟨hP, hD⟩ := hJ _ _ rfl
      have hP : va_P (dC, dI) vwCl ([(bb, .inl (cB, 4000, .inl f)), (h, .inr (0, [.ref sa, .ref bb, .int us])), (sa, .inl (cS, 32, .inr (.inr (.inr (.inr g)))))] ++ famN 32 ad le tu vo sr lo fr) H := hP
      have hD : va_D A ([(bb, .inl (cB, 4000, .inl f)), (h, .inr (0, [.ref sa, .ref bb, .int us])), (sa, .inl (cS, 32, .inr (.inr (.inr (.inr g)))))] ++ famN 32 ad le tu vo sr lo fr) := hD
      refine g_topi (y := 1) hr_11 ?_
      obtain ⟨n, hn, hnn⟩ := lenOk_n hh_11
      subst hnn
      have hsn := sg_n hB hk hn hh_11
      have hev := hsn.1
      have hs := hsn.2
      refine lv_if_ne (tgt := 18) hx hb dX0_reshape_14 (by decide) (fun c_14 => ?_) (fun c_14 => absurd c_14 (by decide))
      refine lv_aload_n hx hb dX0_reshape_18 rfl (lv_at hl 0 rfl) ?_
      refine va_get (D := (dC, dI)) (ci := 0) (v := .ref sa) (C := RX0) (T := TX0) (N := 3) hx hb hts iwX0 hown hK hP 1 rfl rfl 0 (by decide) (hts (.fieldLink RX0 11 "ModulePlayer$Bank" "samples" "[LModulePlayer$Sample;") (List.mem_cons_of_mem _ kw_54)) (fun _ h9 => h9) rfl dX0_reshape_19 ?_
      refine lv_iload_n hx hb dX0_reshape_22 rfl (lv_at hl 1 rfl) ?_
      refine g_aald hx hb hK hP 2 0 rfl rfl k (nI_clamp (by omega)) (y := (ad k)) (hg k hk) (vp_in_nI hk (by decide)) dX0_reshape_23 ?_
      refine lv_astore (lv' := [(5, .ref (ad k)), (0, .ref h), (1, .int (nI k)), (2, .int (nI n)), (3, .int t0), (4, .int v0)]) hx hb dX0_reshape_24 hl (by decide) rfl (fun ls hl => ?_)
      refine lv_iload_n hx hb dX0_reshape_26 rfl (lv_at hl 3 rfl) ?_
      refine lv_aload hx hb dX0_reshape_27 (lv_at hl 0 rfl) ?_
      refine va_get (D := (dC, dI)) (ci := 5) (v := .int (le k)) (C := RX5) (T := TX5) (N := 6) hx hb hts iwX5 hown hK hP _ (fam_at (k := k) (hk)) rfl 0 (by decide) (hts (.fieldLink RX0 34 "ModulePlayer$Sample" "length" "I") (List.mem_cons_of_mem _ kw_381)) (fun _ h9 => h9) rfl dX0_reshape_29 ?_
      refine lv_isub hx hb dX0_reshape_32 ?_
      refine lv_topi (fun mo_ emo_ => ?_)
      refine lv_istore (lv' := [(6, .int mo_), (5, .ref (ad k)), (0, .ref h), (1, .int (nI k)), (2, .int (nI n)), (3, .int t0), (4, .int v0)]) hx hb dX0_reshape_33 hl (by decide) rfl (fun ls hl => ?_)
      refine lv_aload hx hb dX0_reshape_35 (lv_at hl 1 rfl) ?_
      refine va_get (D := (dC, dI)) (ci := 5) (v := .int (fr k)) (C := RX5) (T := TX5) (N := 6) hx hb hts iwX5 hown hK hP _ (fam_at (k := k) (hk)) rfl 5 (by decide) (hts (.fieldLink RX0 41 "ModulePlayer$Sample" "from" "I") (List.mem_cons_of_mem _ kw_382)) (fun _ h9 => h9) rfl dX0_reshape_37 ?_
      refine lv_aload hx hb dX0_reshape_40 (lv_at hl 1 rfl) ?_
      refine va_get (D := (dC, dI)) (ci := 5) (v := .int (le k)) (C := RX5) (T := TX5) (N := 6) hx hb hts iwX5 hown hK hP _ (fam_at (k := k) (hk)) rfl 0 (by decide) (hts (.fieldLink RX0 34 "ModulePlayer$Sample" "length" "I") (List.mem_cons_of_mem _ kw_381)) (fun _ h9 => h9) rfl dX0_reshape_42 ?_
      refine lv_iadd hx hb dX0_reshape_45 ?_
      refine g_topi (y := nI (sumTo ln k + ln k)) (by rw [bk_fr hB hk, bk_le hB hk]; exact nI_add _ _) ?_
      refine lv_istore (lv' := [(7, .int (nI (sumTo ln k + ln k))), (6, .int mo_), (5, .ref (ad k)), (0, .ref h), (1, .int (nI k)), (2, .int (nI n)), (3, .int t0), (4, .int v0)]) hx hb dX0_reshape_46 hl (by decide) rfl (fun ls hl => ?_)
      refine lv_aload hx hb dX0_reshape_48 (lv_at hl 2 rfl) ?_
      refine va_get (D := (dC, dI)) (ci := 5) (v := .int (fr k)) (C := RX5) (T := TX5) (N := 6) hx hb hts iwX5 hown hK hP _ (fam_at (k := k) (hk)) rfl 5 (by decide) (hts (.fieldLink RX0 41 "ModulePlayer$Sample" "from" "I") (List.mem_cons_of_mem _ kw_382)) (fun _ h9 => h9) rfl dX0_reshape_50 ?_
      refine lv_iload_n hx hb dX0_reshape_53 rfl (lv_at hl 5 rfl) ?_
      refine lv_iadd hx hb dX0_reshape_54 ?_
      refine g_topi (y := nI (sumTo ln k + n)) (by rw [bk_fr hB hk]; exact nI_add _ _) ?_
      refine lv_istore (lv' := [(8, .int (nI (sumTo ln k + n))), (7, .int (nI (sumTo ln k + ln k))), (6, .int mo_), (5, .ref (ad k)), (0, .ref h), (1, .int (nI k)), (2, .int (nI n)), (3, .int t0), (4, .int v0)]) hx hb dX0_reshape_55 hl (by decide) rfl (fun ls hl => ?_)
      refine lv_aload_n hx hb dX0_reshape_57 rfl (lv_at hl 4 rfl) ?_
      refine va_get (D := (dC, dI)) (ci := 0) (v := .ref bb) (C := RX0) (T := TX0) (N := 3) hx hb hts iwX0 hown hK hP 1 rfl rfl 1 (by decide) (hts (.fieldLink RX0 17 "ModulePlayer$Bank" "bytes" "[B") (List.mem_cons_of_mem _ kw_55)) (fun _ h9 => h9) rfl dX0_reshape_58 ?_
      refine lv_iload hx hb dX0_reshape_61 (lv_at hl 1 rfl) ?_
      refine lv_aload_n hx hb dX0_reshape_63 rfl (lv_at hl 4 rfl) ?_
      refine va_get (D := (dC, dI)) (ci := 0) (v := .ref bb) (C := RX0) (T := TX0) (N := 3) hx hb hts iwX0 hown hK hP 1 rfl rfl 1 (by decide) (hts (.fieldLink RX0 17 "ModulePlayer$Bank" "bytes" "[B") (List.mem_cons_of_mem _ kw_55)) (fun _ h9 => h9) rfl dX0_reshape_64 ?_
      refine lv_iload hx hb dX0_reshape_67 (lv_at hl 0 rfl) ?_
      refine lv_aload_n hx hb dX0_reshape_69 rfl (lv_at hl 4 rfl) ?_
      refine va_get (D := (dC, dI)) (ci := 0) (v := .int us) (C := RX0) (T := TX0) (N := 3) hx hb hts iwX0 hown hK hP 1 rfl rfl 2 (by decide) (hts (.fieldLink RX0 26 "ModulePlayer$Bank" "used" "I") (List.mem_cons_of_mem _ kw_383)) (fun _ h9 => h9) rfl dX0_reshape_70 ?_
      refine lv_iload hx hb dX0_reshape_73 (lv_at hl 1 rfl) ?_
      refine lv_isub hx hb dX0_reshape_75 ?_
      refine g_topi (y := nI (sumTo ln 32 - (sumTo ln k + ln k))) (by rw [hB.2.2.1]; exact pk_sub (by omega)) ?_
      refine va_copyi hx hb (by rw [hml]; exact hl.1.symm) hown (hts (.methodLink RX0 47 arraycopyName) (List.mem_cons_of_mem _ kw_388)) (hts (.native arraycopyName) (List.mem_cons_of_mem _ kw_389)) (hts (.static arraycopyName) (List.mem_cons_of_mem _ kw_390)) (hts (.initialized "java/lang/System") (List.mem_cons_of_mem _ kw_391)) hK hP hD hS 0 0 1 1 rfl rfl rfl rfl rfl (nI_pos (by omega)) (nI_pos (by omega)) (nI_pos (by omega)) (by rw [nI_clamp (by omega), nI_clamp (by omega)]; omega) (by rw [nI_clamp (by omega), nI_clamp (by omega)]; omega) (fun x hx0 => hfit _) (Nat.le_of_ble_eq_true rfl) (by decide) dX0_reshape_76 (fun H locs hP hD hS => ?_)
      have hP : va_P (dC, dI) vwCl ([(bb, .inl (cB, 4000, .inl (va_cpy f f (nI (sumTo ln k + ln k)).toNatClampNeg (nI (sumTo ln k + n)).toNatClampNeg (nI (sumTo ln 32 - (sumTo ln k + ln k))).toNatClampNeg))), (h, .inr (0, [.ref sa, .ref bb, .int us])), (sa, .inl (cS, 32, .inr (.inr (.inr (.inr g)))))] ++ famN 32 ad le tu vo sr lo fr) H := hP
      have hD : va_D A ([(bb, .inl (cB, 4000, .inl (va_cpy f f (nI (sumTo ln k + ln k)).toNatClampNeg (nI (sumTo ln k + n)).toNatClampNeg (nI (sumTo ln 32 - (sumTo ln k + ln k))).toNatClampNeg))), (h, .inr (0, [.ref sa, .ref bb, .int us])), (sa, .inl (cS, 32, .inr (.inr (.inr (.inr g)))))] ++ famN 32 ad le tu vo sr lo fr) := hD
      generalize hcp_76 : va_cpy f f (nI (sumTo ln k + ln k)).toNatClampNeg (nI (sumTo ln k + n)).toNatClampNeg (nI (sumTo ln 32 - (sumTo ln k + ln k))).toNatClampNeg = f1_ at hP hD
      refine lv_aload_n hx hb dX0_reshape_79 rfl (lv_at hl 4 rfl) ?_
      refine va_get (D := (dC, dI)) (ci := 0) (v := .ref bb) (C := RX0) (T := TX0) (N := 3) hx hb hts iwX0 hown hK hP 1 rfl rfl 1 (by decide) (hts (.fieldLink RX0 17 "ModulePlayer$Bank" "bytes" "[B") (List.mem_cons_of_mem _ kw_55)) (fun _ h9 => h9) rfl dX0_reshape_80 ?_
      refine lv_aload hx hb dX0_reshape_83 (lv_at hl 3 rfl) ?_
      refine va_get (D := (dC, dI)) (ci := 5) (v := .int (fr k)) (C := RX5) (T := TX5) (N := 6) hx hb hts iwX5 hown hK hP _ (fam_at (k := k) (hk)) rfl 5 (by decide) (hts (.fieldLink RX0 41 "ModulePlayer$Sample" "from" "I") (List.mem_cons_of_mem _ kw_382)) (fun _ h9 => h9) rfl dX0_reshape_85 ?_
      refine g_topi (y := nI (sumTo ln k)) (bk_fr hB hk) ?_
      refine lv_iload hx hb dX0_reshape_88 (lv_at hl 0 rfl) ?_
      refine lv_iconst (v := 0) hx hb dX0_reshape_90 (by decide) ?_
      refine g_callvQ (X := [(bb, .inl (cB, 4000, .inl f1_)), (h, .inr (0, [.ref sa, .ref bb, .int us])), (sa, .inl (cS, 32, .inr (.inr (.inr (.inr g)))))]) (wr := [(h, .inr (0, [.ref sa, .ref bb, .int us])), (sa, .inl (cS, 32, .inr (.inr (.inr (.inr g)))))]) (va_runS (As := [.ref bb, .int (nI (sumTo ln k)), .int (nI (sumTo ln k + n)), .int 0]) (rest := []) ⟨hx, hb, hml, hown, hts⟩ (c_fillB l dC dI H.size bb cB 4000 (sumTo ln k) (sumTo ln k + n) f1_ 0 (by omega) (by omega) (by decide)) (va_cwS 4 hts (gG_S kw_409 kw_410 kw_124 kw_411) rfl rfl rfl (by decide +kernel) ⟨Nat.le_of_ble_eq_true rfl, Nat.le_of_ble_eq_true rfl⟩) (g_preS (ws := [(bb, .inl (cB, 4000, .inl f1_)), (h, .inr (0, [.ref sa, .ref bb, .int us])), (sa, .inl (cS, 32, .inr (.inr (.inr (.inr g)))))]) hP.left hD.left hK hS hA hN hZ [0] (by decide) rfl [1] rfl) rfl rfl hl.1 rfl (lv_room (Nat.le_of_ble_eq_true rfl)) dX0_reshape_91 ⟨Nat.le_of_ble_eq_true rfl, Nat.le_of_ble_eq_true rfl⟩) hP hD hK hS hA [0] [1, 2] rfl rfl (by decide) (by decide) (fun w ty1 H locs hw_91 hP hD _ hS => ?_)
      rcases hw_91 with ⟨f2_91, hu, hf_91⟩
      cases hu
      have hP : va_P (dC, dI) vwCl ([(h, .inr (0, [.ref sa, .ref bb, .int us])), (sa, .inl (cS, 32, .inr (.inr (.inr (.inr g))))), (bb, .inl (cB, 4000, .inl f2_91))] ++ famN 32 ad le tu vo sr lo fr) H := hP
      have hD : va_D A ([(h, .inr (0, [.ref sa, .ref bb, .int us])), (sa, .inl (cS, 32, .inr (.inr (.inr (.inr g))))), (bb, .inl (cB, 4000, .inl f2_91))] ++ famN 32 ad le tu vo sr lo fr) := hD
      refine lv_iload_n hx hb dX0_reshape_94 rfl (lv_at hl 5 rfl) ?_
      refine lv_iconst (v := 1) hx hb dX0_reshape_95 (by decide) ?_
      refine lv_iadd hx hb dX0_reshape_96 ?_
      refine g_topi (y := nI (k + 1)) (nI_1 k) ?_
      refine lv_istore (lv' := [(9, .int (nI (k + 1))), (8, .int (nI (sumTo ln k + n))), (7, .int (nI (sumTo ln k + ln k))), (6, .int mo_), (5, .ref (ad k)), (0, .ref h), (1, .int (nI k)), (2, .int (nI n)), (3, .int t0), (4, .int v0)]) hx hb dX0_reshape_97 hl (by decide) rfl (fun ls hl => ?_)
      rw [← frUp_0 fr mo_ k] at hP hD
      have LP99 : ∀ (fu99 : Nat) (q : Nat) (hq1 : k < q) (hq2 : q ≤ 32) (hm99 : 32 - q < fu99) (H : Heap) (locs : List Loc), va_P (dC, dI) vwCl ([(h, .inr (0, [.ref sa, .ref bb, .int us])), (sa, .inl (cS, 32, .inr (.inr (.inr (.inr g))))), (bb, .inl (cB, 4000, .inl f2_91))] ++ famN 32 ad le tu vo sr lo (frUp fr mo_ k q)) H → va_D A ([(h, .inr (0, [.ref sa, .ref bb, .int us])), (sa, .inl (cS, 32, .inr (.inr (.inr (.inr g))))), (bb, .inl (cB, 4000, .inl f2_91))] ++ famN 32 ad le tu vo sr lo (frUp fr mo_ k q)) → va_S A s.heap H locs → ∀ ls : Array Slot, lv_has ls 10 [(9, .int (nI q)), (8, .int (nI (sumTo ln k + n))), (7, .int (nI (sumTo ln k + ln k))), (6, .int mo_), (5, .ref (ad k)), (0, .ref h), (1, .int (nI k)), (2, .int (nI n)), (3, .int t0), (4, .int v0)] → W p l e ({ frames := 3, cells := 0, slots := 0, locals := 64 }) s m ([.ref h, .int (nI k), .int (nI n), .int t0, .int v0] : List Value).toArray below meth c H locs (0) (0) (MQ below (va_Qv (fun u : va_W × gT => ∃ (ln2 : Nat → Nat) (us2 : Int32) (f2 : Nat → Int32) (le2 : Nat → Int32) (tu2 : Nat → Int32) (vo2 : Nat → Int32) (sr2 : Nat → Int32) (lo2 : Nat → Int32) (fr2 : Nat → Int32), u = (([(h, .inr (0, [.ref sa, .ref bb, .int us2])), (sa, .inl (cS, 32, .inr (.inr (.inr (.inr g))))), (bb, .inl (cB, 4000, .inl f2))] ++ famN 32 ad le2 tu2 vo2 sr2 lo2 fr2), []) ∧ bankOk ln2 le2 fr2 us2 ∧ sb_Fit f2) (gB (dC, dI) A) A) ([.ref h, .int (nI k), .int (nI n), .int t0, .int v0] : List Value).toArray s 0 0 A) (F0 m 99 ls []) := by
        intro fu99
        induction fu99 with
        | zero => intro q hq1 hq2 hm99; exact absurd hm99 (Nat.not_lt_zero _)
        | succ fu99 ih99 =>
          intro q hq1 hq2 hm99 H locs hP hD hS ls hl
          refine lv_iload hx hb dX0_reshape_99 (lv_at hl 0 rfl) ?_
          refine lv_bipush (v := 31) hx hb dX0_reshape_101 (by decide) ?_
          refine lv_icmp_gt (tgt := 129) hx hb dX0_reshape_103 (by decide) (fun c_103 => ?_) (fun c_103 => ?_)
          · refine lv_aload_n hx hb dX0_reshape_129 rfl (lv_at hl 5 rfl) ?_
            refine lv_dup hx hb dX0_reshape_130 rfl ?_
            refine va_get (D := (dC, dI)) (ci := 0) (v := .int us) (C := RX0) (T := TX0) (N := 3) hx hb hts iwX0 hown hK hP 0 rfl rfl 2 (by decide) (hts (.fieldLink RX0 26 "ModulePlayer$Bank" "used" "I") (List.mem_cons_of_mem _ kw_383)) (fun _ h9 => h9) rfl dX0_reshape_131 ?_
            refine lv_iload hx hb dX0_reshape_134 (lv_at hl 3 rfl) ?_
            refine lv_iadd hx hb dX0_reshape_136 ?_
            refine va_put (D := (dC, dI)) (ci := 0) (v := .int (us + mo_)) (ty := tyX0 2) (C := RX0) (T := TX0) (N := 3) hx hb hts iwX0 tyX0 tyX0_ok nmX0 hown hK hP hD hS 0 rfl rfl 2 (by decide) (hts (.fieldLink RX0 26 "ModulePlayer$Bank" "used" "I") (List.mem_cons_of_mem _ kw_383)) (fun _ h9 => h9) rfl (by decide +kernel) (rfl) (rfl) (Nat.le_of_ble_eq_true rfl) dX0_reshape_137 (fun H locs hP hD hS => ?_)
            have hP : va_P (dC, dI) vwCl ([(h, .inr (0, [.ref sa, .ref bb, .int (us + mo_)])), (sa, .inl (cS, 32, .inr (.inr (.inr (.inr g))))), (bb, .inl (cB, 4000, .inl f2_91))] ++ famN 32 ad le tu vo sr lo (frUp fr mo_ k q)) H := hP
            have hD : va_D A ([(h, .inr (0, [.ref sa, .ref bb, .int (us + mo_)])), (sa, .inl (cS, 32, .inr (.inr (.inr (.inr g))))), (bb, .inl (cB, 4000, .inl f2_91))] ++ famN 32 ad le tu vo sr lo (frUp fr mo_ k q)) := hD
            refine lv_aload hx hb dX0_reshape_140 (lv_at hl 4 rfl) ?_
            refine lv_iload_n hx hb dX0_reshape_142 rfl (lv_at hl 7 rfl) ?_
            refine va_put (D := (dC, dI)) (ci := 5) (v := .int (nI n)) (ty := tyX5 0) (C := RX5) (T := TX5) (N := 6) hx hb hts iwX5 tyX5 tyX5_ok nmX5 hown hK hP hD hS _ (fam_at (k := k) (hk)) rfl 0 (by decide) (hts (.fieldLink RX0 34 "ModulePlayer$Sample" "length" "I") (List.mem_cons_of_mem _ kw_381)) (fun _ h9 => h9) rfl (by decide +kernel) rfl rfl (Nat.le_of_ble_eq_true rfl) dX0_reshape_143 (fun H locs hP hD hS => ?_)
            have hP : va_P (dC, dI) vwCl ([(h, .inr (0, [.ref sa, .ref bb, .int (us + mo_)])), (sa, .inl (cS, 32, .inr (.inr (.inr (.inr g))))), (bb, .inl (cB, 4000, .inl f2_91))] ++ famN 32 ad (upd le k (nI n)) tu vo sr lo (frUp fr mo_ k q)) H := by have h9 : va_P (dC, dI) vwCl ((([(h, .inr (0, [.ref sa, .ref bb, .int (us + mo_)])), (sa, .inl (cS, 32, .inr (.inr (.inr (.inr g))))), (bb, .inl (cB, 4000, .inl f2_91))] ++ famN 32 ad le tu vo sr lo (frUp fr mo_ k q)) : va_W).set (([(h, .inr (0, [.ref sa, .ref bb, .int (us + mo_)])), (sa, .inl (cS, 32, .inr (.inr (.inr (.inr g))))), (bb, .inl (cB, 4000, .inl f2_91))] : va_W).length + k) (ad k, .inr (5, [.int (nI n), .int ((tu) k), .int ((vo) k), .int ((sr) k), .int ((lo) k), .int ((frUp fr mo_ k q) k)]))) H := hP; rw [fam_up] at h9; simp only [upd_id] at h9 ⊢; exact h9
            have hD : va_D A ([(h, .inr (0, [.ref sa, .ref bb, .int (us + mo_)])), (sa, .inl (cS, 32, .inr (.inr (.inr (.inr g))))), (bb, .inl (cB, 4000, .inl f2_91))] ++ famN 32 ad (upd le k (nI n)) tu vo sr lo (frUp fr mo_ k q)) := by have h9 : va_D A ((([(h, .inr (0, [.ref sa, .ref bb, .int (us + mo_)])), (sa, .inl (cS, 32, .inr (.inr (.inr (.inr g))))), (bb, .inl (cB, 4000, .inl f2_91))] ++ famN 32 ad le tu vo sr lo (frUp fr mo_ k q)) : va_W).set (([(h, .inr (0, [.ref sa, .ref bb, .int (us + mo_)])), (sa, .inl (cS, 32, .inr (.inr (.inr (.inr g))))), (bb, .inl (cB, 4000, .inl f2_91))] : va_W).length + k) (ad k, .inr (5, [.int (nI n), .int ((tu) k), .int ((vo) k), .int ((sr) k), .int ((lo) k), .int ((frUp fr mo_ k q) k)]))) := hD; rw [fam_up] at h9; simp only [upd_id] at h9 ⊢; exact h9
            refine lv_aload hx hb dX0_reshape_146 (lv_at hl 4 rfl) ?_
            refine lv_iload_n hx hb dX0_reshape_148 rfl (lv_at hl 8 rfl) ?_
            refine va_put (D := (dC, dI)) (ci := 5) (v := .int t0) (ty := tyX5 1) (C := RX5) (T := TX5) (N := 6) hx hb hts iwX5 tyX5 tyX5_ok nmX5 hown hK hP hD hS _ (fam_at (k := k) (hk)) rfl 1 (by decide) (hts (.fieldLink RX0 59 "ModulePlayer$Sample" "tune" "I") (List.mem_cons_of_mem _ kw_392)) (fun _ h9 => h9) rfl (by decide +kernel) rfl rfl (Nat.le_of_ble_eq_true rfl) dX0_reshape_149 (fun H locs hP hD hS => ?_)
            have hP : va_P (dC, dI) vwCl ([(h, .inr (0, [.ref sa, .ref bb, .int (us + mo_)])), (sa, .inl (cS, 32, .inr (.inr (.inr (.inr g))))), (bb, .inl (cB, 4000, .inl f2_91))] ++ famN 32 ad (upd le k (nI n)) (upd tu k t0) vo sr lo (frUp fr mo_ k q)) H := by have h9 : va_P (dC, dI) vwCl ((([(h, .inr (0, [.ref sa, .ref bb, .int (us + mo_)])), (sa, .inl (cS, 32, .inr (.inr (.inr (.inr g))))), (bb, .inl (cB, 4000, .inl f2_91))] ++ famN 32 ad (upd le k (nI n)) tu vo sr lo (frUp fr mo_ k q)) : va_W).set (([(h, .inr (0, [.ref sa, .ref bb, .int (us + mo_)])), (sa, .inl (cS, 32, .inr (.inr (.inr (.inr g))))), (bb, .inl (cB, 4000, .inl f2_91))] : va_W).length + k) (ad k, .inr (5, [.int ((upd le k (nI n)) k), .int (t0), .int ((vo) k), .int ((sr) k), .int ((lo) k), .int ((frUp fr mo_ k q) k)]))) H := hP; rw [fam_up] at h9; simp only [upd_id] at h9 ⊢; exact h9
            have hD : va_D A ([(h, .inr (0, [.ref sa, .ref bb, .int (us + mo_)])), (sa, .inl (cS, 32, .inr (.inr (.inr (.inr g))))), (bb, .inl (cB, 4000, .inl f2_91))] ++ famN 32 ad (upd le k (nI n)) (upd tu k t0) vo sr lo (frUp fr mo_ k q)) := by have h9 : va_D A ((([(h, .inr (0, [.ref sa, .ref bb, .int (us + mo_)])), (sa, .inl (cS, 32, .inr (.inr (.inr (.inr g))))), (bb, .inl (cB, 4000, .inl f2_91))] ++ famN 32 ad (upd le k (nI n)) tu vo sr lo (frUp fr mo_ k q)) : va_W).set (([(h, .inr (0, [.ref sa, .ref bb, .int (us + mo_)])), (sa, .inl (cS, 32, .inr (.inr (.inr (.inr g))))), (bb, .inl (cB, 4000, .inl f2_91))] : va_W).length + k) (ad k, .inr (5, [.int ((upd le k (nI n)) k), .int (t0), .int ((vo) k), .int ((sr) k), .int ((lo) k), .int ((frUp fr mo_ k q) k)]))) := hD; rw [fam_up] at h9; simp only [upd_id] at h9 ⊢; exact h9
            refine lv_aload hx hb dX0_reshape_152 (lv_at hl 4 rfl) ?_
            refine lv_iload hx hb dX0_reshape_154 (lv_at hl 9 rfl) ?_
            refine va_put (D := (dC, dI)) (ci := 5) (v := .int v0) (ty := tyX5 2) (C := RX5) (T := TX5) (N := 6) hx hb hts iwX5 tyX5 tyX5_ok nmX5 hown hK hP hD hS _ (fam_at (k := k) (hk)) rfl 2 (by decide) (hts (.fieldLink RX0 62 "ModulePlayer$Sample" "volume" "I") (List.mem_cons_of_mem _ kw_393)) (fun _ h9 => h9) rfl (by decide +kernel) rfl rfl (Nat.le_of_ble_eq_true rfl) dX0_reshape_156 (fun H locs hP hD hS => ?_)
            have hP : va_P (dC, dI) vwCl ([(h, .inr (0, [.ref sa, .ref bb, .int (us + mo_)])), (sa, .inl (cS, 32, .inr (.inr (.inr (.inr g))))), (bb, .inl (cB, 4000, .inl f2_91))] ++ famN 32 ad (upd le k (nI n)) (upd tu k t0) (upd vo k v0) sr lo (frUp fr mo_ k q)) H := by have h9 : va_P (dC, dI) vwCl ((([(h, .inr (0, [.ref sa, .ref bb, .int (us + mo_)])), (sa, .inl (cS, 32, .inr (.inr (.inr (.inr g))))), (bb, .inl (cB, 4000, .inl f2_91))] ++ famN 32 ad (upd le k (nI n)) (upd tu k t0) vo sr lo (frUp fr mo_ k q)) : va_W).set (([(h, .inr (0, [.ref sa, .ref bb, .int (us + mo_)])), (sa, .inl (cS, 32, .inr (.inr (.inr (.inr g))))), (bb, .inl (cB, 4000, .inl f2_91))] : va_W).length + k) (ad k, .inr (5, [.int ((upd le k (nI n)) k), .int ((upd tu k t0) k), .int (v0), .int ((sr) k), .int ((lo) k), .int ((frUp fr mo_ k q) k)]))) H := hP; rw [fam_up] at h9; simp only [upd_id] at h9 ⊢; exact h9
            have hD : va_D A ([(h, .inr (0, [.ref sa, .ref bb, .int (us + mo_)])), (sa, .inl (cS, 32, .inr (.inr (.inr (.inr g))))), (bb, .inl (cB, 4000, .inl f2_91))] ++ famN 32 ad (upd le k (nI n)) (upd tu k t0) (upd vo k v0) sr lo (frUp fr mo_ k q)) := by have h9 : va_D A ((([(h, .inr (0, [.ref sa, .ref bb, .int (us + mo_)])), (sa, .inl (cS, 32, .inr (.inr (.inr (.inr g))))), (bb, .inl (cB, 4000, .inl f2_91))] ++ famN 32 ad (upd le k (nI n)) (upd tu k t0) vo sr lo (frUp fr mo_ k q)) : va_W).set (([(h, .inr (0, [.ref sa, .ref bb, .int (us + mo_)])), (sa, .inl (cS, 32, .inr (.inr (.inr (.inr g))))), (bb, .inl (cB, 4000, .inl f2_91))] : va_W).length + k) (ad k, .inr (5, [.int ((upd le k (nI n)) k), .int ((upd tu k t0) k), .int (v0), .int ((sr) k), .int ((lo) k), .int ((frUp fr mo_ k q) k)]))) := hD; rw [fam_up] at h9; simp only [upd_id] at h9 ⊢; exact h9
            refine lv_aload hx hb dX0_reshape_159 (lv_at hl 4 rfl) ?_
            refine lv_iconst (v := 0) hx hb dX0_reshape_161 (by decide) ?_
            refine va_put (D := (dC, dI)) (ci := 5) (v := .int 0) (ty := tyX5 3) (C := RX5) (T := TX5) (N := 6) hx hb hts iwX5 tyX5 tyX5_ok nmX5 hown hK hP hD hS _ (fam_at (k := k) (hk)) rfl 3 (by decide) (hts (.fieldLink RX0 65 "ModulePlayer$Sample" "start" "I") (List.mem_cons_of_mem _ kw_394)) (fun _ h9 => h9) rfl (by decide +kernel) rfl rfl (Nat.le_of_ble_eq_true rfl) dX0_reshape_162 (fun H locs hP hD hS => ?_)
            have hP : va_P (dC, dI) vwCl ([(h, .inr (0, [.ref sa, .ref bb, .int (us + mo_)])), (sa, .inl (cS, 32, .inr (.inr (.inr (.inr g))))), (bb, .inl (cB, 4000, .inl f2_91))] ++ famN 32 ad (upd le k (nI n)) (upd tu k t0) (upd vo k v0) (upd sr k 0) lo (frUp fr mo_ k q)) H := by have h9 : va_P (dC, dI) vwCl ((([(h, .inr (0, [.ref sa, .ref bb, .int (us + mo_)])), (sa, .inl (cS, 32, .inr (.inr (.inr (.inr g))))), (bb, .inl (cB, 4000, .inl f2_91))] ++ famN 32 ad (upd le k (nI n)) (upd tu k t0) (upd vo k v0) sr lo (frUp fr mo_ k q)) : va_W).set (([(h, .inr (0, [.ref sa, .ref bb, .int (us + mo_)])), (sa, .inl (cS, 32, .inr (.inr (.inr (.inr g))))), (bb, .inl (cB, 4000, .inl f2_91))] : va_W).length + k) (ad k, .inr (5, [.int ((upd le k (nI n)) k), .int ((upd tu k t0) k), .int ((upd vo k v0) k), .int (0), .int ((lo) k), .int ((frUp fr mo_ k q) k)]))) H := hP; rw [fam_up] at h9; simp only [upd_id] at h9 ⊢; exact h9
            have hD : va_D A ([(h, .inr (0, [.ref sa, .ref bb, .int (us + mo_)])), (sa, .inl (cS, 32, .inr (.inr (.inr (.inr g))))), (bb, .inl (cB, 4000, .inl f2_91))] ++ famN 32 ad (upd le k (nI n)) (upd tu k t0) (upd vo k v0) (upd sr k 0) lo (frUp fr mo_ k q)) := by have h9 : va_D A ((([(h, .inr (0, [.ref sa, .ref bb, .int (us + mo_)])), (sa, .inl (cS, 32, .inr (.inr (.inr (.inr g))))), (bb, .inl (cB, 4000, .inl f2_91))] ++ famN 32 ad (upd le k (nI n)) (upd tu k t0) (upd vo k v0) sr lo (frUp fr mo_ k q)) : va_W).set (([(h, .inr (0, [.ref sa, .ref bb, .int (us + mo_)])), (sa, .inl (cS, 32, .inr (.inr (.inr (.inr g))))), (bb, .inl (cB, 4000, .inl f2_91))] : va_W).length + k) (ad k, .inr (5, [.int ((upd le k (nI n)) k), .int ((upd tu k t0) k), .int ((upd vo k v0) k), .int (0), .int ((lo) k), .int ((frUp fr mo_ k q) k)]))) := hD; rw [fam_up] at h9; simp only [upd_id] at h9 ⊢; exact h9
            refine lv_aload hx hb dX0_reshape_165 (lv_at hl 4 rfl) ?_
            refine lv_iconst (v := 0) hx hb dX0_reshape_167 (by decide) ?_
            refine va_put (D := (dC, dI)) (ci := 5) (v := .int 0) (ty := tyX5 4) (C := RX5) (T := TX5) (N := 6) hx hb hts iwX5 tyX5 tyX5_ok nmX5 hown hK hP hD hS _ (fam_at (k := k) (hk)) rfl 4 (by decide) (hts (.fieldLink RX0 68 "ModulePlayer$Sample" "loop" "I") (List.mem_cons_of_mem _ kw_395)) (fun _ h9 => h9) rfl (by decide +kernel) rfl rfl (Nat.le_of_ble_eq_true rfl) dX0_reshape_168 (fun H locs hP hD hS => ?_)
            have hP : va_P (dC, dI) vwCl ([(h, .inr (0, [.ref sa, .ref bb, .int (us + mo_)])), (sa, .inl (cS, 32, .inr (.inr (.inr (.inr g))))), (bb, .inl (cB, 4000, .inl f2_91))] ++ famN 32 ad (upd le k (nI n)) (upd tu k t0) (upd vo k v0) (upd sr k 0) (upd lo k 0) (frUp fr mo_ k q)) H := by have h9 : va_P (dC, dI) vwCl ((([(h, .inr (0, [.ref sa, .ref bb, .int (us + mo_)])), (sa, .inl (cS, 32, .inr (.inr (.inr (.inr g))))), (bb, .inl (cB, 4000, .inl f2_91))] ++ famN 32 ad (upd le k (nI n)) (upd tu k t0) (upd vo k v0) (upd sr k 0) lo (frUp fr mo_ k q)) : va_W).set (([(h, .inr (0, [.ref sa, .ref bb, .int (us + mo_)])), (sa, .inl (cS, 32, .inr (.inr (.inr (.inr g))))), (bb, .inl (cB, 4000, .inl f2_91))] : va_W).length + k) (ad k, .inr (5, [.int ((upd le k (nI n)) k), .int ((upd tu k t0) k), .int ((upd vo k v0) k), .int ((upd sr k 0) k), .int (0), .int ((frUp fr mo_ k q) k)]))) H := hP; rw [fam_up] at h9; simp only [upd_id] at h9 ⊢; exact h9
            have hD : va_D A ([(h, .inr (0, [.ref sa, .ref bb, .int (us + mo_)])), (sa, .inl (cS, 32, .inr (.inr (.inr (.inr g))))), (bb, .inl (cB, 4000, .inl f2_91))] ++ famN 32 ad (upd le k (nI n)) (upd tu k t0) (upd vo k v0) (upd sr k 0) (upd lo k 0) (frUp fr mo_ k q)) := by have h9 : va_D A ((([(h, .inr (0, [.ref sa, .ref bb, .int (us + mo_)])), (sa, .inl (cS, 32, .inr (.inr (.inr (.inr g))))), (bb, .inl (cB, 4000, .inl f2_91))] ++ famN 32 ad (upd le k (nI n)) (upd tu k t0) (upd vo k v0) (upd sr k 0) lo (frUp fr mo_ k q)) : va_W).set (([(h, .inr (0, [.ref sa, .ref bb, .int (us + mo_)])), (sa, .inl (cS, 32, .inr (.inr (.inr (.inr g))))), (bb, .inl (cB, 4000, .inl f2_91))] : va_W).length + k) (ad k, .inr (5, [.int ((upd le k (nI n)) k), .int ((upd tu k t0) k), .int ((upd vo k v0) k), .int ((upd sr k 0) k), .int (0), .int ((frUp fr mo_ k q) k)]))) := hD; rw [fam_up] at h9; simp only [upd_id] at h9 ⊢; exact h9
            have hP9 := hP.sub (ws' := ([(h, .inr (0, [.ref sa, .ref bb, .int (us + mo_)])), (sa, .inl (cS, 32, .inr (.inr (.inr (.inr g))))), (bb, .inl (cB, 4000, .inl f2_91))] ++ famN 32 ad (upd le k (nI n)) (upd tu k t0) (upd vo k v0) (upd sr k 0) (upd lo k 0) (frUp fr mo_ k q))) [0, 1, 2, 3, 4, 5, 6, 7, 8, 9, 10, 11, 12, 13, 14, 15, 16, 17, 18, 19, 20, 21, 22, 23, 24, 25, 26, 27, 28, 29, 30, 31, 32, 33, 34] rfl
            have hD9 := hD.sub (ws' := ([(h, .inr (0, [.ref sa, .ref bb, .int (us + mo_)])), (sa, .inl (cS, 32, .inr (.inr (.inr (.inr g))))), (bb, .inl (cB, 4000, .inl f2_91))] ++ famN 32 ad (upd le k (nI n)) (upd tu k t0) (upd vo k v0) (upd sr k 0) (upd lo k 0) (frUp fr mo_ k q))) [0, 1, 2, 3, 4, 5, 6, 7, 8, 9, 10, 11, 12, 13, 14, 15, 16, 17, 18, 19, 20, 21, 22, 23, 24, 25, 26, 27, 28, 29, 30, 31, 32, 33, 34] (by decide) rfl
            have hK9 := hK.sub (tys' := []) [] rfl
            exact W.vret hx hb hr (fun t ht hW => ⟨⟨(([(h, .inr (0, [.ref sa, .ref bb, .int (us + mo_)])), (sa, .inl (cS, 32, .inr (.inr (.inr (.inr g))))), (bb, .inl (cB, 4000, .inl f2_91))] ++ famN 32 ad (upd le k (nI n)) (upd tu k t0) (upd vo k v0) (upd sr k 0) (upd lo k 0) (frUp fr mo_ k q)), []), rfl, ⟨(updN ln k n), (us + mo_), f2_91, (upd le k (nI n)), (upd tu k t0), (upd vo k v0), (upd sr k 0), (upd lo k 0), (frUp fr mo_ k q), rfl, (by rw [show q = 32 by have := nI_lt' (a := 31) c_103 (by decide) (by omega); omega]; exact bk_new hB hk1 hk hn hev hs emo_), (fit_rs hfit (rs_f hcp_76 hf_91 (by omega) (by omega) (by omega)))⟩, by rw [ht]; exact hP9, va_K.moved hW.alike hK9, hD9⟩, hS.F ht⟩) hS.2.2 dX0_reshape_171
          refine lv_aload_n hx hb dX0_reshape_106 rfl (lv_at hl 5 rfl) ?_
          refine va_get (D := (dC, dI)) (ci := 0) (v := .ref sa) (C := RX0) (T := TX0) (N := 3) hx hb hts iwX0 hown hK hP 0 rfl rfl 0 (by decide) (hts (.fieldLink RX0 11 "ModulePlayer$Bank" "samples" "[LModulePlayer$Sample;") (List.mem_cons_of_mem _ kw_54)) (fun _ h9 => h9) rfl dX0_reshape_107 ?_
          refine lv_iload hx hb dX0_reshape_110 (lv_at hl 0 rfl) ?_
          refine g_aald hx hb hK hP 1 0 rfl rfl q (nI_clamp (by have := nI_nlt2 (a := 31) c_103 (by omega); omega)) (y := (ad q)) (hg q (by have := nI_nlt2 (a := 31) c_103 (by omega); omega)) (vp_in_nI (by have := nI_nlt2 (a := 31) c_103 (by omega); omega) (by decide)) dX0_reshape_112 ?_
          refine lv_dup hx hb dX0_reshape_113 rfl ?_
          refine va_get (D := (dC, dI)) (ci := 5) (v := .int ((frUp fr mo_ k q) q)) (C := RX5) (T := TX5) (N := 6) hx hb hts iwX5 hown hK hP _ (fam_at (k := q) (by have := nI_nlt2 (a := 31) c_103 (by omega); omega)) rfl 5 (by decide) (hts (.fieldLink RX0 41 "ModulePlayer$Sample" "from" "I") (List.mem_cons_of_mem _ kw_382)) (fun _ h9 => h9) rfl dX0_reshape_114 ?_
          refine lv_iload hx hb dX0_reshape_117 (lv_at hl 3 rfl) ?_
          refine lv_iadd hx hb dX0_reshape_119 ?_
          refine va_put (D := (dC, dI)) (ci := 5) (v := .int (((frUp fr mo_ k q) q) + mo_)) (ty := tyX5 5) (C := RX5) (T := TX5) (N := 6) hx hb hts iwX5 tyX5 tyX5_ok nmX5 hown hK hP hD hS _ (fam_at (k := q) (by have := nI_nlt2 (a := 31) c_103 (by omega); omega)) rfl 5 (by decide) (hts (.fieldLink RX0 41 "ModulePlayer$Sample" "from" "I") (List.mem_cons_of_mem _ kw_382)) (fun _ h9 => h9) rfl (by decide +kernel) rfl rfl (Nat.le_of_ble_eq_true rfl) dX0_reshape_120 (fun H locs hP hD hS => ?_)
          have hP : va_P (dC, dI) vwCl ([(h, .inr (0, [.ref sa, .ref bb, .int us])), (sa, .inl (cS, 32, .inr (.inr (.inr (.inr g))))), (bb, .inl (cB, 4000, .inl f2_91))] ++ famN 32 ad le tu vo sr lo (upd (frUp fr mo_ k q) q (((frUp fr mo_ k q) q) + mo_))) H := by have h9 : va_P (dC, dI) vwCl ((([(h, .inr (0, [.ref sa, .ref bb, .int us])), (sa, .inl (cS, 32, .inr (.inr (.inr (.inr g))))), (bb, .inl (cB, 4000, .inl f2_91))] ++ famN 32 ad le tu vo sr lo (frUp fr mo_ k q)) : va_W).set (([(h, .inr (0, [.ref sa, .ref bb, .int us])), (sa, .inl (cS, 32, .inr (.inr (.inr (.inr g))))), (bb, .inl (cB, 4000, .inl f2_91))] : va_W).length + q) (ad q, .inr (5, [.int ((le) q), .int ((tu) q), .int ((vo) q), .int ((sr) q), .int ((lo) q), .int (((frUp fr mo_ k q) q) + mo_)]))) H := hP; rw [fam_up] at h9; simp only [upd_id] at h9 ⊢; exact h9
          have hD : va_D A ([(h, .inr (0, [.ref sa, .ref bb, .int us])), (sa, .inl (cS, 32, .inr (.inr (.inr (.inr g))))), (bb, .inl (cB, 4000, .inl f2_91))] ++ famN 32 ad le tu vo sr lo (upd (frUp fr mo_ k q) q (((frUp fr mo_ k q) q) + mo_))) := by have h9 : va_D A ((([(h, .inr (0, [.ref sa, .ref bb, .int us])), (sa, .inl (cS, 32, .inr (.inr (.inr (.inr g))))), (bb, .inl (cB, 4000, .inl f2_91))] ++ famN 32 ad le tu vo sr lo (frUp fr mo_ k q)) : va_W).set (([(h, .inr (0, [.ref sa, .ref bb, .int us])), (sa, .inl (cS, 32, .inr (.inr (.inr (.inr g))))), (bb, .inl (cB, 4000, .inl f2_91))] : va_W).length + q) (ad q, .inr (5, [.int ((le) q), .int ((tu) q), .int ((vo) q), .int ((sr) q), .int ((lo) q), .int (((frUp fr mo_ k q) q) + mo_)]))) := hD; rw [fam_up] at h9; simp only [upd_id] at h9 ⊢; exact h9
          refine lv_iinc (v := nI (q + 1)) (lv' := [(9, .int (nI (q + 1))), (8, .int (nI (sumTo ln k + n))), (7, .int (nI (sumTo ln k + ln k))), (6, .int mo_), (5, .ref (ad k)), (0, .ref h), (1, .int (nI k)), (2, .int (nI n)), (3, .int t0), (4, .int v0)]) hx hb dX0_reshape_123 hl (k := 0) rfl (nI_1 q) (by decide) rfl (fun ls hl => ?_)
          refine lv_goto (tgt := 99) hx hb dX0_reshape_126 (by decide) ?_
          rw [frUp_s hq1] at hP hD
          exact ih99 (q + 1) (by omega) (by have := nI_nlt2 (a := 31) c_103 (by omega); omega) (by have := nI_nlt2 (a := 31) c_103 (by omega); omega) _ _ hP hD hS _ (lv_sub hl [0, 1, 2, 3, 4, 5, 6, 7, 8, 9] rfl)
      exact LP99 _ (k + 1) (by omega) (by omega) (Nat.lt_succ_self _) _ _ hP hD hS _ (lv_sub hl [0, 1, 2, 3, 4, 5, 6, 7, 8, 9] rfl)
    cases hu
    obtain ⟨hP, hD⟩ := hJ _ _ rfl
    have hP : va_P (dC, dI) vwCl ([(bb, .inl (cB, 4000, .inl f)), (h, .inr (0, [.ref sa, .ref bb, .int us])), (sa, .inl (cS, 32, .inr (.inr (.inr (.inr g)))))] ++ famN 32 ad le tu vo sr lo fr) H := hP
    have hD : va_D A ([(bb, .inl (cB, 4000, .inl f)), (h, .inr (0, [.ref sa, .ref bb, .int us])), (sa, .inl (cS, 32, .inr (.inr (.inr (.inr g)))))] ++ famN 32 ad le tu vo sr lo fr) := hD
    refine g_topi (y := 0) hr_11 ?_
    refine lv_if_ne (tgt := 18) hx hb dX0_reshape_14 (by decide) (fun c_14 => absurd c_14 (by decide)) (fun c_14 => ?_)
    have hP9 := hP.sub (ws' := ([(h, .inr (0, [.ref sa, .ref bb, .int us])), (sa, .inl (cS, 32, .inr (.inr (.inr (.inr g))))), (bb, .inl (cB, 4000, .inl f))] ++ famN 32 ad le tu vo sr lo fr)) [1, 2, 0, 3, 4, 5, 6, 7, 8, 9, 10, 11, 12, 13, 14, 15, 16, 17, 18, 19, 20, 21, 22, 23, 24, 25, 26, 27, 28, 29, 30, 31, 32, 33, 34] rfl
    have hD9 := hD.sub (ws' := ([(h, .inr (0, [.ref sa, .ref bb, .int us])), (sa, .inl (cS, 32, .inr (.inr (.inr (.inr g))))), (bb, .inl (cB, 4000, .inl f))] ++ famN 32 ad le tu vo sr lo fr)) [1, 2, 0, 3, 4, 5, 6, 7, 8, 9, 10, 11, 12, 13, 14, 15, 16, 17, 18, 19, 20, 21, 22, 23, 24, 25, 26, 27, 28, 29, 30, 31, 32, 33, 34] (by decide) rfl
    have hK9 := hK.sub (tys' := []) [] rfl
    exact W.vret hx hb hr (fun t ht hW => ⟨⟨(([(h, .inr (0, [.ref sa, .ref bb, .int us])), (sa, .inl (cS, 32, .inr (.inr (.inr (.inr g))))), (bb, .inl (cB, 4000, .inl f))] ++ famN 32 ad le tu vo sr lo fr), []), rfl, ⟨ln, us, f, le, tu, vo, sr, lo, fr, rfl, hB, hfit⟩, by rw [ht]; exact hP9, va_K.moved hW.alike hK9, hD9⟩, hS.F ht⟩) hS.2.2 dX0_reshape_17
  exact False.elim (hh_2 ⟨nI_le (a := 1) hk1 (by omega), nI_le (b := 31) (by omega) (by decide)⟩)

