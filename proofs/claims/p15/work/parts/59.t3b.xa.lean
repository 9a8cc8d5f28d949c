set_option maxHeartbeats 400000 in
set_option maxRecDepth 100000 in
theorem x_mCellAt (l : Launch) (dC : Nat → ClassId) (dI : Nat → Nat → Nat) (sz : Nat) (h : Nat) (qa : Nat → Nat) (x0 x2 x3 x4 x13 x14 x15 x16 x17 x18 x19 x20 x21 x22 x23 x24 x26 x27 x28 : Int32) (cB : ClassId) (ft : Nat → Int32) (kx : Nat) (hkx : kx + 3 < 9000) : Met l yX11_cellAt (wsG (.code yX11_cellAt cX11_cellAt 4 (some .int))) ({ frames := 1, cells := 0, slots := 0, locals := 21 }) (va_Pc [.ref h, .int (nI kx)] (gP (dC, dI) [(cB, .byte)] [(h, .inr (10, mdF qa x0 x2 x3 x4 x13 x14 x15 x16 x17 x18 x19 x20 x21 x22 x23 x24 x26 x27 x28)), (qa 1, .inl (cB, 9000, .inl ft))] sz)) (va_Qi (fun (r : Int32) (u : va_W × gT) => u = ([(h, .inr (10, mdF qa x0 x2 x3 x4 x13 x14 x15 x16 x17 x18 x19 x20 x21 x22 x23 x24 x26 x27 x28)), (qa 1, .inl (cB, 9000, .inl ft))], []) ∧ r = clF ft kx) (gB (dC, dI) (va_A [(h, .inr (10, mdF qa x0 x2 x3 x4 x13 x14 x15 x16 x17 x18 x19 x20 x21 x22 x23 x24 x26 x27 x28)), (qa 1, .inl (cB, 9000, .inl ft))] sz)) (va_A [(h, .inr (10, mdF qa x0 x2 x3 x4 x13 x14 x15 x16 x17 x18 x19 x20 x21 x22 x23 x24 x26 x27 x28)), (qa 1, .inl (cB, 9000, .inl ft))] sz)) 0 0 (va_A [(h, .inr (10, mdF qa x0 x2 x3 x4 x13 x14 x15 x16 x17 x18 x19 x20 x21 x22 x23 x24 x26 x27 x28)), (qa 1, .inl (cB, 9000, .inl ft))] sz) := by
  refine Met.ofW (cc := cX11_cellAt) (maxL := 4) (ret := (some .int)) (by decide) rfl ?_
  intro p e s m args below meth c s₁ B hml hv
  obtain ⟨rfl, hsz, hP, hK, hD0, hN, hZ⟩ := hv
  have hx := B.exec
  have hb := B.bytes
  have hr := B.returns
  have hts := atoms_spec (ws := (wsG (.code yX11_cellAt cX11_cellAt 4 (some .int)))) B.pre
  have hown : s.vm.findClass RX11 = some m.cls := findClass_of_methodNamed B.named
  have hlocks := B.notSynchronized
  subst hsz
  have hD := hD0.self (sz := s.heap.size)
  generalize hAe : va_A [(h, .inr (10, mdF qa x0 x2 x3 x4 x13 x14 x15 x16 x17 x18 x19 x20 x21 x22 x23 x24 x26 x27 x28)), (qa 1, .inl (cB, 9000, .inl ft))] s.heap.size = A at hD hZ ⊢
  have hA : ∀ q : Nat, s.heap.size ≤ q → A q := fun q h => by rw [← hAe]; exact Or.inr h
  have hl := lv_entry ([.ref h, .int (nI kx)]) (n := 4) (Nat.le_of_ble_eq_true rfl)
  rw [lg_entry_eq]
  generalize (lg_sl ([.ref h, .int (nI kx)]) ++ List.replicate (4 - (lg_sl ([.ref h, .int (nI kx)])).length) Slot.unset).toArray = ls at hl ⊢
  have hl : lv_has ls 4 [(0, .ref h), (1, .int (nI kx))] := hl
  refine g_start (A := A) hP (fun H locs hP hS => ?_)
  refine lv_aload_n hx hb dX11_cellAt_0 rfl (lv_at hl 0 rfl) ?_
  refine lv_iload_n hx hb dX11_cellAt_1 rfl (lv_at hl 1 rfl) ?_
  refine g_calli (wr := []) (va_runV (As := [.int (nI kx)]) (rest := []) ⟨hx, hb, hml, hown, hts⟩ (m_one l dC dI H.size h qa x0 x2 x3 x4 x13 x14 x15 x16 x17 x18 x19 x20 x21 x22 x23 x24 x26 x27 x28 cB ft kx (by omega)) (cwV 1 hts (gG_V kw_431 kw_432 kw_433 kw_5 kw_434) rfl rfl rfl (by decide +kernel) ⟨Nat.le_of_ble_eq_true rfl, Nat.le_of_ble_eq_true rfl⟩) (g_preV (C := RX11) (T := TX11) (N := 53) hP hD hK hS hA hN hZ (q0 := 0) rfl rfl [0, 1] (by decide +kernel) rfl [0] rfl) rfl rfl hl.1 rfl (lv_room (Nat.le_of_ble_eq_true rfl)) dX11_cellAt_2 ⟨Nat.le_of_ble_eq_true rfl, Nat.le_of_ble_eq_true rfl⟩) hP hD hK hS hA [0, 1] [] rfl rfl (by decide +kernel) (by decide +kernel) (fun r_2 w ty1 H locs hw_2 hP hD _ hS => ?_)
  rcases hw_2 with ⟨hu, hr_2⟩
  cases hu
  have hP : va_P (dC, dI) vwCl [(h, .inr (10, mdF qa x0 x2 x3 x4 x13 x14 x15 x16 x17 x18 x19 x20 x21 x22 x23 x24 x26 x27 x28)), (qa 1, .inl (cB, 9000, .inl ft))] H := hP
  have hD : va_D A [(h, .inr (10, mdF qa x0 x2 x3 x4 x13 x14 x15 x16 x17 x18 x19 x20 x21 x22 x23 x24 x26 x27 x28)), (qa 1, .inl (cB, 9000, .inl ft))] := hD
  refine g_topi (y := nI (by8 ft kx)) hr_2 ?_
  refine lv_sipush (v := 240) hx hb dX11_cellAt_5 (by decide) ?_
  refine lv_iand hx hb dX11_cellAt_8 ?_
  refine lv_aload_n hx hb dX11_cellAt_9 rfl (lv_at hl 0 rfl) ?_
  refine lv_iload_n hx hb dX11_cellAt_10 rfl (lv_at hl 1 rfl) ?_
  refine lv_iconst (v := 2) hx hb dX11_cellAt_11 (by decide) ?_
  refine lv_iadd hx hb dX11_cellAt_12 ?_
  refine g_topi (y := nI (kx + 2)) (nI_add _ 2) ?_
  refine g_calli (wr := []) (va_runV (As := [.int (nI (kx + 2))]) (rest := [.int ((nI (by8 ft kx)) &&& 240)]) ⟨hx, hb, hml, hown, hts⟩ (m_one l dC dI H.size h qa x0 x2 x3 x4 x13 x14 x15 x16 x17 x18 x19 x20 x21 x22 x23 x24 x26 x27 x28 cB ft (kx + 2) (by omega)) (cwV 1 hts (gG_V kw_431 kw_432 kw_433 kw_5 kw_434) rfl rfl rfl (by decide +kernel) ⟨Nat.le_of_ble_eq_true rfl, Nat.le_of_ble_eq_true rfl⟩) (g_preV (C := RX11) (T := TX11) (N := 53) hP hD hK hS hA hN hZ (q0 := 0) rfl rfl [0, 1] (by decide +kernel) rfl [0] rfl) rfl rfl hl.1 rfl (lv_room (Nat.le_of_ble_eq_true rfl)) dX11_cellAt_13 ⟨Nat.le_of_ble_eq_true rfl, Nat.le_of_ble_eq_true rfl⟩) hP hD hK hS hA [0, 1] [] rfl rfl (by decide +kernel) (by decide +kernel) (fun r_13 w ty1 H locs hw_13 hP hD _ hS => ?_)
  rcases hw_13 with ⟨hu, hr_13⟩
  cases hu
  have hP : va_P (dC, dI) vwCl [(h, .inr (10, mdF qa x0 x2 x3 x4 x13 x14 x15 x16 x17 x18 x19 x20 x21 x22 x23 x24 x26 x27 x28)), (qa 1, .inl (cB, 9000, .inl ft))] H := hP
  have hD : va_D A [(h, .inr (10, mdF qa x0 x2 x3 x4 x13 x14 x15 x16 x17 x18 x19 x20 x21 x22 x23 x24 x26 x27 x28)), (qa 1, .inl (cB, 9000, .inl ft))] := hD
  refine g_topi (y := nI (by8 ft (kx + 2))) hr_13 ?_
  refine lv_iconst (v := 4) hx hb dX11_cellAt_16 (by decide) ?_
  refine lv_ishr hx hb dX11_cellAt_17 ?_
  refine lv_ior hx hb dX11_cellAt_18 ?_
  refine lv_bipush (v := 31) hx hb dX11_cellAt_19 (by decide) ?_
  refine lv_iand hx hb dX11_cellAt_21 ?_
  refine lv_topi (fun sx_ esx_ => ?_)
  refine lv_istore_n (lv' := [(2, .int sx_), (0, .ref h), (1, .int (nI kx))]) hx hb dX11_cellAt_22 rfl hl (by decide) rfl (fun ls hl => ?_)
  refine lv_sipush (v := 256) hx hb dX11_cellAt_23 (by decide) ?_
  refine lv_aload_n hx hb dX11_cellAt_26 rfl (lv_at hl 1 rfl) ?_
  refine lv_iload_n hx hb dX11_cellAt_27 rfl (lv_at hl 2 rfl) ?_
  refine g_calli (wr := []) (va_runV (As := [.int (nI kx)]) (rest := [.int 256]) ⟨hx, hb, hml, hown, hts⟩ (m_one l dC dI H.size h qa x0 x2 x3 x4 x13 x14 x15 x16 x17 x18 x19 x20 x21 x22 x23 x24 x26 x27 x28 cB ft kx (by omega)) (cwV 1 hts (gG_V kw_431 kw_432 kw_433 kw_5 kw_434) rfl rfl rfl (by decide +kernel) ⟨Nat.le_of_ble_eq_true rfl, Nat.le_of_ble_eq_true rfl⟩) (g_preV (C := RX11) (T := TX11) (N := 53) hP hD hK hS hA hN hZ (q0 := 0) rfl rfl [0, 1] (by decide +kernel) rfl [0] rfl) rfl rfl hl.1 rfl (lv_room (Nat.le_of_ble_eq_true rfl)) dX11_cellAt_28 ⟨Nat.le_of_ble_eq_true rfl, Nat.le_of_ble_eq_true rfl⟩) hP hD hK hS hA [0, 1] [] rfl rfl (by decide +kernel) (by decide +kernel) (fun r_28 w ty1 H locs hw_28 hP hD _ hS => ?_)
  rcases hw_28 with ⟨hu, hr_28⟩
  cases hu
  have hP : va_P (dC, dI) vwCl [(h, .inr (10, mdF qa x0 x2 x3 x4 x13 x14 x15 x16 x17 x18 x19 x20 x21 x22 x23 x24 x26 x27 x28)), (qa 1, .inl (cB, 9000, .inl ft))] H := hP
  have hD : va_D A [(h, .inr (10, mdF qa x0 x2 x3 x4 x13 x14 x15 x16 x17 x18 x19 x20 x21 x22 x23 x24 x26 x27 x28)), (qa 1, .inl (cB, 9000, .inl ft))] := hD
  refine g_topi (y := nI (by8 ft kx)) hr_28 ?_
  refine lv_bipush (v := 15) hx hb dX11_cellAt_31 (by decide) ?_
  refine lv_iand hx hb dX11_cellAt_33 ?_
  refine lv_imul hx hb dX11_cellAt_34 ?_
  refine lv_aload_n hx hb dX11_cellAt_35 rfl (lv_at hl 1 rfl) ?_
  refine lv_iload_n hx hb dX11_cellAt_36 rfl (lv_at hl 2 rfl) ?_
  refine lv_iconst (v := 1) hx hb dX11_cellAt_37 (by decide) ?_
  refine lv_iadd hx hb dX11_cellAt_38 ?_
  refine g_topi (y := nI (kx + 1)) (nI_add _ 1) ?_
  refine g_calli (wr := []) (va_runV (As := [.int (nI (kx + 1))]) (rest := [.int (256 * ((nI (by8 ft kx)) &&& 15))]) ⟨hx, hb, hml, hown, hts⟩ (m_one l dC dI H.size h qa x0 x2 x3 x4 x13 x14 x15 x16 x17 x18 x19 x20 x21 x22 x23 x24 x26 x27 x28 cB ft (kx + 1) (by omega)) (cwV 1 hts (gG_V kw_431 kw_432 kw_433 kw_5 kw_434) rfl rfl rfl (by decide +kernel) ⟨Nat.le_of_ble_eq_true rfl, Nat.le_of_ble_eq_true rfl⟩) (g_preV (C := RX11) (T := TX11) (N := 53) hP hD hK hS hA hN hZ (q0 := 0) rfl rfl [0, 1] (by decide +kernel) rfl [0] rfl) rfl rfl hl.1 rfl (lv_room (Nat.le_of_ble_eq_true rfl)) dX11_cellAt_39 ⟨Nat.le_of_ble_eq_true rfl, Nat.le_of_ble_eq_true rfl⟩) hP hD hK hS hA [0, 1] [] rfl rfl (by decide +kernel) (by decide +kernel) (fun r_39 w ty1 H locs hw_39 hP hD _ hS => ?_)
  rcases hw_39 with ⟨hu, hr_39⟩
  cases hu
  have hP : va_P (dC, dI) vwCl [(h, .inr (10, mdF qa x0 x2 x3 x4 x13 x14 x15 x16 x17 x18 x19 x20 x21 x22 x23 x24 x26 x27 x28)), (qa 1, .inl (cB, 9000, .inl ft))] H := hP
  have hD : va_D A [(h, .inr (10, mdF qa x0 x2 x3 x4 x13 x14 x15 x16 x17 x18 x19 x20 x21 x22 x23 x24 x26 x27 x28)), (qa 1, .inl (cB, 9000, .inl ft))] := hD
  refine g_topi (y := nI (by8 ft (kx + 1))) hr_39 ?_
  refine lv_iadd hx hb dX11_cellAt_42 ?_
  refine lv_topi (fun pp_ epp_ => ?_)
  refine lv_istore_n (lv' := [(3, .int pp_), (2, .int sx_), (0, .ref h), (1, .int (nI kx))]) hx hb dX11_cellAt_43 rfl hl (by decide) rfl (fun ls hl => ?_)
  refine lv_ldc (v := 131072) hx hb hown (hts (.constant RX11 178 (131072)) (List.mem_cons_of_mem _ kw_451)) dX11_cellAt_44 ?_
  refine lv_iload_n hx hb dX11_cellAt_46 rfl (lv_at hl 0 rfl) ?_
  refine lv_imul hx hb dX11_cellAt_47 ?_
  refine lv_sipush (v := 4096) hx hb dX11_cellAt_48 (by decide) ?_
  refine lv_iload_n hx hb dX11_cellAt_51 rfl (lv_at hl 1 rfl) ?_
  refine lv_imul hx hb dX11_cellAt_52 ?_
  refine lv_iadd hx hb dX11_cellAt_53 ?_
  refine lv_sipush (v := 256) hx hb dX11_cellAt_54 (by decide) ?_
  refine lv_aload_n hx hb dX11_cellAt_57 rfl (lv_at hl 2 rfl) ?_
  refine lv_iload_n hx hb dX11_cellAt_58 rfl (lv_at hl 3 rfl) ?_
  refine lv_iconst (v := 2) hx hb dX11_cellAt_59 (by decide) ?_
  refine lv_iadd hx hb dX11_cellAt_60 ?_
  refine g_topi (y := nI (kx + 2)) (nI_add _ 2) ?_
  refine g_calli (wr := []) (va_runV (As := [.int (nI (kx + 2))]) (rest := [.int 256, .int ((131072 * pp_) + (4096 * sx_))]) ⟨hx, hb, hml, hown, hts⟩ (m_one l dC dI H.size h qa x0 x2 x3 x4 x13 x14 x15 x16 x17 x18 x19 x20 x21 x22 x23 x24 x26 x27 x28 cB ft (kx + 2) (by omega)) (cwV 1 hts (gG_V kw_431 kw_432 kw_433 kw_5 kw_434) rfl rfl rfl (by decide +kernel) ⟨Nat.le_of_ble_eq_true rfl, Nat.le_of_ble_eq_true rfl⟩) (g_preV (C := RX11) (T := TX11) (N := 53) hP hD hK hS hA hN hZ (q0 := 0) rfl rfl [0, 1] (by decide +kernel) rfl [0] rfl) rfl rfl hl.1 rfl (lv_room (Nat.le_of_ble_eq_true rfl)) dX11_cellAt_61 ⟨Nat.le_of_ble_eq_true rfl, Nat.le_of_ble_eq_true rfl⟩) hP hD hK hS hA [0, 1] [] rfl rfl (by decide +kernel) (by decide +kernel) (fun r_61 w ty1 H locs hw_61 hP hD _ hS => ?_)
  rcases hw_61 with ⟨hu, hr_61⟩
  cases hu
  have hP : va_P (dC, dI) vwCl [(h, .inr (10, mdF qa x0 x2 x3 x4 x13 x14 x15 x16 x17 x18 x19 x20 x21 x22 x23 x24 x26 x27 x28)), (qa 1, .inl (cB, 9000, .inl ft))] H := hP
  have hD : va_D A [(h, .inr (10, mdF qa x0 x2 x3 x4 x13 x14 x15 x16 x17 x18 x19 x20 x21 x22 x23 x24 x26 x27 x28)), (qa 1, .inl (cB, 9000, .inl ft))] := hD
  refine g_topi (y := nI (by8 ft (kx + 2))) hr_61 ?_
  refine lv_bipush (v := 15) hx hb dX11_cellAt_64 (by decide) ?_
  refine lv_iand hx hb dX11_cellAt_66 ?_
  refine lv_imul hx hb dX11_cellAt_67 ?_
  refine lv_iadd hx hb dX11_cellAt_68 ?_
  refine lv_aload_n hx hb dX11_cellAt_69 rfl (lv_at hl 2 rfl) ?_
  refine lv_iload_n hx hb dX11_cellAt_70 rfl (lv_at hl 3 rfl) ?_
  refine lv_iconst (v := 3) hx hb dX11_cellAt_71 (by decide) ?_
  refine lv_iadd hx hb dX11_cellAt_72 ?_
  refine g_topi (y := nI (kx + 3)) (nI_add _ 3) ?_
  refine g_calli (wr := []) (va_runV (As := [.int (nI (kx + 3))]) (rest := [.int (((131072 * pp_) + (4096 * sx_)) + (256 * ((nI (by8 ft (kx + 2))) &&& 15)))]) ⟨hx, hb, hml, hown, hts⟩ (m_one l dC dI H.size h qa x0 x2 x3 x4 x13 x14 x15 x16 x17 x18 x19 x20 x21 x22 x23 x24 x26 x27 x28 cB ft (kx + 3) (by omega)) (cwV 1 hts (gG_V kw_431 kw_432 kw_433 kw_5 kw_434) rfl rfl rfl (by decide +kernel) ⟨Nat.le_of_ble_eq_true rfl, Nat.le_of_ble_eq_true rfl⟩) (g_preV (C := RX11) (T := TX11) (N := 53) hP hD hK hS hA hN hZ (q0 := 0) rfl rfl [0, 1] (by decide +kernel) rfl [0] rfl) rfl rfl hl.1 rfl (lv_room (Nat.le_of_ble_eq_true rfl)) dX11_cellAt_73 ⟨Nat.le_of_ble_eq_true rfl, Nat.le_of_ble_eq_true rfl⟩) hP hD hK hS hA [0, 1] [] rfl rfl (by decide +kernel) (by decide +kernel) (fun r_73 w ty1 H locs hw_73 hP hD _ hS => ?_)
  rcases hw_73 with ⟨hu, hr_73⟩
  cases hu
  have hP : va_P (dC, dI) vwCl [(h, .inr (10, mdF qa x0 x2 x3 x4 x13 x14 x15 x16 x17 x18 x19 x20 x21 x22 x23 x24 x26 x27 x28)), (qa 1, .inl (cB, 9000, .inl ft))] H := hP
  have hD : va_D A [(h, .inr (10, mdF qa x0 x2 x3 x4 x13 x14 x15 x16 x17 x18 x19 x20 x21 x22 x23 x24 x26 x27 x28)), (qa 1, .inl (cB, 9000, .inl ft))] := hD
  refine g_topi (y := nI (by8 ft (kx + 3))) hr_73 ?_
  refine lv_iadd hx hb dX11_cellAt_76 ?_
  refine lv_topi (fun cv_ ecv_ => ?_)
  have hP9 := hP
  have hD9 := hD
  have hK9 := hK.sub (tys' := []) [] rfl
  exact W.iret (v := cv_) hx hb hr (fun t ht hW => ⟨⟨cv_, _, rfl, ⟨rfl, by rw [ecv_, epp_, esx_]; rfl⟩, by rw [ht]; exact hP9, va_K.moved hW.alike hK9, hD9⟩, hS.F ht⟩) hS.2.2 dX11_cellAt_77

