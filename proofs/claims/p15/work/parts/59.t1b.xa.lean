set_option maxHeartbeats 400000 in
set_option maxRecDepth 100000 in
theorem x_readCell (l : Launch) (dC : Nat → ClassId) (dI : Nat → Nat → Nat) (sz : Nat) (ta tb : Nat) (cB : ClassId) (ft : Nat → Int32) (L : Nat) (kx : Nat) (hL : L ≤ 9000) (hk : kx + 3 < L) : Met l yX4_readCell (wsG (.code yX4_readCell cX4_readCell 6 (some .int))) ({ frames := 2, cells := 0, slots := 0, locals := 42 }) (va_Pc [.ref ta, .int (nI kx)] (gP (dC, dI) [(cB, .byte)] [(ta, .inr (7, [.ref tb, .int (nI L)])), (tb, .inl (cB, 9000, .inl ft))] sz)) (va_Qi (fun (r : Int32) (u : va_W × gT) => u = ([(ta, .inr (7, [.ref tb, .int (nI L)])), (tb, .inl (cB, 9000, .inl ft))], []) ∧ r = clF ft kx) (gB (dC, dI) (va_A [(ta, .inr (7, [.ref tb, .int (nI L)])), (tb, .inl (cB, 9000, .inl ft))] sz)) (va_A [(ta, .inr (7, [.ref tb, .int (nI L)])), (tb, .inl (cB, 9000, .inl ft))] sz)) 0 0 (va_A [(ta, .inr (7, [.ref tb, .int (nI L)])), (tb, .inl (cB, 9000, .inl ft))] sz) := by
  refine Met.ofW (cc := cX4_readCell) (maxL := 6) (ret := (some .int)) (by decide) rfl ?_
  intro p e s m args below meth c s₁ B hml hv
  obtain ⟨rfl, hsz, hP, hK, hD0, hN, hZ⟩ := hv
  have hx := B.exec
  have hb := B.bytes
  have hr := B.returns
  have hts := atoms_spec (ws := (wsG (.code yX4_readCell cX4_readCell 6 (some .int)))) B.pre
  have hown : s.vm.findClass RX4 = some m.cls := findClass_of_methodNamed B.named
  have hlocks := B.notSynchronized
  subst hsz
  have hD := hD0.self (sz := s.heap.size)
  generalize hAe : va_A [(ta, .inr (7, [.ref tb, .int (nI L)])), (tb, .inl (cB, 9000, .inl ft))] s.heap.size = A at hD hZ ⊢
  have hA : ∀ q : Nat, s.heap.size ≤ q → A q := fun q h => by rw [← hAe]; exact Or.inr h
  have hl := lv_entry ([.ref ta, .int (nI kx)]) (n := 6) (Nat.le_of_ble_eq_true rfl)
  rw [lg_entry_eq]
  generalize (lg_sl ([.ref ta, .int (nI kx)]) ++ List.replicate (6 - (lg_sl ([.ref ta, .int (nI kx)])).length) Slot.unset).toArray = ls at hl ⊢
  have hl : lv_has ls 6 [(0, .ref ta), (1, .int (nI kx))] := hl
  refine g_start (A := A) hP (fun H locs hP hS => ?_)
  refine lv_aload_n hx hb dX4_readCell_0 rfl (lv_at hl 0 rfl) ?_
  refine lv_iload_n hx hb dX4_readCell_1 rfl (lv_at hl 1 rfl) ?_
  refine g_calli (wr := []) (va_runV (As := [.int (nI kx)]) (rest := []) ⟨hx, hb, hml, hown, hts⟩ (x_at l dC dI H.size ta tb cB ft L kx (hL) (by omega)) (cwV 1 hts (gG_V kw_295 kw_296 kw_297 kw_18 kw_298) rfl rfl rfl (by decide +kernel) ⟨Nat.le_of_ble_eq_true rfl, Nat.le_of_ble_eq_true rfl⟩) (g_preV (C := RX7) (T := TX7) (N := 2) hP hD hK hS hA hN hZ (q0 := 0) rfl rfl [0, 1] (by decide +kernel) rfl [0] rfl) rfl rfl hl.1 rfl (lv_room (Nat.le_of_ble_eq_true rfl)) dX4_readCell_2 ⟨Nat.le_of_ble_eq_true rfl, Nat.le_of_ble_eq_true rfl⟩) hP hD hK hS hA [0, 1] [] rfl rfl (by decide +kernel) (by decide +kernel) (fun r_2 w ty1 H locs hw_2 hP hD _ hS => ?_)
  rcases hw_2 with ⟨hu, hr_2⟩
  cases hu
  have hP : va_P (dC, dI) vwCl [(ta, .inr (7, [.ref tb, .int (nI L)])), (tb, .inl (cB, 9000, .inl ft))] H := hP
  have hD : va_D A [(ta, .inr (7, [.ref tb, .int (nI L)])), (tb, .inl (cB, 9000, .inl ft))] := hD
  refine g_topi (y := nI (by8 ft kx)) hr_2 ?_
  refine lv_istore_n (lv' := [(2, .int (nI (by8 ft kx))), (0, .ref ta), (1, .int (nI kx))]) hx hb dX4_readCell_5 rfl hl (by decide) rfl (fun ls hl => ?_)
  refine lv_aload_n hx hb dX4_readCell_6 rfl (lv_at hl 1 rfl) ?_
  refine lv_iload_n hx hb dX4_readCell_7 rfl (lv_at hl 2 rfl) ?_
  refine lv_iconst (v := 2) hx hb dX4_readCell_8 (by decide) ?_
  refine lv_iadd hx hb dX4_readCell_9 ?_
  refine g_topi (y := nI (kx + 2)) (nI_add _ 2) ?_
  refine g_calli (wr := []) (va_runV (As := [.int (nI (kx + 2))]) (rest := []) ⟨hx, hb, hml, hown, hts⟩ (x_at l dC dI H.size ta tb cB ft L (kx + 2) (hL) (by omega)) (cwV 1 hts (gG_V kw_295 kw_296 kw_297 kw_18 kw_298) rfl rfl rfl (by decide +kernel) ⟨Nat.le_of_ble_eq_true rfl, Nat.le_of_ble_eq_true rfl⟩) (g_preV (C := RX7) (T := TX7) (N := 2) hP hD hK hS hA hN hZ (q0 := 0) rfl rfl [0, 1] (by decide +kernel) rfl [0] rfl) rfl rfl hl.1 rfl (lv_room (Nat.le_of_ble_eq_true rfl)) dX4_readCell_10 ⟨Nat.le_of_ble_eq_true rfl, Nat.le_of_ble_eq_true rfl⟩) hP hD hK hS hA [0, 1] [] rfl rfl (by decide +kernel) (by decide +kernel) (fun r_10 w ty1 H locs hw_10 hP hD _ hS => ?_)
  rcases hw_10 with ⟨hu, hr_10⟩
  cases hu
  have hP : va_P (dC, dI) vwCl [(ta, .inr (7, [.ref tb, .int (nI L)])), (tb, .inl (cB, 9000, .inl ft))] H := hP
  have hD : va_D A [(ta, .inr (7, [.ref tb, .int (nI L)])), (tb, .inl (cB, 9000, .inl ft))] := hD
  refine g_topi (y := nI (by8 ft (kx + 2))) hr_10 ?_
  refine lv_istore_n (lv' := [(3, .int (nI (by8 ft (kx + 2)))), (2, .int (nI (by8 ft kx))), (0, .ref ta), (1, .int (nI kx))]) hx hb dX4_readCell_13 rfl hl (by decide) rfl (fun ls hl => ?_)
  refine lv_iload_n hx hb dX4_readCell_14 rfl (lv_at hl 1 rfl) ?_
  refine lv_bipush (v := 15) hx hb dX4_readCell_15 (by decide) ?_
  refine lv_iand hx hb dX4_readCell_17 ?_
  refine lv_bipush (v := 8) hx hb dX4_readCell_18 (by decide) ?_
  refine lv_ishl hx hb dX4_readCell_20 ?_
  refine lv_aload_n hx hb dX4_readCell_21 rfl (lv_at hl 2 rfl) ?_
  refine lv_iload_n hx hb dX4_readCell_22 rfl (lv_at hl 3 rfl) ?_
  refine lv_iconst (v := 1) hx hb dX4_readCell_23 (by decide) ?_
  refine lv_iadd hx hb dX4_readCell_24 ?_
  refine g_topi (y := nI (kx + 1)) (nI_1 _) ?_
  refine g_calli (wr := []) (va_runV (As := [.int (nI (kx + 1))]) (rest := [.int (((nI (by8 ft kx)) &&& 15) <<< (8 &&& 31))]) ⟨hx, hb, hml, hown, hts⟩ (x_at l dC dI H.size ta tb cB ft L (kx + 1) (hL) (by omega)) (cwV 1 hts (gG_V kw_295 kw_296 kw_297 kw_18 kw_298) rfl rfl rfl (by decide +kernel) ⟨Nat.le_of_ble_eq_true rfl, Nat.le_of_ble_eq_true rfl⟩) (g_preV (C := RX7) (T := TX7) (N := 2) hP hD hK hS hA hN hZ (q0 := 0) rfl rfl [0, 1] (by decide +kernel) rfl [0] rfl) rfl rfl hl.1 rfl (lv_room (Nat.le_of_ble_eq_true rfl)) dX4_readCell_25 ⟨Nat.le_of_ble_eq_true rfl, Nat.le_of_ble_eq_true rfl⟩) hP hD hK hS hA [0, 1] [] rfl rfl (by decide +kernel) (by decide +kernel) (fun r_25 w ty1 H locs hw_25 hP hD _ hS => ?_)
  rcases hw_25 with ⟨hu, hr_25⟩
  cases hu
  have hP : va_P (dC, dI) vwCl [(ta, .inr (7, [.ref tb, .int (nI L)])), (tb, .inl (cB, 9000, .inl ft))] H := hP
  have hD : va_D A [(ta, .inr (7, [.ref tb, .int (nI L)])), (tb, .inl (cB, 9000, .inl ft))] := hD
  refine g_topi (y := nI (by8 ft (kx + 1))) hr_25 ?_
  refine lv_ior hx hb dX4_readCell_28 ?_
  refine lv_topi (fun pd_ epd_ => ?_)
  refine lv_istore (lv' := [(4, .int pd_), (3, .int (nI (by8 ft (kx + 2)))), (2, .int (nI (by8 ft kx))), (0, .ref ta), (1, .int (nI kx))]) hx hb dX4_readCell_29 hl (by decide) rfl (fun ls hl => ?_)
  refine lv_iload_n hx hb dX4_readCell_31 rfl (lv_at hl 2 rfl) ?_
  refine lv_sipush (v := 240) hx hb dX4_readCell_32 (by decide) ?_
  refine lv_iand hx hb dX4_readCell_35 ?_
  refine lv_iload_n hx hb dX4_readCell_36 rfl (lv_at hl 1 rfl) ?_
  refine lv_iconst (v := 4) hx hb dX4_readCell_37 (by decide) ?_
  refine lv_ishr hx hb dX4_readCell_38 ?_
  refine lv_ior hx hb dX4_readCell_39 ?_
  refine lv_bipush (v := 31) hx hb dX4_readCell_40 (by decide) ?_
  refine lv_iand hx hb dX4_readCell_42 ?_
  refine lv_topi (fun sx_ esx_ => ?_)
  refine lv_istore (lv' := [(5, .int sx_), (4, .int pd_), (3, .int (nI (by8 ft (kx + 2)))), (2, .int (nI (by8 ft kx))), (0, .ref ta), (1, .int (nI kx))]) hx hb dX4_readCell_43 hl (by decide) rfl (fun ls hl => ?_)
  refine lv_iload hx hb dX4_readCell_45 (lv_at hl 1 rfl) ?_
  refine lv_bipush (v := 17) hx hb dX4_readCell_47 (by decide) ?_
  refine lv_ishl hx hb dX4_readCell_49 ?_
  refine lv_iload hx hb dX4_readCell_50 (lv_at hl 0 rfl) ?_
  refine lv_bipush (v := 12) hx hb dX4_readCell_52 (by decide) ?_
  refine lv_ishl hx hb dX4_readCell_54 ?_
  refine lv_ior hx hb dX4_readCell_55 ?_
  refine lv_iload_n hx hb dX4_readCell_56 rfl (lv_at hl 2 rfl) ?_
  refine lv_bipush (v := 15) hx hb dX4_readCell_57 (by decide) ?_
  refine lv_iand hx hb dX4_readCell_59 ?_
  refine lv_bipush (v := 8) hx hb dX4_readCell_60 (by decide) ?_
  refine lv_ishl hx hb dX4_readCell_62 ?_
  refine lv_ior hx hb dX4_readCell_63 ?_
  refine lv_aload_n hx hb dX4_readCell_64 rfl (lv_at hl 4 rfl) ?_
  refine lv_iload_n hx hb dX4_readCell_65 rfl (lv_at hl 5 rfl) ?_
  refine lv_iconst (v := 3) hx hb dX4_readCell_66 (by decide) ?_
  refine lv_iadd hx hb dX4_readCell_67 ?_
  refine g_topi (y := nI (kx + 3)) (nI_add _ 3) ?_
  refine g_calli (wr := []) (va_runV (As := [.int (nI (kx + 3))]) (rest := [.int (((pd_ <<< (17 &&& 31)) ||| (sx_ <<< (12 &&& 31))) ||| (((nI (by8 ft (kx + 2))) &&& 15) <<< (8 &&& 31)))]) ⟨hx, hb, hml, hown, hts⟩ (x_at l dC dI H.size ta tb cB ft L (kx + 3) (hL) (by omega)) (cwV 1 hts (gG_V kw_295 kw_296 kw_297 kw_18 kw_298) rfl rfl rfl (by decide +kernel) ⟨Nat.le_of_ble_eq_true rfl, Nat.le_of_ble_eq_true rfl⟩) (g_preV (C := RX7) (T := TX7) (N := 2) hP hD hK hS hA hN hZ (q0 := 0) rfl rfl [0, 1] (by decide +kernel) rfl [0] rfl) rfl rfl hl.1 rfl (lv_room (Nat.le_of_ble_eq_true rfl)) dX4_readCell_68 ⟨Nat.le_of_ble_eq_true rfl, Nat.le_of_ble_eq_true rfl⟩) hP hD hK hS hA [0, 1] [] rfl rfl (by decide +kernel) (by decide +kernel) (fun r_68 w ty1 H locs hw_68 hP hD _ hS => ?_)
  rcases hw_68 with ⟨hu, hr_68⟩
  cases hu
  have hP : va_P (dC, dI) vwCl [(ta, .inr (7, [.ref tb, .int (nI L)])), (tb, .inl (cB, 9000, .inl ft))] H := hP
  have hD : va_D A [(ta, .inr (7, [.ref tb, .int (nI L)])), (tb, .inl (cB, 9000, .inl ft))] := hD
  refine g_topi (y := nI (by8 ft (kx + 3))) hr_68 ?_
  refine lv_ior hx hb dX4_readCell_71 ?_
  refine lv_topi (fun cv_ ecv_ => ?_)
  have hP9 := hP
  have hD9 := hD
  have hK9 := hK.sub (tys' := []) [] rfl
  exact W.iret (v := cv_) hx hb hr (fun t ht hW => ⟨⟨cv_, _, rfl, ⟨rfl, by rw [ecv_, epd_, esx_]; exact rc_e ft kx⟩, by rw [ht]; exact hP9, va_K.moved hW.alike hK9, hD9⟩, hS.F ht⟩) hS.2.2 dX4_readCell_72

set_option maxHeartbeats 400000 in
set_option maxRecDepth 100000 in
theorem x_cellAt (l : Launch) (dC : Nat → ClassId) (dI : Nat → Nat → Nat) (sz : Nat) (a b d : Nat) : Met l yX4_cellAt (wsG (.code yX4_cellAt cX4_cellAt 3 (some .int))) ({ frames := 1, cells := 0, slots := 0, locals := 20 }) (va_Pc [.int (nI a), .int (nI b), .int (nI d)] (gP (dC, dI) [] [] sz)) (va_Qi (fun (r : Int32) (u : va_W × gT) => u = ([], []) ∧ r = nI (1084 + 4 * (256 * a + 4 * b + d))) (gB (dC, dI) (va_A [] sz)) (va_A [] sz)) 0 0 (va_A [] sz) := by
  refine Met.ofW (cc := cX4_cellAt) (maxL := 3) (ret := (some .int)) (by decide) rfl ?_
  intro p e s m args below meth c s₁ B hml hv
  obtain ⟨rfl, hsz, hP, hK, hD0, hN, hZ⟩ := hv
  have hx := B.exec
  have hb := B.bytes
  have hr := B.returns
  have hts := atoms_spec (ws := (wsG (.code yX4_cellAt cX4_cellAt 3 (some .int)))) B.pre
  have hown : s.vm.findClass RX4 = some m.cls := findClass_of_methodNamed B.named
  have hlocks := B.notSynchronized
  subst hsz
  have hD := hD0.self (sz := s.heap.size)
  generalize hAe : va_A [] s.heap.size = A at hD hZ ⊢
  have hA : ∀ q : Nat, s.heap.size ≤ q → A q := fun q h => by rw [← hAe]; exact Or.inr h
  have hl := lv_entry ([.int (nI a), .int (nI b), .int (nI d)]) (n := 3) (Nat.le_of_ble_eq_true rfl)
  rw [lg_entry_eq]
  generalize (lg_sl ([.int (nI a), .int (nI b), .int (nI d)]) ++ List.replicate (3 - (lg_sl ([.int (nI a), .int (nI b), .int (nI d)])).length) Slot.unset).toArray = ls at hl ⊢
  have hl : lv_has ls 3 [(0, .int (nI a)), (1, .int (nI b)), (2, .int (nI d))] := hl
  refine g_start (A := A) hP (fun H locs hP hS => ?_)
  refine lv_iload_n hx hb dX4_cellAt_0 rfl (lv_at hl 0 rfl) ?_
  refine g_calli (wr := []) (va_runS (As := [.int (nI a)]) (rest := []) ⟨hx, hb, hml, hown, hts⟩ (x_patEnd l dC dI H.size a ) (va_cwS 1 hts (gG_S kw_330 kw_331 kw_30 kw_332) rfl rfl rfl (by decide +kernel) ⟨Nat.le_of_ble_eq_true rfl, Nat.le_of_ble_eq_true rfl⟩) (g_preS hP hD hK hS hA hN hZ [] (by decide) rfl [] rfl) rfl rfl hl.1 rfl (lv_room (Nat.le_of_ble_eq_true rfl)) dX4_cellAt_1 ⟨Nat.le_of_ble_eq_true rfl, Nat.le_of_ble_eq_true rfl⟩) hP hD hK hS hA [] [] rfl rfl (by decide +kernel) (by decide +kernel) (fun r_1 w ty1 H locs hw_1 hP hD _ hS => ?_)
  rcases hw_1 with ⟨hu, hr_1⟩
  cases hu
  have hP : va_P (dC, dI) vwCl [] H := hP
  have hD : va_D A [] := hD
  refine g_topi (y := nI (1084 + 1024 * a)) hr_1 ?_
  refine lv_iload_n hx hb dX4_cellAt_4 rfl (lv_at hl 1 rfl) ?_
  refine lv_iconst (v := 4) hx hb dX4_cellAt_5 (by decide) ?_
  refine lv_imul hx hb dX4_cellAt_6 ?_
  refine g_topi (y := nI (b * 4)) (pk_mul b 4) ?_
  refine lv_iload_n hx hb dX4_cellAt_7 rfl (lv_at hl 2 rfl) ?_
  refine lv_iadd hx hb dX4_cellAt_8 ?_
  refine g_topi (y := nI (b * 4 + d)) (nI_add _ _) ?_
  refine lv_iconst (v := 4) hx hb dX4_cellAt_9 (by decide) ?_
  refine lv_imul hx hb dX4_cellAt_10 ?_
  refine g_topi (y := nI ((b * 4 + d) * 4)) (pk_mul _ 4) ?_
  refine lv_iadd hx hb dX4_cellAt_11 ?_
  refine g_topi (y := nI (1084 + 4 * (256 * a + 4 * b + d))) ((nI_add _ _).trans (up_e (by omega))) ?_
  have hP9 := hP
  have hD9 := hD
  have hK9 := hK.sub (tys' := []) [] rfl
  exact W.iret (v := nI (1084 + 4 * (256 * a + 4 * b + d))) hx hb hr (fun t ht hW => ⟨⟨nI (1084 + 4 * (256 * a + 4 * b + d)), _, rfl, ⟨rfl, rfl⟩, by rw [ht]; exact hP9, va_K.moved hW.alike hK9, hD9⟩, hS.F ht⟩) hS.2.2 dX4_cellAt_12

set_option maxHeartbeats 400000 in
set_option maxRecDepth 100000 in
theorem x_readPattern (l : Launch) (dC : Nat → ClassId) (dI : Nat → Nat → Nat) (sz : Nat) (ta tb : Nat) (cB : ClassId) (ft : Nat → Int32) (L : Nat) (aS ce pl : Nat) (sln srs : Int32) (fc : Nat → Int32) (cI : ClassId) (a : Nat) (hL : L ≤ 9000) (ha : a < 8) (haL : 1084 + 1024 * (a + 1) ≤ L) (hfil : filR 2048 (256 * a) (fun jj => clF ft (1084 + 4 * jj)) fc) : Met l yX4_readPattern (wsG (.code yX4_readPattern cX4_readPattern 6 none)) ({ frames := 3, cells := 0, slots := 0, locals := 67 }) (va_Pc [.ref ta, .ref aS, .int (nI a)] (gP (dC, dI) [(cB, .byte), (cI, .int)] [(ta, .inr (7, [.ref tb, .int (nI L)])), (tb, .inl (cB, 9000, .inl ft)), (aS, .inr (6, [.ref ce, .ref pl, .int sln, .int srs])), (ce, .inl (cI, 2048, .inl fc))] sz)) (va_Qv (fun u : va_W × gT => ∃ (fc2 : Nat → Int32), u = ([(ta, .inr (7, [.ref tb, .int (nI L)])), (tb, .inl (cB, 9000, .inl ft)), (aS, .inr (6, [.ref ce, .ref pl, .int sln, .int srs])), (ce, .inl (cI, 2048, .inl fc2))], []) ∧ filR 2048 (256 * (a + 1)) (fun jj => clF ft (1084 + 4 * jj)) fc2) (gB (dC, dI) (va_A [(ta, .inr (7, [.ref tb, .int (nI L)])), (tb, .inl (cB, 9000, .inl ft)), (aS, .inr (6, [.ref ce, .ref pl, .int sln, .int srs])), (ce, .inl (cI, 2048, .inl fc))] sz)) (va_A [(ta, .inr (7, [.ref tb, .int (nI L)])), (tb, .inl (cB, 9000, .inl ft)), (aS, .inr (6, [.ref ce, .ref pl, .int sln, .int srs])), (ce, .inl (cI, 2048, .inl fc))] sz)) 0 0 (va_A [(ta, .inr (7, [.ref tb, .int (nI L)])), (tb, .inl (cB, 9000, .inl ft)), (aS, .inr (6, [.ref ce, .ref pl, .int sln, .int srs])), (ce, .inl (cI, 2048, .inl fc))] sz) := by
  refine Met.ofW (cc := cX4_readPattern) (maxL := 6) (ret := none) (by decide) rfl ?_
  intro p e s m args below meth c s₁ B hml hv
  obtain ⟨rfl, hsz, hP, hK, hD0, hN, hZ⟩ := hv
  have hx := B.exec
  have hb := B.bytes
  have hr := B.returns
  have hts := atoms_spec (ws := (wsG (.code yX4_readPattern cX4_readPattern 6 none))) B.pre
  have hown : s.vm.findClass RX4 = some m.cls := findClass_of_methodNamed B.named
  have hlocks := B.notSynchronized
  subst hsz
  have hD := hD0.self (sz := s.heap.size)
  generalize hAe : va_A [(ta, .inr (7, [.ref tb, .int (nI L)])), (tb, .inl (cB, 9000, .inl ft)), (aS, .inr (6, [.ref ce, .ref pl, .int sln, .int srs])), (ce, .inl (cI, 2048, .inl fc))] s.heap.size = A at hD hZ ⊢
  have hA : ∀ q : Nat, s.heap.size ≤ q → A q := fun q h => by rw [← hAe]; exact Or.inr h
  have hl := lv_entry ([.ref ta, .ref aS, .int (nI a)]) (n := 6) (Nat.le_of_ble_eq_true rfl)
  rw [lg_entry_eq]
  generalize (lg_sl ([.ref ta, .ref aS, .int (nI a)]) ++ List.replicate (6 - (lg_sl ([.ref ta, .ref aS, .int (nI a)])).length) Slot.unset).toArray = ls at hl ⊢
  have hl : lv_has ls 6 [(0, .ref ta), (1, .ref aS), (2, .int (nI a))] := hl
  refine g_start (A := A) hP (fun H locs hP hS => ?_)
  refine lv_iconst (v := 0) hx hb dX4_readPattern_0 (by decide) ?_
  refine lv_istore_n (lv' := [(3, .int 0), (0, .ref ta), (1, .ref aS), (2, .int (nI a))]) hx hb dX4_readPattern_1 rfl hl (by decide) rfl (fun ls hl => ?_)
  have LP2 : ∀ (fu2 : Nat) (q2 : Nat) (fc1 : Nat → Int32) (hq2 : q2 ≤ 64) (hfil : filR 2048 (256 * a + 4 * q2) (fun jj => clF ft (1084 + 4 * jj)) fc1) (hm2 : 64 - q2 < fu2) (H : Heap) (locs : List Loc), va_P (dC, dI) vwCl [(ta, .inr (7, [.ref tb, .int (nI L)])), (tb, .inl (cB, 9000, .inl ft)), (aS, .inr (6, [.ref ce, .ref pl, .int sln, .int srs])), (ce, .inl (cI, 2048, .inl fc1))] H → va_D A [(ta, .inr (7, [.ref tb, .int (nI L)])), (tb, .inl (cB, 9000, .inl ft)), (aS, .inr (6, [.ref ce, .ref pl, .int sln, .int srs])), (ce, .inl (cI, 2048, .inl fc1))] → va_S A s.heap H locs → ∀ ls : Array Slot, lv_has ls 6 [(3, .int (nI q2)), (0, .ref ta), (1, .ref aS), (2, .int (nI a))] → W p l e ({ frames := 3, cells := 0, slots := 0, locals := 67 }) s m ([.ref ta, .ref aS, .int (nI a)] : List Value).toArray below meth c H locs (0) (0) (MQ below (va_Qv (fun u : va_W × gT => ∃ (fc2 : Nat → Int32), u = ([(ta, .inr (7, [.ref tb, .int (nI L)])), (tb, .inl (cB, 9000, .inl ft)), (aS, .inr (6, [.ref ce, .ref pl, .int sln, .int srs])), (ce, .inl (cI, 2048, .inl fc2))], []) ∧ filR 2048 (256 * (a + 1)) (fun jj => clF ft (1084 + 4 * jj)) fc2) (gB (dC, dI) A) A) ([.ref ta, .ref aS, .int (nI a)] : List Value).toArray s 0 0 A) (F0 m 2 ls []) := by
    intro fu2
    induction fu2 with
    | zero => intro q2 fc1 hq2 hfil hm2; exact absurd hm2 (Nat.not_lt_zero _)
    | succ fu2 ih2 =>
      intro q2 fc1 hq2 hfil hm2 H locs hP hD hS ls hl
      refine lv_iload_n hx hb dX4_readPattern_2 rfl (lv_at hl 0 rfl) ?_
      refine lv_bipush (v := 64) hx hb dX4_readPattern_3 (by decide) ?_
      refine lv_icmp_ge (tgt := 52) hx hb dX4_readPattern_5 (by decide) (fun c_5 => ?_) (fun c_5 => ?_)
      · have hP9 := hP
        have hD9 := hD
        have hK9 := hK.sub (tys' := []) [] rfl
        exact W.vret hx hb hr (fun t ht hW => ⟨⟨_, rfl, ⟨fc1, rfl, (fil_j hfil (show 256 * a + 4 * q2 = 256 * (a + 1) by have := nI_le' (a := 64) c_5 (by decide) (by omega); omega))⟩, by rw [ht]; exact hP9, va_K.moved hW.alike hK9, hD9⟩, hS.F ht⟩) hS.2.2 dX4_readPattern_52
      have hq3 : q2 < 64 := by have := nI_nle' (a := 64) c_5 (by omega); omega
      refine lv_iconst (v := 0) hx hb dX4_readPattern_8 (by decide) ?_
      refine lv_istore (lv' := [(4, .int 0), (3, .int (nI q2)), (0, .ref ta), (1, .ref aS), (2, .int (nI a))]) hx hb dX4_readPattern_9 hl (by decide) rfl (fun ls hl => ?_)
      refine lv_iload hx hb dX4_readPattern_11 (lv_at hl 0 rfl) ?_
      refine lv_iconst (v := 4) hx hb dX4_readPattern_13 (by decide) ?_
      refine lv_icmp_ge (tgt := 46) hx hb dX4_readPattern_14 (by decide) (fun c_14 => absurd c_14 (by decide)) (fun c_14 => ?_)
      refine lv_iload_n hx hb dX4_readPattern_17 rfl (lv_at hl 4 rfl) ?_
      refine lv_iload_n hx hb dX4_readPattern_18 rfl (lv_at hl 1 rfl) ?_
      refine lv_iload hx hb dX4_readPattern_19 (lv_at hl 0 rfl) ?_
      refine g_calli (wr := [(ta, .inr (7, [.ref tb, .int (nI L)])), (tb, .inl (cB, 9000, .inl ft)), (aS, .inr (6, [.ref ce, .ref pl, .int sln, .int srs])), (ce, .inl (cI, 2048, .inl fc1))]) (va_runS (As := [.int (nI a), .int (nI q2), .int 0]) (rest := []) ⟨hx, hb, hml, hown, hts⟩ (x_cellAt l dC dI H.size a q2 0 ) (va_cwS 3 hts (gG_S kw_354 kw_355 kw_30 kw_356) rfl rfl rfl (by decide +kernel) ⟨Nat.le_of_ble_eq_true rfl, Nat.le_of_ble_eq_true rfl⟩) (g_preS hP hD hK hS hA hN hZ [] (by decide) rfl [] rfl) rfl rfl hl.1 rfl (lv_room (Nat.le_of_ble_eq_true rfl)) dX4_readPattern_21 ⟨Nat.le_of_ble_eq_true rfl, Nat.le_of_ble_eq_true rfl⟩) hP hD hK hS hA [] [0, 1, 2, 3] rfl rfl (by decide +kernel) (by decide +kernel) (fun r_21 w ty1 H locs hw_21 hP hD _ hS => ?_)
      rcases hw_21 with ⟨hu, hr_21⟩
      cases hu
      have hP : va_P (dC, dI) vwCl [(ta, .inr (7, [.ref tb, .int (nI L)])), (tb, .inl (cB, 9000, .inl ft)), (aS, .inr (6, [.ref ce, .ref pl, .int sln, .int srs])), (ce, .inl (cI, 2048, .inl fc1))] H := hP
      have hD : va_D A [(ta, .inr (7, [.ref tb, .int (nI L)])), (tb, .inl (cB, 9000, .inl ft)), (aS, .inr (6, [.ref ce, .ref pl, .int sln, .int srs])), (ce, .inl (cI, 2048, .inl fc1))] := hD
      refine g_topi (y := nI (1084 + 4 * (256 * a + 4 * q2 + 0))) hr_21 ?_
      refine lv_istore (lv' := [(5, .int (nI (1084 + 4 * (256 * a + 4 * q2 + 0)))), (4, .int 0), (3, .int (nI q2)), (0, .ref ta), (1, .ref aS), (2, .int (nI a))]) hx hb dX4_readPattern_24 hl (by decide) rfl (fun ls hl => ?_)
      refine lv_aload_n hx hb dX4_readPattern_26 rfl (lv_at hl 4 rfl) ?_
      refine lv_iload_n hx hb dX4_readPattern_27 rfl (lv_at hl 5 rfl) ?_
      refine lv_iload_n hx hb dX4_readPattern_28 rfl (lv_at hl 2 rfl) ?_
      refine lv_iload hx hb dX4_readPattern_29 (lv_at hl 1 rfl) ?_
      refine lv_aload_n hx hb dX4_readPattern_31 rfl (lv_at hl 3 rfl) ?_
      refine lv_iload hx hb dX4_readPattern_32 (lv_at hl 0 rfl) ?_
      refine g_calli (wr := [(aS, .inr (6, [.ref ce, .ref pl, .int sln, .int srs])), (ce, .inl (cI, 2048, .inl fc1))]) (va_runS (As := [.ref ta, .int (nI (1084 + 4 * (256 * a + 4 * q2 + 0)))]) (rest := [.int 0, .int (nI q2), .int (nI a), .ref aS]) ⟨hx, hb, hml, hown, hts⟩ (x_readCell l dC dI H.size ta tb cB ft L (1084 + 4 * (256 * a + 4 * q2 + 0)) (hL) (by omega)) (va_cwS 2 hts (gG_S kw_357 kw_358 kw_30 kw_359) rfl rfl rfl (by decide +kernel) ⟨Nat.le_of_ble_eq_true rfl, Nat.le_of_ble_eq_true rfl⟩) (g_preS hP hD hK hS hA hN hZ [0, 1] (by decide +kernel) rfl [0] rfl) rfl rfl hl.1 rfl (lv_room (Nat.le_of_ble_eq_true rfl)) dX4_readPattern_34 ⟨Nat.le_of_ble_eq_true rfl, Nat.le_of_ble_eq_true rfl⟩) hP hD hK hS hA [0, 1] [2, 3] rfl rfl (by decide +kernel) (by decide +kernel) (fun r_34 w ty1 H locs hw_34 hP hD _ hS => ?_)
      rcases hw_34 with ⟨hu, hr_34⟩
      cases hu
      have hP : va_P (dC, dI) vwCl [(aS, .inr (6, [.ref ce, .ref pl, .int sln, .int srs])), (ce, .inl (cI, 2048, .inl fc1)), (ta, .inr (7, [.ref tb, .int (nI L)])), (tb, .inl (cB, 9000, .inl ft))] H := hP
      have hD : va_D A [(aS, .inr (6, [.ref ce, .ref pl, .int sln, .int srs])), (ce, .inl (cI, 2048, .inl fc1)), (ta, .inr (7, [.ref tb, .int (nI L)])), (tb, .inl (cB, 9000, .inl ft))] := hD
      refine g_topi (y := clF ft (1084 + 4 * (256 * a + 4 * q2 + 0))) hr_34 ?_
      refine g_callv (wr := [(ta, .inr (7, [.ref tb, .int (nI L)])), (tb, .inl (cB, 9000, .inl ft))]) (va_runV (As := [.int (nI a), .int (nI q2), .int 0, .int (clF ft (1084 + 4 * (256 * a + 4 * q2 + 0)))]) (rest := []) ⟨hx, hb, hml, hown, hts⟩ (c_putCell l dC dI H.size aS ce pl sln srs cI fc1 a q2 0 (clF ft (1084 + 4 * (256 * a + 4 * q2 + 0))) (ha) (hq3) (by decide)) (cwV 4 hts (gG_V kw_360 kw_361 kw_362 kw_26 kw_363) rfl rfl rfl (by decide +kernel) ⟨Nat.le_of_ble_eq_true rfl, Nat.le_of_ble_eq_true rfl⟩) (g_preV (C := RX6) (T := TX6) (N := 4) hP hD hK hS hA hN hZ (q0 := 0) rfl rfl [0, 1] (by decide +kernel) rfl [1] rfl) rfl rfl hl.1 rfl (lv_room (Nat.le_of_ble_eq_true rfl)) dX4_readPattern_37 ⟨Nat.le_of_ble_eq_true rfl, Nat.le_of_ble_eq_true rfl⟩) hP hD hK hS hA [0, 1] [2, 3] rfl rfl (by decide +kernel) (by decide +kernel) (fun w ty1 H locs hw_37 hP hD _ hS => ?_)
      have hu := hw_37
      cases hu
      have hP : va_P (dC, dI) vwCl [(ta, .inr (7, [.ref tb, .int (nI L)])), (tb, .inl (cB, 9000, .inl ft)), (aS, .inr (6, [.ref ce, .ref pl, .int sln, .int srs])), (ce, .inl (cI, 2048, .inl (upd fc1 ((a * 64 + q2) * 4 + 0) (clF ft (1084 + 4 * (256 * a + 4 * q2 + 0))))))] H := hP
      have hD : va_D A [(ta, .inr (7, [.ref tb, .int (nI L)])), (tb, .inl (cB, 9000, .inl ft)), (aS, .inr (6, [.ref ce, .ref pl, .int sln, .int srs])), (ce, .inl (cI, 2048, .inl (upd fc1 ((a * 64 + q2) * 4 + 0) (clF ft (1084 + 4 * (256 * a + 4 * q2 + 0))))))] := hD
      have hf1 := fil_s (fil_j hfil (show 256 * a + 4 * q2 = (a * 64 + q2) * 4 + 0 by omega)) (show clF ft (1084 + 4 * (256 * a + 4 * q2 + 0)) = (fun jj => clF ft (1084 + 4 * jj)) ((a * 64 + q2) * 4 + 0) from by show _ = clF ft (1084 + 4 * ((a * 64 + q2) * 4 + 0)); rw [show 256 * a + 4 * q2 + 0 = (a * 64 + q2) * 4 + 0 by omega])
      refine lv_iinc (v := 1) (lv' := [(4, .int 1), (5, .int (nI (1084 + 4 * (256 * a + 4 * q2 + 0)))), (3, .int (nI q2)), (0, .ref ta), (1, .ref aS), (2, .int (nI a))]) hx hb dX4_readPattern_40 hl (k := 1) rfl (by decide) (by decide) rfl (fun ls hl => ?_)
      refine lv_goto (tgt := 11) hx hb dX4_readPattern_43 (by decide) ?_
      refine lv_iload hx hb dX4_readPattern_11 (lv_at hl 0 rfl) ?_
      refine lv_iconst (v := 4) hx hb dX4_readPattern_13 (by decide) ?_
      refine lv_icmp_ge (tgt := 46) hx hb dX4_readPattern_14 (by decide) (fun c_14_2 => absurd c_14_2 (by decide)) (fun c_14_2 => ?_)
      refine lv_iload_n hx hb dX4_readPattern_17 rfl (lv_at hl 5 rfl) ?_
      refine lv_iload_n hx hb dX4_readPattern_18 rfl (lv_at hl 2 rfl) ?_
      refine lv_iload hx hb dX4_readPattern_19 (lv_at hl 0 rfl) ?_
      refine g_calli (wr := [(ta, .inr (7, [.ref tb, .int (nI L)])), (tb, .inl (cB, 9000, .inl ft)), (aS, .inr (6, [.ref ce, .ref pl, .int sln, .int srs])), (ce, .inl (cI, 2048, .inl (upd fc1 ((a * 64 + q2) * 4 + 0) (clF ft (1084 + 4 * (256 * a + 4 * q2 + 0))))))]) (va_runS (As := [.int (nI a), .int (nI q2), .int 1]) (rest := []) ⟨hx, hb, hml, hown, hts⟩ (x_cellAt l dC dI H.size a q2 1 ) (va_cwS 3 hts (gG_S kw_354 kw_355 kw_30 kw_356) rfl rfl rfl (by decide +kernel) ⟨Nat.le_of_ble_eq_true rfl, Nat.le_of_ble_eq_true rfl⟩) (g_preS hP hD hK hS hA hN hZ [] (by decide) rfl [] rfl) rfl rfl hl.1 rfl (lv_room (Nat.le_of_ble_eq_true rfl)) dX4_readPattern_21 ⟨Nat.le_of_ble_eq_true rfl, Nat.le_of_ble_eq_true rfl⟩) hP hD hK hS hA [] [0, 1, 2, 3] rfl rfl (by decide +kernel) (by decide +kernel) (fun r_21_2 w ty1 H locs hw_21 hP hD _ hS => ?_)
      rcases hw_21 with ⟨hu, hr_21⟩
      cases hu
      have hP : va_P (dC, dI) vwCl [(ta, .inr (7, [.ref tb, .int (nI L)])), (tb, .inl (cB, 9000, .inl ft)), (aS, .inr (6, [.ref ce, .ref pl, .int sln, .int srs])), (ce, .inl (cI, 2048, .inl (upd fc1 ((a * 64 + q2) * 4 + 0) (clF ft (1084 + 4 * (256 * a + 4 * q2 + 0))))))] H := hP
      have hD : va_D A [(ta, .inr (7, [.ref tb, .int (nI L)])), (tb, .inl (cB, 9000, .inl ft)), (aS, .inr (6, [.ref ce, .ref pl, .int sln, .int srs])), (ce, .inl (cI, 2048, .inl (upd fc1 ((a * 64 + q2) * 4 + 0) (clF ft (1084 + 4 * (256 * a + 4 * q2 + 0))))))] := hD
      refine g_topi (y := nI (1084 + 4 * (256 * a + 4 * q2 + 1))) hr_21 ?_
      refine lv_istore (lv' := [(5, .int (nI (1084 + 4 * (256 * a + 4 * q2 + 1)))), (4, .int 1), (3, .int (nI q2)), (0, .ref ta), (1, .ref aS), (2, .int (nI a))]) hx hb dX4_readPattern_24 hl (by decide) rfl (fun ls hl => ?_)
      refine lv_aload_n hx hb dX4_readPattern_26 rfl (lv_at hl 4 rfl) ?_
      refine lv_iload_n hx hb dX4_readPattern_27 rfl (lv_at hl 5 rfl) ?_
      refine lv_iload_n hx hb dX4_readPattern_28 rfl (lv_at hl 2 rfl) ?_
      refine lv_iload hx hb dX4_readPattern_29 (lv_at hl 1 rfl) ?_
      refine lv_aload_n hx hb dX4_readPattern_31 rfl (lv_at hl 3 rfl) ?_
      refine lv_iload hx hb dX4_readPattern_32 (lv_at hl 0 rfl) ?_
      refine g_calli (wr := [(aS, .inr (6, [.ref ce, .ref pl, .int sln, .int srs])), (ce, .inl (cI, 2048, .inl (upd fc1 ((a * 64 + q2) * 4 + 0) (clF ft (1084 + 4 * (256 * a + 4 * q2 + 0))))))]) (va_runS (As := [.ref ta, .int (nI (1084 + 4 * (256 * a + 4 * q2 + 1)))]) (rest := [.int 1, .int (nI q2), .int (nI a), .ref aS]) ⟨hx, hb, hml, hown, hts⟩ (x_readCell l dC dI H.size ta tb cB ft L (1084 + 4 * (256 * a + 4 * q2 + 1)) (hL) (by omega)) (va_cwS 2 hts (gG_S kw_357 kw_358 kw_30 kw_359) rfl rfl rfl (by decide +kernel) ⟨Nat.le_of_ble_eq_true rfl, Nat.le_of_ble_eq_true rfl⟩) (g_preS hP hD hK hS hA hN hZ [0, 1] (by decide +kernel) rfl [0] rfl) rfl rfl hl.1 rfl (lv_room (Nat.le_of_ble_eq_true rfl)) dX4_readPattern_34 ⟨Nat.le_of_ble_eq_true rfl, Nat.le_of_ble_eq_true rfl⟩) hP hD hK hS hA [0, 1] [2, 3] rfl rfl (by decide +kernel) (by decide +kernel) (fun r_34_2 w ty1 H locs hw_34 hP hD _ hS => ?_)
      rcases hw_34 with ⟨hu, hr_34⟩
      cases hu
      have hP : va_P (dC, dI) vwCl [(aS, .inr (6, [.ref ce, .ref pl, .int sln, .int srs])), (ce, .inl (cI, 2048, .inl (upd fc1 ((a * 64 + q2) * 4 + 0) (clF ft (1084 + 4 * (256 * a + 4 * q2 + 0)))))), (ta, .inr (7, [.ref tb, .int (nI L)])), (tb, .inl (cB, 9000, .inl ft))] H := hP
      have hD : va_D A [(aS, .inr (6, [.ref ce, .ref pl, .int sln, .int srs])), (ce, .inl (cI, 2048, .inl (upd fc1 ((a * 64 + q2) * 4 + 0) (clF ft (1084 + 4 * (256 * a + 4 * q2 + 0)))))), (ta, .inr (7, [.ref tb, .int (nI L)])), (tb, .inl (cB, 9000, .inl ft))] := hD
      refine g_topi (y := clF ft (1084 + 4 * (256 * a + 4 * q2 + 1))) hr_34 ?_
      refine g_callv (wr := [(ta, .inr (7, [.ref tb, .int (nI L)])), (tb, .inl (cB, 9000, .inl ft))]) (va_runV (As := [.int (nI a), .int (nI q2), .int 1, .int (clF ft (1084 + 4 * (256 * a + 4 * q2 + 1)))]) (rest := []) ⟨hx, hb, hml, hown, hts⟩ (c_putCell l dC dI H.size aS ce pl sln srs cI (upd fc1 ((a * 64 + q2) * 4 + 0) (clF ft (1084 + 4 * (256 * a + 4 * q2 + 0)))) a q2 1 (clF ft (1084 + 4 * (256 * a + 4 * q2 + 1))) (ha) (hq3) (by decide)) (cwV 4 hts (gG_V kw_360 kw_361 kw_362 kw_26 kw_363) rfl rfl rfl (by decide +kernel) ⟨Nat.le_of_ble_eq_true rfl, Nat.le_of_ble_eq_true rfl⟩) (g_preV (C := RX6) (T := TX6) (N := 4) hP hD hK hS hA hN hZ (q0 := 0) rfl rfl [0, 1] (by decide +kernel) rfl [1] rfl) rfl rfl hl.1 rfl (lv_room (Nat.le_of_ble_eq_true rfl)) dX4_readPattern_37 ⟨Nat.le_of_ble_eq_true rfl, Nat.le_of_ble_eq_true rfl⟩) hP hD hK hS hA [0, 1] [2, 3] rfl rfl (by decide +kernel) (by decide +kernel) (fun w ty1 H locs hw_37 hP hD _ hS => ?_)
      have hu := hw_37
      cases hu
      have hP : va_P (dC, dI) vwCl [(ta, .inr (7, [.ref tb, .int (nI L)])), (tb, .inl (cB, 9000, .inl ft)), (aS, .inr (6, [.ref ce, .ref pl, .int sln, .int srs])), (ce, .inl (cI, 2048, .inl (upd (upd fc1 ((a * 64 + q2) * 4 + 0) (clF ft (1084 + 4 * (256 * a + 4 * q2 + 0)))) ((a * 64 + q2) * 4 + 1) (clF ft (1084 + 4 * (256 * a + 4 * q2 + 1))))))] H := hP
      have hD : va_D A [(ta, .inr (7, [.ref tb, .int (nI L)])), (tb, .inl (cB, 9000, .inl ft)), (aS, .inr (6, [.ref ce, .ref pl, .int sln, .int srs])), (ce, .inl (cI, 2048, .inl (upd (upd fc1 ((a * 64 + q2) * 4 + 0) (clF ft (1084 + 4 * (256 * a + 4 * q2 + 0)))) ((a * 64 + q2) * 4 + 1) (clF ft (1084 + 4 * (256 * a + 4 * q2 + 1))))))] := hD
      have hf2 := fil_s (fil_j hf1 (show (a * 64 + q2) * 4 + 0 + 1 = (a * 64 + q2) * 4 + 1 by omega)) (show clF ft (1084 + 4 * (256 * a + 4 * q2 + 1)) = (fun jj => clF ft (1084 + 4 * jj)) ((a * 64 + q2) * 4 + 1) from by show _ = clF ft (1084 + 4 * ((a * 64 + q2) * 4 + 1)); rw [show 256 * a + 4 * q2 + 1 = (a * 64 + q2) * 4 + 1 by omega])
      refine lv_iinc (v := 2) (lv' := [(4, .int 2), (5, .int (nI (1084 + 4 * (256 * a + 4 * q2 + 1)))), (3, .int (nI q2)), (0, .ref ta), (1, .ref aS), (2, .int (nI a))]) hx hb dX4_readPattern_40 hl (k := 1) rfl (by decide) (by decide) rfl (fun ls hl => ?_)
      refine lv_goto (tgt := 11) hx hb dX4_readPattern_43 (by decide) ?_
      refine lv_iload hx hb dX4_readPattern_11 (lv_at hl 0 rfl) ?_
      refine lv_iconst (v := 4) hx hb dX4_readPattern_13 (by decide) ?_
      refine lv_icmp_ge (tgt := 46) hx hb dX4_readPattern_14 (by decide) (fun c_14_3 => absurd c_14_3 (by decide)) (fun c_14_3 => ?_)
      refine lv_iload_n hx hb dX4_readPattern_17 rfl (lv_at hl 5 rfl) ?_
      refine lv_iload_n hx hb dX4_readPattern_18 rfl (lv_at hl 2 rfl) ?_
      refine lv_iload hx hb dX4_readPattern_19 (lv_at hl 0 rfl) ?_
      refine g_calli (wr := [(ta, .inr (7, [.ref tb, .int (nI L)])), (tb, .inl (cB, 9000, .inl ft)), (aS, .inr (6, [.ref ce, .ref pl, .int sln, .int srs])), (ce, .inl (cI, 2048, .inl (upd (upd fc1 ((a * 64 + q2) * 4 + 0) (clF ft (1084 + 4 * (256 * a + 4 * q2 + 0)))) ((a * 64 + q2) * 4 + 1) (clF ft (1084 + 4 * (256 * a + 4 * q2 + 1))))))]) (va_runS (As := [.int (nI a), .int (nI q2), .int 2]) (rest := []) ⟨hx, hb, hml, hown, hts⟩ (x_cellAt l dC dI H.size a q2 2 ) (va_cwS 3 hts (gG_S kw_354 kw_355 kw_30 kw_356) rfl rfl rfl (by decide +kernel) ⟨Nat.le_of_ble_eq_true rfl, Nat.le_of_ble_eq_true rfl⟩) (g_preS hP hD hK hS hA hN hZ [] (by decide) rfl [] rfl) rfl rfl hl.1 rfl (lv_room (Nat.le_of_ble_eq_true rfl)) dX4_readPattern_21 ⟨Nat.le_of_ble_eq_true rfl, Nat.le_of_ble_eq_true rfl⟩) hP hD hK hS hA [] [0, 1, 2, 3] rfl rfl (by decide +kernel) (by decide +kernel) (fun r_21_3 w ty1 H locs hw_21 hP hD _ hS => ?_)
      rcases hw_21 with ⟨hu, hr_21⟩
      cases hu
      have hP : va_P (dC, dI) vwCl [(ta, .inr (7, [.ref tb, .int (nI L)])), (tb, .inl (cB, 9000, .inl ft)), (aS, .inr (6, [.ref ce, .ref pl, .int sln, .int srs])), (ce, .inl (cI, 2048, .inl (upd (upd fc1 ((a * 64 + q2) * 4 + 0) (clF ft (1084 + 4 * (256 * a + 4 * q2 + 0)))) ((a * 64 + q2) * 4 + 1) (clF ft (1084 + 4 * (256 * a + 4 * q2 + 1))))))] H := hP
      have hD : va_D A [(ta, .inr (7, [.ref tb, .int (nI L)])), (tb, .inl (cB, 9000, .inl ft)), (aS, .inr (6, [.ref ce, .ref pl, .int sln, .int srs])), (ce, .inl (cI, 2048, .inl (upd (upd fc1 ((a * 64 + q2) * 4 + 0) (clF ft (1084 + 4 * (256 * a + 4 * q2 + 0)))) ((a * 64 + q2) * 4 + 1) (clF ft (1084 + 4 * (256 * a + 4 * q2 + 1))))))] := hD
      refine g_topi (y := nI (1084 + 4 * (256 * a + 4 * q2 + 2))) hr_21 ?_
      refine lv_istore (lv' := [(5, .int (nI (1084 + 4 * (256 * a + 4 * q2 + 2)))), (4, .int 2), (3, .int (nI q2)), (0, .ref ta), (1, .ref aS), (2, .int (nI a))]) hx hb dX4_readPattern_24 hl (by decide) rfl (fun ls hl => ?_)
      refine lv_aload_n hx hb dX4_readPattern_26 rfl (lv_at hl 4 rfl) ?_
      refine lv_iload_n hx hb dX4_readPattern_27 rfl (lv_at hl 5 rfl) ?_
      refine lv_iload_n hx hb dX4_readPattern_28 rfl (lv_at hl 2 rfl) ?_
      refine lv_iload hx hb dX4_readPattern_29 (lv_at hl 1 rfl) ?_
      refine lv_aload_n hx hb dX4_readPattern_31 rfl (lv_at hl 3 rfl) ?_
      refine lv_iload hx hb dX4_readPattern_32 (lv_at hl 0 rfl) ?_
      refine g_calli (wr := [(aS, .inr (6, [.ref ce, .ref pl, .int sln, .int srs])), (ce, .inl (cI, 2048, .inl (upd (upd fc1 ((a * 64 + q2) * 4 + 0) (clF ft (1084 + 4 * (256 * a + 4 * q2 + 0)))) ((a * 64 + q2) * 4 + 1) (clF ft (1084 + 4 * (256 * a + 4 * q2 + 1))))))]) (va_runS (As := [.ref ta, .int (nI (1084 + 4 * (256 * a + 4 * q2 + 2)))]) (rest := [.int 2, .int (nI q2), .int (nI a), .ref aS]) ⟨hx, hb, hml, hown, hts⟩ (x_readCell l dC dI H.size ta tb cB ft L (1084 + 4 * (256 * a + 4 * q2 + 2)) (hL) (by omega)) (va_cwS 2 hts (gG_S kw_357 kw_358 kw_30 kw_359) rfl rfl rfl (by decide +kernel) ⟨Nat.le_of_ble_eq_true rfl, Nat.le_of_ble_eq_true rfl⟩) (g_preS hP hD hK hS hA hN hZ [0, 1] (by decide +kernel) rfl [0] rfl) rfl rfl hl.1 rfl (lv_room (Nat.le_of_ble_eq_true rfl)) dX4_readPattern_34 ⟨Nat.le_of_ble_eq_true rfl, Nat.le_of_ble_eq_true rfl⟩) hP hD hK hS hA [0, 1] [2, 3] rfl rfl (by decide +kernel) (by decide +kernel) (fun r_34_3 w ty1 H locs hw_34 hP hD _ hS => ?_)
      rcases hw_34 with ⟨hu, hr_34⟩
      cases hu
      have hP : va_P (dC, dI) vwCl [(aS, .inr (6, [.ref ce, .ref pl, .int sln, .int srs])), (ce, .inl (cI, 2048, .inl (upd (upd fc1 ((a * 64 + q2) * 4 + 0) (clF ft (1084 + 4 * (256 * a + 4 * q2 + 0)))) ((a * 64 + q2) * 4 + 1) (clF ft (1084 + 4 * (256 * a + 4 * q2 + 1)))))), (ta, .inr (7, [.ref tb, .int (nI L)])), (tb, .inl (cB, 9000, .inl ft))] H := hP
      have hD : va_D A [(aS, .inr (6, [.ref ce, .ref pl, .int sln, .int srs])), (ce, .inl (cI, 2048, .inl (upd (upd fc1 ((a * 64 + q2) * 4 + 0) (clF ft (1084 + 4 * (256 * a + 4 * q2 + 0)))) ((a * 64 + q2) * 4 + 1) (clF ft (1084 + 4 * (256 * a + 4 * q2 + 1)))))), (ta, .inr (7, [.ref tb, .int (nI L)])), (tb, .inl (cB, 9000, .inl ft))] := hD
      refine g_topi (y := clF ft (1084 + 4 * (256 * a + 4 * q2 + 2))) hr_34 ?_
      refine g_callv (wr := [(ta, .inr (7, [.ref tb, .int (nI L)])), (tb, .inl (cB, 9000, .inl ft))]) (va_runV (As := [.int (nI a), .int (nI q2), .int 2, .int (clF ft (1084 + 4 * (256 * a + 4 * q2 + 2)))]) (rest := []) ⟨hx, hb, hml, hown, hts⟩ (c_putCell l dC dI H.size aS ce pl sln srs cI (upd (upd fc1 ((a * 64 + q2) * 4 + 0) (clF ft (1084 + 4 * (256 * a + 4 * q2 + 0)))) ((a * 64 + q2) * 4 + 1) (clF ft (1084 + 4 * (256 * a + 4 * q2 + 1)))) a q2 2 (clF ft (1084 + 4 * (256 * a + 4 * q2 + 2))) (ha) (hq3) (by decide)) (cwV 4 hts (gG_V kw_360 kw_361 kw_362 kw_26 kw_363) rfl rfl rfl (by decide +kernel) ⟨Nat.le_of_ble_eq_true rfl, Nat.le_of_ble_eq_true rfl⟩) (g_preV (C := RX6) (T := TX6) (N := 4) hP hD hK hS hA hN hZ (q0 := 0) rfl rfl [0, 1] (by decide +kernel) rfl [1] rfl) rfl rfl hl.1 rfl (lv_room (Nat.le_of_ble_eq_true rfl)) dX4_readPattern_37 ⟨Nat.le_of_ble_eq_true rfl, Nat.le_of_ble_eq_true rfl⟩) hP hD hK hS hA [0, 1] [2, 3] rfl rfl (by decide +kernel) (by decide +kernel) (fun w ty1 H locs hw_37 hP hD _ hS => ?_)
      have hu := hw_37
      cases hu
      have hP : va_P (dC, dI) vwCl [(ta, .inr (7, [.ref tb, .int (nI L)])), (tb, .inl (cB, 9000, .inl ft)), (aS, .inr (6, [.ref ce, .ref pl, .int sln, .int srs])), (ce, .inl (cI, 2048, .inl (upd (upd (upd fc1 ((a * 64 + q2) * 4 + 0) (clF ft (1084 + 4 * (256 * a + 4 * q2 + 0)))) ((a * 64 + q2) * 4 + 1) (clF ft (1084 + 4 * (256 * a + 4 * q2 + 1)))) ((a * 64 + q2) * 4 + 2) (clF ft (1084 + 4 * (256 * a + 4 * q2 + 2))))))] H := hP
      have hD : va_D A [(ta, .inr (7, [.ref tb, .int (nI L)])), (tb, .inl (cB, 9000, .inl ft)), (aS, .inr (6, [.ref ce, .ref pl, .int sln, .int srs])), (ce, .inl (cI, 2048, .inl (upd (upd (upd fc1 ((a * 64 + q2) * 4 + 0) (clF ft (1084 + 4 * (256 * a + 4 * q2 + 0)))) ((a * 64 + q2) * 4 + 1) (clF ft (1084 + 4 * (256 * a + 4 * q2 + 1)))) ((a * 64 + q2) * 4 + 2) (clF ft (1084 + 4 * (256 * a + 4 * q2 + 2))))))] := hD
      have hf3 := fil_s (fil_j hf2 (show (a * 64 + q2) * 4 + 1 + 1 = (a * 64 + q2) * 4 + 2 by omega)) (show clF ft (1084 + 4 * (256 * a + 4 * q2 + 2)) = (fun jj => clF ft (1084 + 4 * jj)) ((a * 64 + q2) * 4 + 2) from by show _ = clF ft (1084 + 4 * ((a * 64 + q2) * 4 + 2)); rw [show 256 * a + 4 * q2 + 2 = (a * 64 + q2) * 4 + 2 by omega])
      refine lv_iinc (v := 3) (lv' := [(4, .int 3), (5, .int (nI (1084 + 4 * (256 * a + 4 * q2 + 2)))), (3, .int (nI q2)), (0, .ref ta), (1, .ref aS), (2, .int (nI a))]) hx hb dX4_readPattern_40 hl (k := 1) rfl (by decide) (by decide) rfl (fun ls hl => ?_)
      refine lv_goto (tgt := 11) hx hb dX4_readPattern_43 (by decide) ?_
      refine lv_iload hx hb dX4_readPattern_11 (lv_at hl 0 rfl) ?_
      refine lv_iconst (v := 4) hx hb dX4_readPattern_13 (by decide) ?_
      refine lv_icmp_ge (tgt := 46) hx hb dX4_readPattern_14 (by decide) (fun c_14_4 => absurd c_14_4 (by decide)) (fun c_14_4 => ?_)
      refine lv_iload_n hx hb dX4_readPattern_17 rfl (lv_at hl 5 rfl) ?_
      refine lv_iload_n hx hb dX4_readPattern_18 rfl (lv_at hl 2 rfl) ?_
      refine lv_iload hx hb dX4_readPattern_19 (lv_at hl 0 rfl) ?_
      refine g_calli (wr := [(ta, .inr (7, [.ref tb, .int (nI L)])), (tb, .inl (cB, 9000, .inl ft)), (aS, .inr (6, [.ref ce, .ref pl, .int sln, .int srs])), (ce, .inl (cI, 2048, .inl (upd (upd (upd fc1 ((a * 64 + q2) * 4 + 0) (clF ft (1084 + 4 * (256 * a + 4 * q2 + 0)))) ((a * 64 + q2) * 4 + 1) (clF ft (1084 + 4 * (256 * a + 4 * q2 + 1)))) ((a * 64 + q2) * 4 + 2) (clF ft (1084 + 4 * (256 * a + 4 * q2 + 2))))))]) (va_runS (As := [.int (nI a), .int (nI q2), .int 3]) (rest := []) ⟨hx, hb, hml, hown, hts⟩ (x_cellAt l dC dI H.size a q2 3 ) (va_cwS 3 hts (gG_S kw_354 kw_355 kw_30 kw_356) rfl rfl rfl (by decide +kernel) ⟨Nat.le_of_ble_eq_true rfl, Nat.le_of_ble_eq_true rfl⟩) (g_preS hP hD hK hS hA hN hZ [] (by decide) rfl [] rfl) rfl rfl hl.1 rfl (lv_room (Nat.le_of_ble_eq_true rfl)) dX4_readPattern_21 ⟨Nat.le_of_ble_eq_true rfl, Nat.le_of_ble_eq_true rfl⟩) hP hD hK hS hA [] [0, 1, 2, 3] rfl rfl (by decide +kernel) (by decide +kernel) (fun r_21_4 w ty1 H locs hw_21 hP hD _ hS => ?_)
      rcases hw_21 with ⟨hu, hr_21⟩
      cases hu
      have hP : va_P (dC, dI) vwCl [(ta, .inr (7, [.ref tb, .int (nI L)])), (tb, .inl (cB, 9000, .inl ft)), (aS, .inr (6, [.ref ce, .ref pl, .int sln, .int srs])), (ce, .inl (cI, 2048, .inl (upd (upd (upd fc1 ((a * 64 + q2) * 4 + 0) (clF ft (1084 + 4 * (256 * a + 4 * q2 + 0)))) ((a * 64 + q2) * 4 + 1) (clF ft (1084 + 4 * (256 * a + 4 * q2 + 1)))) ((a * 64 + q2) * 4 + 2) (clF ft (1084 + 4 * (256 * a + 4 * q2 + 2))))))] H := hP
      have hD : va_D A [(ta, .inr (7, [.ref tb, .int (nI L)])), (tb, .inl (cB, 9000, .inl ft)), (aS, .inr (6, [.ref ce, .ref pl, .int sln, .int srs])), (ce, .inl (cI, 2048, .inl (upd (upd (upd fc1 ((a * 64 + q2) * 4 + 0) (clF ft (1084 + 4 * (256 * a + 4 * q2 + 0)))) ((a * 64 + q2) * 4 + 1) (clF ft (1084 + 4 * (256 * a + 4 * q2 + 1)))) ((a * 64 + q2) * 4 + 2) (clF ft (1084 + 4 * (256 * a + 4 * q2 + 2))))))] := hD
      refine g_topi (y := nI (1084 + 4 * (256 * a + 4 * q2 + 3))) hr_21 ?_
      refine lv_istore (lv' := [(5, .int (nI (1084 + 4 * (256 * a + 4 * q2 + 3)))), (4, .int 3), (3, .int (nI q2)), (0, .ref ta), (1, .ref aS), (2, .int (nI a))]) hx hb dX4_readPattern_24 hl (by decide) rfl (fun ls hl => ?_)
      refine lv_aload_n hx hb dX4_readPattern_26 rfl (lv_at hl 4 rfl) ?_
      refine lv_iload_n hx hb dX4_readPattern_27 rfl (lv_at hl 5 rfl) ?_
      refine lv_iload_n hx hb dX4_readPattern_28 rfl (lv_at hl 2 rfl) ?_
      refine lv_iload hx hb dX4_readPattern_29 (lv_at hl 1 rfl) ?_
      refine lv_aload_n hx hb dX4_readPattern_31 rfl (lv_at hl 3 rfl) ?_
      refine lv_iload hx hb dX4_readPattern_32 (lv_at hl 0 rfl) ?_
      refine g_calli (wr := [(aS, .inr (6, [.ref ce, .ref pl, .int sln, .int srs])), (ce, .inl (cI, 2048, .inl (upd (upd (upd fc1 ((a * 64 + q2) * 4 + 0) (clF ft (1084 + 4 * (256 * a + 4 * q2 + 0)))) ((a * 64 + q2) * 4 + 1) (clF ft (1084 + 4 * (256 * a + 4 * q2 + 1)))) ((a * 64 + q2) * 4 + 2) (clF ft (1084 + 4 * (256 * a + 4 * q2 + 2))))))]) (va_runS (As := [.ref ta, .int (nI (1084 + 4 * (256 * a + 4 * q2 + 3)))]) (rest := [.int 3, .int (nI q2), .int (nI a), .ref aS]) ⟨hx, hb, hml, hown, hts⟩ (x_readCell l dC dI H.size ta tb cB ft L (1084 + 4 * (256 * a + 4 * q2 + 3)) (hL) (by omega)) (va_cwS 2 hts (gG_S kw_357 kw_358 kw_30 kw_359) rfl rfl rfl (by decide +kernel) ⟨Nat.le_of_ble_eq_true rfl, Nat.le_of_ble_eq_true rfl⟩) (g_preS hP hD hK hS hA hN hZ [0, 1] (by decide +kernel) rfl [0] rfl) rfl rfl hl.1 rfl (lv_room (Nat.le_of_ble_eq_true rfl)) dX4_readPattern_34 ⟨Nat.le_of_ble_eq_true rfl, Nat.le_of_ble_eq_true rfl⟩) hP hD hK hS hA [0, 1] [2, 3] rfl rfl (by decide +kernel) (by decide +kernel) (fun r_34_4 w ty1 H locs hw_34 hP hD _ hS => ?_)
      rcases hw_34 with ⟨hu, hr_34⟩
      cases hu
      have hP : va_P (dC, dI) vwCl [(aS, .inr (6, [.ref ce, .ref pl, .int sln, .int srs])), (ce, .inl (cI, 2048, .inl (upd (upd (upd fc1 ((a * 64 + q2) * 4 + 0) (clF ft (1084 + 4 * (256 * a + 4 * q2 + 0)))) ((a * 64 + q2) * 4 + 1) (clF ft (1084 + 4 * (256 * a + 4 * q2 + 1)))) ((a * 64 + q2) * 4 + 2) (clF ft (1084 + 4 * (256 * a + 4 * q2 + 2)))))), (ta, .inr (7, [.ref tb, .int (nI L)])), (tb, .inl (cB, 9000, .inl ft))] H := hP
      have hD : va_D A [(aS, .inr (6, [.ref ce, .ref pl, .int sln, .int srs])), (ce, .inl (cI, 2048, .inl (upd (upd (upd fc1 ((a * 64 + q2) * 4 + 0) (clF ft (1084 + 4 * (256 * a + 4 * q2 + 0)))) ((a * 64 + q2) * 4 + 1) (clF ft (1084 + 4 * (256 * a + 4 * q2 + 1)))) ((a * 64 + q2) * 4 + 2) (clF ft (1084 + 4 * (256 * a + 4 * q2 + 2)))))), (ta, .inr (7, [.ref tb, .int (nI L)])), (tb, .inl (cB, 9000, .inl ft))] := hD
      refine g_topi (y := clF ft (1084 + 4 * (256 * a + 4 * q2 + 3))) hr_34 ?_
      refine g_callv (wr := [(ta, .inr (7, [.ref tb, .int (nI L)])), (tb, .inl (cB, 9000, .inl ft))]) (va_runV (As := [.int (nI a), .int (nI q2), .int 3, .int (clF ft (1084 + 4 * (256 * a + 4 * q2 + 3)))]) (rest := []) ⟨hx, hb, hml, hown, hts⟩ (c_putCell l dC dI H.size aS ce pl sln srs cI (upd (upd (upd fc1 ((a * 64 + q2) * 4 + 0) (clF ft (1084 + 4 * (256 * a + 4 * q2 + 0)))) ((a * 64 + q2) * 4 + 1) (clF ft (1084 + 4 * (256 * a + 4 * q2 + 1)))) ((a * 64 + q2) * 4 + 2) (clF ft (1084 + 4 * (256 * a + 4 * q2 + 2)))) a q2 3 (clF ft (1084 + 4 * (256 * a + 4 * q2 + 3))) (ha) (hq3) (by decide)) (cwV 4 hts (gG_V kw_360 kw_361 kw_362 kw_26 kw_363) rfl rfl rfl (by decide +kernel) ⟨Nat.le_of_ble_eq_true rfl, Nat.le_of_ble_eq_true rfl⟩) (g_preV (C := RX6) (T := TX6) (N := 4) hP hD hK hS hA hN hZ (q0 := 0) rfl rfl [0, 1] (by decide +kernel) rfl [1] rfl) rfl rfl hl.1 rfl (lv_room (Nat.le_of_ble_eq_true rfl)) dX4_readPattern_37 ⟨Nat.le_of_ble_eq_true rfl, Nat.le_of_ble_eq_true rfl⟩) hP hD hK hS hA [0, 1] [2, 3] rfl rfl (by decide +kernel) (by decide +kernel) (fun w ty1 H locs hw_37 hP hD _ hS => ?_)
      have hu := hw_37
      cases hu
      have hP : va_P (dC, dI) vwCl [(ta, .inr (7, [.ref tb, .int (nI L)])), (tb, .inl (cB, 9000, .inl ft)), (aS, .inr (6, [.ref ce, .ref pl, .int sln, .int srs])), (ce, .inl (cI, 2048, .inl (upd (upd (upd (upd fc1 ((a * 64 + q2) * 4 + 0) (clF ft (1084 + 4 * (256 * a + 4 * q2 + 0)))) ((a * 64 + q2) * 4 + 1) (clF ft (1084 + 4 * (256 * a + 4 * q2 + 1)))) ((a * 64 + q2) * 4 + 2) (clF ft (1084 + 4 * (256 * a + 4 * q2 + 2)))) ((a * 64 + q2) * 4 + 3) (clF ft (1084 + 4 * (256 * a + 4 * q2 + 3))))))] H := hP
      have hD : va_D A [(ta, .inr (7, [.ref tb, .int (nI L)])), (tb, .inl (cB, 9000, .inl ft)), (aS, .inr (6, [.ref ce, .ref pl, .int sln, .int srs])), (ce, .inl (cI, 2048, .inl (upd (upd (upd (upd fc1 ((a * 64 + q2) * 4 + 0) (clF ft (1084 + 4 * (256 * a + 4 * q2 + 0)))) ((a * 64 + q2) * 4 + 1) (clF ft (1084 + 4 * (256 * a + 4 * q2 + 1)))) ((a * 64 + q2) * 4 + 2) (clF ft (1084 + 4 * (256 * a + 4 * q2 + 2)))) ((a * 64 + q2) * 4 + 3) (clF ft (1084 + 4 * (256 * a + 4 * q2 + 3))))))] := hD
      have hf4 := fil_s (fil_j hf3 (show (a * 64 + q2) * 4 + 2 + 1 = (a * 64 + q2) * 4 + 3 by omega)) (show clF ft (1084 + 4 * (256 * a + 4 * q2 + 3)) = (fun jj => clF ft (1084 + 4 * jj)) ((a * 64 + q2) * 4 + 3) from by show _ = clF ft (1084 + 4 * ((a * 64 + q2) * 4 + 3)); rw [show 256 * a + 4 * q2 + 3 = (a * 64 + q2) * 4 + 3 by omega])
      refine lv_iinc (v := 4) (lv' := [(4, .int 4), (5, .int (nI (1084 + 4 * (256 * a + 4 * q2 + 3)))), (3, .int (nI q2)), (0, .ref ta), (1, .ref aS), (2, .int (nI a))]) hx hb dX4_readPattern_40 hl (k := 1) rfl (by decide) (by decide) rfl (fun ls hl => ?_)
      refine lv_goto (tgt := 11) hx hb dX4_readPattern_43 (by decide) ?_
      refine lv_iload hx hb dX4_readPattern_11 (lv_at hl 0 rfl) ?_
      refine lv_iconst (v := 4) hx hb dX4_readPattern_13 (by decide) ?_
      refine lv_icmp_ge (tgt := 46) hx hb dX4_readPattern_14 (by decide) (fun c_14_5 => ?_) (fun c_14_5 => absurd c_14_5 (by decide))
      refine lv_iinc (v := nI (q2 + 1)) (lv' := [(3, .int (nI (q2 + 1))), (4, .int 4), (5, .int (nI (1084 + 4 * (256 * a + 4 * q2 + 3)))), (0, .ref ta), (1, .ref aS), (2, .int (nI a))]) hx hb dX4_readPattern_46 hl (k := 2) rfl (nI_1 q2) (by decide) rfl (fun ls hl => ?_)
      refine lv_goto (tgt := 2) hx hb dX4_readPattern_49 (by decide) ?_
      exact ih2 (q2 + 1) (upd (upd (upd (upd fc1 ((a * 64 + q2) * 4 + 0) (clF ft (1084 + 4 * (256 * a + 4 * q2 + 0)))) ((a * 64 + q2) * 4 + 1) (clF ft (1084 + 4 * (256 * a + 4 * q2 + 1)))) ((a * 64 + q2) * 4 + 2) (clF ft (1084 + 4 * (256 * a + 4 * q2 + 2)))) ((a * 64 + q2) * 4 + 3) (clF ft (1084 + 4 * (256 * a + 4 * q2 + 3)))) (hq3) (fil_j hf4 (show (a * 64 + q2) * 4 + 3 + 1 = 256 * a + 4 * (q2 + 1) by omega)) (by omega) _ _ hP hD hS _ (lv_sub hl [0, 3, 4, 5] rfl)
  exact LP2 _ 0 fc (Nat.zero_le _) (hfil) (Nat.lt_succ_self _) _ _ hP hD hS _ (lv_sub hl [0, 1, 2, 3] rfl)

set_option maxHeartbeats 400000 in
set_option maxRecDepth 100000 in
theorem x_sclear (l : Launch) (dC : Nat → ClassId) (dI : Nat → Nat → Nat) (sz : Nat) (h ce pl : Nat) (sln srs : Int32) (fc fp : Nat → Int32) (cI : ClassId) : Met l yX6_clear (wsG (.code yX6_clear cX6_clear 1 none)) ({ frames := 1, cells := 0, slots := 0, locals := 23 }) (va_Pc [.ref h] (gP (dC, dI) [(cI, .int)] [(h, .inr (6, [.ref ce, .ref pl, .int sln, .int srs])), (ce, .inl (cI, 2048, .inl fc)), (pl, .inl (cI, 128, .inl fp))] sz)) (va_Qv (fun u : va_W × gT => ∃ (fc2 : Nat → Int32) (fp2 : Nat → Int32), u = ([(h, .inr (6, [.ref ce, .ref pl, .int sln, .int srs])), (ce, .inl (cI, 2048, .inl fc2)), (pl, .inl (cI, 128, .inl fp2))], []) ∧ (∀ x, x < 2048 → fc2 x = 0) ∧ (∀ x, x < 128 → fp2 x = 0)) (gB (dC, dI) (va_A [(h, .inr (6, [.ref ce, .ref pl, .int sln, .int srs])), (ce, .inl (cI, 2048, .inl fc)), (pl, .inl (cI, 128, .inl fp))] sz)) (va_A [(h, .inr (6, [.ref ce, .ref pl, .int sln, .int srs])), (ce, .inl (cI, 2048, .inl fc)), (pl, .inl (cI, 128, .inl fp))] sz)) 0 0 (va_A [(h, .inr (6, [.ref ce, .ref pl, .int sln, .int srs])), (ce, .inl (cI, 2048, .inl fc)), (pl, .inl (cI, 128, .inl fp))] sz) := by
  refine Met.ofW (cc := cX6_clear) (maxL := 1) (ret := none) (by decide) rfl ?_
  intro p e s m args below meth c s₁ B hml hv
  obtain ⟨rfl, hsz, hP, hK, hD0, hN, hZ⟩ := hv
  have hx := B.exec
  have hb := B.bytes
  have hr := B.returns
  have hts := atoms_spec (ws := (wsG (.code yX6_clear cX6_clear 1 none))) B.pre
  have hown : s.vm.findClass RX6 = some m.cls := findClass_of_methodNamed B.named
  have hlocks := B.notSynchronized
  subst hsz
  have hD := hD0.self (sz := s.heap.size)
  generalize hAe : va_A [(h, .inr (6, [.ref ce, .ref pl, .int sln, .int srs])), (ce, .inl (cI, 2048, .inl fc)), (pl, .inl (cI, 128, .inl fp))] s.heap.size = A at hD hZ ⊢
  have hA : ∀ q : Nat, s.heap.size ≤ q → A q := fun q h => by rw [← hAe]; exact Or.inr h
  have hl := lv_entry ([.ref h]) (n := 1) (Nat.le_of_ble_eq_true rfl)
  rw [lg_entry_eq]
  generalize (lg_sl ([.ref h]) ++ List.replicate (1 - (lg_sl ([.ref h])).length) Slot.unset).toArray = ls at hl ⊢
  have hl : lv_has ls 1 [(0, .ref h)] := hl
  refine g_start (A := A) hP (fun H locs hP hS => ?_)
  refine lv_aload_n hx hb dX6_clear_0 rfl (lv_at hl 0 rfl) ?_
  refine va_get (D := (dC, dI)) (ci := 6) (v := .ref ce) (C := RX6) (T := TX6) (N := 4) hx hb hts iwX6 hown hK hP 0 rfl rfl 0 (by decide) (hts (.fieldLink RX6 9 "ModulePlayer$Score" "cells" "[I") (List.mem_cons_of_mem _ kw_65)) (fun _ h9 => h9) rfl dX6_clear_1 ?_
  refine lv_iconst (v := 0) hx hb dX6_clear_4 (by decide) ?_
  refine g_callv (wr := [(h, .inr (6, [.ref ce, .ref pl, .int sln, .int srs])), (pl, .inl (cI, 128, .inl fp))]) (va_runS (As := [.ref ce, .int 0]) (rest := []) ⟨hx, hb, hml, hown, hts⟩ (c_fillA l dC dI H.size ce cI 2048 fc 0 (by decide)) (va_cwS 2 hts (gG_S kw_343 kw_344 kw_124 kw_345) rfl rfl rfl (by decide +kernel) ⟨Nat.le_of_ble_eq_true rfl, Nat.le_of_ble_eq_true rfl⟩) (g_preS hP hD hK hS hA hN hZ [1] (by decide +kernel) rfl [0] rfl) rfl rfl hl.1 rfl (lv_room (Nat.le_of_ble_eq_true rfl)) dX6_clear_5 ⟨Nat.le_of_ble_eq_true rfl, Nat.le_of_ble_eq_true rfl⟩) hP hD hK hS hA [1] [0, 2] rfl rfl (by decide +kernel) (by decide +kernel) (fun w ty1 H locs hw_5 hP hD _ hS => ?_)
  rcases hw_5 with ⟨f2_5, hu, hf_5⟩
  cases hu
  have hP : va_P (dC, dI) vwCl [(h, .inr (6, [.ref ce, .ref pl, .int sln, .int srs])), (pl, .inl (cI, 128, .inl fp)), (ce, .inl (cI, 2048, .inl f2_5))] H := hP
  have hD : va_D A [(h, .inr (6, [.ref ce, .ref pl, .int sln, .int srs])), (pl, .inl (cI, 128, .inl fp)), (ce, .inl (cI, 2048, .inl f2_5))] := hD
  refine lv_aload_n hx hb dX6_clear_8 rfl (lv_at hl 0 rfl) ?_
  refine va_get (D := (dC, dI)) (ci := 6) (v := .ref pl) (C := RX6) (T := TX6) (N := 4) hx hb hts iwX6 hown hK hP 0 rfl rfl 1 (by decide) (hts (.fieldLink RX6 15 "ModulePlayer$Score" "places" "[I") (List.mem_cons_of_mem _ kw_66)) (fun _ h9 => h9) rfl dX6_clear_9 ?_
  refine lv_iconst (v := 0) hx hb dX6_clear_12 (by decide) ?_
  refine g_callv (wr := [(h, .inr (6, [.ref ce, .ref pl, .int sln, .int srs])), (ce, .inl (cI, 2048, .inl f2_5))]) (va_runS (As := [.ref pl, .int 0]) (rest := []) ⟨hx, hb, hml, hown, hts⟩ (c_fillA l dC dI H.size pl cI 128 fp 0 (by decide)) (va_cwS 2 hts (gG_S kw_343 kw_344 kw_124 kw_345) rfl rfl rfl (by decide +kernel) ⟨Nat.le_of_ble_eq_true rfl, Nat.le_of_ble_eq_true rfl⟩) (g_preS hP hD hK hS hA hN hZ [1] (by decide +kernel) rfl [0] rfl) rfl rfl hl.1 rfl (lv_room (Nat.le_of_ble_eq_true rfl)) dX6_clear_13 ⟨Nat.le_of_ble_eq_true rfl, Nat.le_of_ble_eq_true rfl⟩) hP hD hK hS hA [1] [0, 2] rfl rfl (by decide +kernel) (by decide +kernel) (fun w ty1 H locs hw_13 hP hD _ hS => ?_)
  rcases hw_13 with ⟨f2_13, hu, hf_13⟩
  cases hu
  have hP : va_P (dC, dI) vwCl [(h, .inr (6, [.ref ce, .ref pl, .int sln, .int srs])), (ce, .inl (cI, 2048, .inl f2_5)), (pl, .inl (cI, 128, .inl f2_13))] H := hP
  have hD : va_D A [(h, .inr (6, [.ref ce, .ref pl, .int sln, .int srs])), (ce, .inl (cI, 2048, .inl f2_5)), (pl, .inl (cI, 128, .inl f2_13))] := hD
  have hP9 := hP
  have hD9 := hD
  have hK9 := hK.sub (tys' := []) [] rfl
  exact W.vret hx hb hr (fun t ht hW => ⟨⟨_, rfl, ⟨f2_5, f2_13, rfl, hf_5, hf_13⟩, by rw [ht]; exact hP9, va_K.moved hW.alike hK9, hD9⟩, hS.F ht⟩) hS.2.2 dX6_clear_16

set_option maxHeartbeats 400000 in
set_option maxRecDepth 100000 in
theorem x_count (l : Launch) (dC : Nat → ClassId) (dI : Nat → Nat → Nat) (sz : Nat) (h ce pl : Nat) (srs : Int32) (fp : Nat → Int32) (cI : ClassId) (n : Nat) (pn : Nat → Nat) (hn1 : 1 ≤ n) (hn2 : n ≤ 128) (hpn : ∀ jj, jj < n → fp jj = nI (pn jj)) (hpb : ∀ jj, jj < n → pn jj < 256) : Met l yX6_countPatterns (wsG (.code yX6_countPatterns cX6_countPatterns 3 (some .int))) ({ frames := 1, cells := 0, slots := 0, locals := 13 }) (va_Pc [.ref h] (gP (dC, dI) [(cI, .int)] [(h, .inr (6, [.ref ce, .ref pl, .int (nI n), .int srs])), (pl, .inl (cI, 128, .inl fp))] sz)) (va_Qi (fun (r : Int32) (u : va_W × gT) => u = ([(h, .inr (6, [.ref ce, .ref pl, .int (nI n), .int srs])), (pl, .inl (cI, 128, .inl fp))], []) ∧ r = nI (pmN pn n)) (gB (dC, dI) (va_A [(h, .inr (6, [.ref ce, .ref pl, .int (nI n), .int srs])), (pl, .inl (cI, 128, .inl fp))] sz)) (va_A [(h, .inr (6, [.ref ce, .ref pl, .int (nI n), .int srs])), (pl, .inl (cI, 128, .inl fp))] sz)) 0 0 (va_A [(h, .inr (6, [.ref ce, .ref pl, .int (nI n), .int srs])), (pl, .inl (cI, 128, .inl fp))] sz) := by
  refine Met.ofW (cc := cX6_countPatterns) (maxL := 3) (ret := (some .int)) (by decide) rfl ?_
  intro p e s m args below meth c s₁ B hml hv
  obtain ⟨rfl, hsz, hP, hK, hD0, hN, hZ⟩ := hv
  have hx := B.exec
  have hb := B.bytes
  have hr := B.returns
  have hts := atoms_spec (ws := (wsG (.code yX6_countPatterns cX6_countPatterns 3 (some .int)))) B.pre
  have hown : s.vm.findClass RX6 = some m.cls := findClass_of_methodNamed B.named
  have hlocks := B.notSynchronized
  subst hsz
  have hD := hD0.self (sz := s.heap.size)
  generalize hAe : va_A [(h, .inr (6, [.ref ce, .ref pl, .int (nI n), .int srs])), (pl, .inl (cI, 128, .inl fp))] s.heap.size = A at hD hZ ⊢
  have hA : ∀ q : Nat, s.heap.size ≤ q → A q := fun q h => by rw [← hAe]; exact Or.inr h
  have hl := lv_entry ([.ref h]) (n := 3) (Nat.le_of_ble_eq_true rfl)
  rw [lg_entry_eq]
  generalize (lg_sl ([.ref h]) ++ List.replicate (3 - (lg_sl ([.ref h])).length) Slot.unset).toArray = ls at hl ⊢
  have hl : lv_has ls 3 [(0, .ref h)] := hl
  refine g_start (A := A) hP (fun H locs hP hS => ?_)
  refine lv_iconst (v := 0) hx hb dX6_countPatterns_0 (by decide) ?_
  refine lv_istore_n (lv' := [(1, .int 0), (0, .ref h)]) hx hb dX6_countPatterns_1 rfl hl (by decide) rfl (fun ls hl => ?_)
  refine lv_iconst (v := 0) hx hb dX6_countPatterns_2 (by decide) ?_
  refine lv_istore_n (lv' := [(2, .int 0), (1, .int 0), (0, .ref h)]) hx hb dX6_countPatterns_3 rfl hl (by decide) rfl (fun ls hl => ?_)
  have LP4 : ∀ (fu4 : Nat) (q4 : Nat) (gr : Nat) (hq4 : q4 ≤ n) (hgr : gr + 1 = max 1 (pmN pn q4)) (hgb : gr ≤ 255) (hm4 : n - q4 < fu4) (H : Heap) (locs : List Loc), va_P (dC, dI) vwCl [(h, .inr (6, [.ref ce, .ref pl, .int (nI n), .int srs])), (pl, .inl (cI, 128, .inl fp))] H → va_D A [(h, .inr (6, [.ref ce, .ref pl, .int (nI n), .int srs])), (pl, .inl (cI, 128, .inl fp))] → va_S A s.heap H locs → ∀ ls : Array Slot, lv_has ls 3 [(2, .int (nI q4)), (1, .int (nI gr)), (0, .ref h)] → W p l e ({ frames := 1, cells := 0, slots := 0, locals := 13 }) s m ([.ref h] : List Value).toArray below meth c H locs (0) (0) (MQ below (va_Qi (fun (r : Int32) (u : va_W × gT) => u = ([(h, .inr (6, [.ref ce, .ref pl, .int (nI n), .int srs])), (pl, .inl (cI, 128, .inl fp))], []) ∧ r = nI (pmN pn n)) (gB (dC, dI) A) A) ([.ref h] : List Value).toArray s 0 0 A) (F0 m 4 ls []) := by
    intro fu4
    induction fu4 with
    | zero => intro q4 gr hq4 hgr hgb hm4; exact absurd hm4 (Nat.not_lt_zero _)
    | succ fu4 ih4 =>
      intro q4 gr hq4 hgr hgb hm4 H locs hP hD hS ls hl
      refine lv_iload_n hx hb dX6_countPatterns_4 rfl (lv_at hl 0 rfl) ?_
      refine lv_aload_n hx hb dX6_countPatterns_5 rfl (lv_at hl 2 rfl) ?_
      refine va_get (D := (dC, dI)) (ci := 6) (v := .int (nI n)) (C := RX6) (T := TX6) (N := 4) hx hb hts iwX6 hown hK hP 0 rfl rfl 2 (by decide) (hts (.fieldLink RX6 18 "ModulePlayer$Score" "length" "I") (List.mem_cons_of_mem _ kw_67)) (fun _ h9 => h9) rfl dX6_countPatterns_6 ?_
      refine lv_icmp_ge (tgt := 36) hx hb dX6_countPatterns_9 (by decide) (fun c_9 => ?_) (fun c_9 => ?_)
      · have hqe : q4 = n := by have := nI_le' c_9 (by omega) (by omega); omega
        refine lv_iload_n hx hb dX6_countPatterns_36 rfl (lv_at hl 1 rfl) ?_
        refine lv_iconst (v := 1) hx hb dX6_countPatterns_37 (by decide) ?_
        refine lv_iadd hx hb dX6_countPatterns_38 ?_
        refine g_topi (y := nI (gr + 1)) (nI_1 _) ?_
        have hP9 := hP
        have hD9 := hD
        have hK9 := hK.sub (tys' := []) [] rfl
        exact W.iret (v := nI (gr + 1)) hx hb hr (fun t ht hW => ⟨⟨nI (gr + 1), _, rfl, ⟨rfl, up_e (by have := pmN_pos pn hn1; rw [hqe] at hgr; omega)⟩, by rw [ht]; exact hP9, va_K.moved hW.alike hK9, hD9⟩, hS.F ht⟩) hS.2.2 dX6_countPatterns_39
      refine lv_iload_n hx hb dX6_countPatterns_12 rfl (lv_at hl 0 rfl) ?_
      refine lv_sipush (v := 128) hx hb dX6_countPatterns_13 (by decide) ?_
      refine lv_icmp_ge (tgt := 36) hx hb dX6_countPatterns_16 (by decide) (fun c_16 => ?_) (fun c_16 => ?_)
      · have hqe : q4 = n := by have := nI_le' (a := 128) c_16 (by decide) (by omega); omega
        refine lv_iload_n hx hb dX6_countPatterns_36 rfl (lv_at hl 1 rfl) ?_
        refine lv_iconst (v := 1) hx hb dX6_countPatterns_37 (by decide) ?_
        refine lv_iadd hx hb dX6_countPatterns_38 ?_
        refine g_topi (y := nI (gr + 1)) (nI_1 _) ?_
        have hP9 := hP
        have hD9 := hD
        have hK9 := hK.sub (tys' := []) [] rfl
        exact W.iret (v := nI (gr + 1)) hx hb hr (fun t ht hW => ⟨⟨nI (gr + 1), _, rfl, ⟨rfl, up_e (by have := pmN_pos pn hn1; rw [hqe] at hgr; omega)⟩, by rw [ht]; exact hP9, va_K.moved hW.alike hK9, hD9⟩, hS.F ht⟩) hS.2.2 dX6_countPatterns_39
      have hq3 : q4 < n := nI_nle' c_9 (by omega)
      have hb8 := hpb q4 hq3
      refine lv_iload_n hx hb dX6_countPatterns_19 rfl (lv_at hl 1 rfl) ?_
      refine lv_aload_n hx hb dX6_countPatterns_20 rfl (lv_at hl 2 rfl) ?_
      refine va_get (D := (dC, dI)) (ci := 6) (v := .ref pl) (C := RX6) (T := TX6) (N := 4) hx hb hts iwX6 hown hK hP 0 rfl rfl 1 (by decide) (hts (.fieldLink RX6 15 "ModulePlayer$Score" "places" "[I") (List.mem_cons_of_mem _ kw_66)) (fun _ h9 => h9) rfl dX6_countPatterns_21 ?_
      refine lv_iload_n hx hb dX6_countPatterns_24 rfl (lv_at hl 0 rfl) ?_
      refine g_iald hx hb hK hP 1 0 rfl rfl q4 (nI_clamp (Nat.lt_trans (show q4 < 128 from by omega) (by decide))) (vp_in_nI (by omega) (by decide)) dX6_countPatterns_25 ?_
      refine g_topi (y := nI (pn q4)) (hpn q4 hq3) ?_
      refine va_mmax hx hb (by rw [hml]; exact hl.1.symm) hown (hts (.methodLink RX6 34 Lib.Math.max.name) (List.mem_cons_of_mem _ kw_350)) (hts (.static Lib.Math.max.name) (List.mem_cons_of_mem _ kw_102)) (hts (.initialized "java/lang/Math") (List.mem_cons_of_mem _ kw_103)) (hts (.code Lib.Math.max.name Lib.Math.max.code 2 (some .int)) (List.mem_cons_of_mem _ kw_104)) (Nat.le_of_ble_eq_true rfl) (Nat.le_of_ble_eq_true rfl) (Nat.le_of_ble_eq_true rfl) (Nat.le_of_ble_eq_true rfl) dX6_countPatterns_26 ?_
      refine g_topi (y := nI (max gr (pn q4))) (mx_nI (by omega) (by omega)) ?_
      refine lv_istore_n (lv' := [(1, .int (nI (max gr (pn q4)))), (2, .int (nI q4)), (0, .ref h)]) hx hb dX6_countPatterns_29 rfl hl (by decide) rfl (fun ls hl => ?_)
      refine lv_iinc (v := nI (q4 + 1)) (lv' := [(2, .int (nI (q4 + 1))), (1, .int (nI (max gr (pn q4)))), (0, .ref h)]) hx hb dX6_countPatterns_30 hl (k := 1) rfl (nI_1 q4) (by decide) rfl (fun ls hl => ?_)
      refine lv_goto (tgt := 4) hx hb dX6_countPatterns_33 (by decide) ?_
      exact ih4 (q4 + 1) (max gr (pn q4)) (by omega) (pmN_s hgr) (by omega) (by omega) _ _ hP hD hS _ (lv_sub hl [0, 1, 2] rfl)
  exact LP4 _ 0 0 (Nat.zero_le _) (rfl) (Nat.zero_le _) (Nat.lt_succ_self _) _ _ hP hD hS _ (lv_sub hl [0, 1, 2] rfl)

set_option maxHeartbeats 400000 in
set_option maxRecDepth 100000 in
theorem x_readSong (l : Launch) (dC : Nat → ClassId) (dI : Nat → Nat → Nat) (sz : Nat) (ta tb : Nat) (cB : ClassId) (ft : Nat → Int32) (L : Nat) (aS ce pl : Nat) (sln srs : Int32) (fc fp : Nat → Int32) (cI : ClassId) (hL : L ≤ 9000) (hL8 : 1084 ≤ L) (hb1 : 1 ≤ by8 ft 950) (hb2 : by8 ft 950 ≤ 128) (hn8 : npF ft ≤ 8) (hnL : 1084 + 1024 * npF ft ≤ L) : Met l yX4_readSong (wsG (.code yX4_readSong cX4_readSong 4 none)) ({ frames := 4, cells := 0, slots := 0, locals := 92 }) (va_Pc [.ref ta, .ref aS] (gP (dC, dI) [(cB, .byte), (cI, .int)] [(ta, .inr (7, [.ref tb, .int (nI L)])), (tb, .inl (cB, 9000, .inl ft)), (aS, .inr (6, [.ref ce, .ref pl, .int sln, .int srs])), (ce, .inl (cI, 2048, .inl fc)), (pl, .inl (cI, 128, .inl fp))] sz)) (va_Qv (fun u : va_W × gT => ∃ (fc2 : Nat → Int32) (fp2 : Nat → Int32), u = ([(ta, .inr (7, [.ref tb, .int (nI L)])), (tb, .inl (cB, 9000, .inl ft)), (aS, .inr (6, [.ref ce, .ref pl, .int (nI (by8 ft 950)), .int (nI (by8 ft 951))])), (ce, .inl (cI, 2048, .inl fc2)), (pl, .inl (cI, 128, .inl fp2))], []) ∧ filR 2048 (256 * npF ft) (fun jj => clF ft (1084 + 4 * jj)) fc2 ∧ filR 128 (by8 ft 950) (fun jj => nI (by8 ft (952 + jj))) fp2) (gB (dC, dI) (va_A [(ta, .inr (7, [.ref tb, .int (nI L)])), (tb, .inl (cB, 9000, .inl ft)), (aS, .inr (6, [.ref ce, .ref pl, .int sln, .int srs])), (ce, .inl (cI, 2048, .inl fc)), (pl, .inl (cI, 128, .inl fp))] sz)) (va_A [(ta, .inr (7, [.ref tb, .int (nI L)])), (tb, .inl (cB, 9000, .inl ft)), (aS, .inr (6, [.ref ce, .ref pl, .int sln, .int srs])), (ce, .inl (cI, 2048, .inl fc)), (pl, .inl (cI, 128, .inl fp))] sz)) 0 0 (va_A [(ta, .inr (7, [.ref tb, .int (nI L)])), (tb, .inl (cB, 9000, .inl ft)), (aS, .inr (6, [.ref ce, .ref pl, .int sln, .int srs])), (ce, .inl (cI, 2048, .inl fc)), (pl, .inl (cI, 128, .inl fp))] sz) := by
  refine Met.ofW (cc := cX4_readSong) (maxL := 4) (ret := none) (by decide) rfl ?_
  intro p e s m args below meth c s₁ B hml hv
  obtain ⟨rfl, hsz, hP, hK, hD0, hN, hZ⟩ := hv
  have hx := B.exec
  have hb := B.bytes
  have hr := B.returns
  have hts := atoms_spec (ws := (wsG (.code yX4_readSong cX4_readSong 4 none))) B.pre
  have hown : s.vm.findClass RX4 = some m.cls := findClass_of_methodNamed B.named
  have hlocks := B.notSynchronized
  subst hsz
  have hD := hD0.self (sz := s.heap.size)
  generalize hAe : va_A [(ta, .inr (7, [.ref tb, .int (nI L)])), (tb, .inl (cB, 9000, .inl ft)), (aS, .inr (6, [.ref ce, .ref pl, .int sln, .int srs])), (ce, .inl (cI, 2048, .inl fc)), (pl, .inl (cI, 128, .inl fp))] s.heap.size = A at hD hZ ⊢
  have hA : ∀ q : Nat, s.heap.size ≤ q → A q := fun q h => by rw [← hAe]; exact Or.inr h
  have hl := lv_entry ([.ref ta, .ref aS]) (n := 4) (Nat.le_of_ble_eq_true rfl)
  rw [lg_entry_eq]
  generalize (lg_sl ([.ref ta, .ref aS]) ++ List.replicate (4 - (lg_sl ([.ref ta, .ref aS])).length) Slot.unset).toArray = ls at hl ⊢
  have hl : lv_has ls 4 [(0, .ref ta), (1, .ref aS)] := hl
  refine g_start (A := A) hP (fun H locs hP hS => ?_)
  refine lv_aload_n hx hb dX4_readSong_0 rfl (lv_at hl 1 rfl) ?_
  refine g_callv (wr := [(ta, .inr (7, [.ref tb, .int (nI L)])), (tb, .inl (cB, 9000, .inl ft))]) (va_runV (As := []) (rest := []) ⟨hx, hb, hml, hown, hts⟩ (x_sclear l dC dI H.size aS ce pl sln srs fc fp cI ) (cwV 0 hts (gG_V kw_339 kw_340 kw_341 kw_26 kw_342) rfl rfl rfl (by decide +kernel) ⟨Nat.le_of_ble_eq_true rfl, Nat.le_of_ble_eq_true rfl⟩) (g_preV (C := RX6) (T := TX6) (N := 4) hP hD hK hS hA hN hZ (q0 := 2) rfl rfl [2, 3, 4] (by decide +kernel) rfl [1] rfl) rfl rfl hl.1 rfl (lv_room (Nat.le_of_ble_eq_true rfl)) dX4_readSong_1 ⟨Nat.le_of_ble_eq_true rfl, Nat.le_of_ble_eq_true rfl⟩) hP hD hK hS hA [2, 3, 4] [0, 1] rfl rfl (by decide +kernel) (by decide +kernel) (fun w ty1 H locs hw_1 hP hD _ hS => ?_)
  rcases hw_1 with ⟨fc2_1, fp2_1, hu, hz1_1, hz2_1⟩
  cases hu
  have hP : va_P (dC, dI) vwCl [(ta, .inr (7, [.ref tb, .int (nI L)])), (tb, .inl (cB, 9000, .inl ft)), (aS, .inr (6, [.ref ce, .ref pl, .int sln, .int srs])), (ce, .inl (cI, 2048, .inl fc2_1)), (pl, .inl (cI, 128, .inl fp2_1))] H := hP
  have hD : va_D A [(ta, .inr (7, [.ref tb, .int (nI L)])), (tb, .inl (cB, 9000, .inl ft)), (aS, .inr (6, [.ref ce, .ref pl, .int sln, .int srs])), (ce, .inl (cI, 2048, .inl fc2_1)), (pl, .inl (cI, 128, .inl fp2_1))] := hD
  refine lv_aload_n hx hb dX4_readSong_4 rfl (lv_at hl 1 rfl) ?_
  refine lv_aload_n hx hb dX4_readSong_5 rfl (lv_at hl 0 rfl) ?_
  refine lv_sipush (v := 950) hx hb dX4_readSong_6 (by decide) ?_
  refine g_calli (wr := [(aS, .inr (6, [.ref ce, .ref pl, .int sln, .int srs])), (ce, .inl (cI, 2048, .inl fc2_1)), (pl, .inl (cI, 128, .inl fp2_1))]) (va_runV (As := [.int 950]) (rest := [.ref aS]) ⟨hx, hb, hml, hown, hts⟩ (x_at l dC dI H.size ta tb cB ft L 950 (hL) (by omega)) (cwV 1 hts (gG_V kw_295 kw_296 kw_297 kw_18 kw_298) rfl rfl rfl (by decide +kernel) ⟨Nat.le_of_ble_eq_true rfl, Nat.le_of_ble_eq_true rfl⟩) (g_preV (C := RX7) (T := TX7) (N := 2) hP hD hK hS hA hN hZ (q0 := 0) rfl rfl [0, 1] (by decide +kernel) rfl [0] rfl) rfl rfl hl.1 rfl (lv_room (Nat.le_of_ble_eq_true rfl)) dX4_readSong_9 ⟨Nat.le_of_ble_eq_true rfl, Nat.le_of_ble_eq_true rfl⟩) hP hD hK hS hA [0, 1] [2, 3, 4] rfl rfl (by decide +kernel) (by decide +kernel) (fun r_9 w ty1 H locs hw_9 hP hD _ hS => ?_)
  rcases hw_9 with ⟨hu, hr_9⟩
  cases hu
  have hP : va_P (dC, dI) vwCl [(aS, .inr (6, [.ref ce, .ref pl, .int sln, .int srs])), (ce, .inl (cI, 2048, .inl fc2_1)), (pl, .inl (cI, 128, .inl fp2_1)), (ta, .inr (7, [.ref tb, .int (nI L)])), (tb, .inl (cB, 9000, .inl ft))] H := hP
  have hD : va_D A [(aS, .inr (6, [.ref ce, .ref pl, .int sln, .int srs])), (ce, .inl (cI, 2048, .inl fc2_1)), (pl, .inl (cI, 128, .inl fp2_1)), (ta, .inr (7, [.ref tb, .int (nI L)])), (tb, .inl (cB, 9000, .inl ft))] := hD
  refine g_topi (y := nI (by8 ft 950)) hr_9 ?_
  refine va_put (D := (dC, dI)) (ci := 6) (v := .int (nI (by8 ft 950))) (ty := tyX6 2) (C := RX6) (T := TX6) (N := 4) hx hb hts iwX6 tyX6 tyX6_ok nmX6 hown hK hP hD hS 0 rfl rfl 2 (by decide) (hts (.fieldLink RX4 85 "ModulePlayer$Score" "length" "I") (List.mem_cons_of_mem _ kw_336)) (fun _ h9 => h9) rfl (by decide +kernel) (rfl) (rfl) (Nat.le_of_ble_eq_true rfl) dX4_readSong_12 (fun H locs hP hD hS => ?_)
  have hP : va_P (dC, dI) vwCl [(aS, .inr (6, [.ref ce, .ref pl, .int (nI (by8 ft 950)), .int srs])), (ce, .inl (cI, 2048, .inl fc2_1)), (pl, .inl (cI, 128, .inl fp2_1)), (ta, .inr (7, [.ref tb, .int (nI L)])), (tb, .inl (cB, 9000, .inl ft))] H := hP
  have hD : va_D A [(aS, .inr (6, [.ref ce, .ref pl, .int (nI (by8 ft 950)), .int srs])), (ce, .inl (cI, 2048, .inl fc2_1)), (pl, .inl (cI, 128, .inl fp2_1)), (ta, .inr (7, [.ref tb, .int (nI L)])), (tb, .inl (cB, 9000, .inl ft))] := hD
  refine lv_aload_n hx hb dX4_readSong_15 rfl (lv_at hl 1 rfl) ?_
  refine lv_aload_n hx hb dX4_readSong_16 rfl (lv_at hl 0 rfl) ?_
  refine lv_sipush (v := 951) hx hb dX4_readSong_17 (by decide) ?_
  refine g_calli (wr := [(aS, .inr (6, [.ref ce, .ref pl, .int (nI (by8 ft 950)), .int srs])), (ce, .inl (cI, 2048, .inl fc2_1)), (pl, .inl (cI, 128, .inl fp2_1))]) (va_runV (As := [.int 951]) (rest := [.ref aS]) ⟨hx, hb, hml, hown, hts⟩ (x_at l dC dI H.size ta tb cB ft L 951 (hL) (by omega)) (cwV 1 hts (gG_V kw_295 kw_296 kw_297 kw_18 kw_298) rfl rfl rfl (by decide +kernel) ⟨Nat.le_of_ble_eq_true rfl, Nat.le_of_ble_eq_true rfl⟩) (g_preV (C := RX7) (T := TX7) (N := 2) hP hD hK hS hA hN hZ (q0 := 3) rfl rfl [3, 4] (by decide +kernel) rfl [0] rfl) rfl rfl hl.1 rfl (lv_room (Nat.le_of_ble_eq_true rfl)) dX4_readSong_20 ⟨Nat.le_of_ble_eq_true rfl, Nat.le_of_ble_eq_true rfl⟩) hP hD hK hS hA [3, 4] [0, 1, 2] rfl rfl (by decide +kernel) (by decide +kernel) (fun r_20 w ty1 H locs hw_20 hP hD _ hS => ?_)
  rcases hw_20 with ⟨hu, hr_20⟩
  cases hu
  have hP : va_P (dC, dI) vwCl [(aS, .inr (6, [.ref ce, .ref pl, .int (nI (by8 ft 950)), .int srs])), (ce, .inl (cI, 2048, .inl fc2_1)), (pl, .inl (cI, 128, .inl fp2_1)), (ta, .inr (7, [.ref tb, .int (nI L)])), (tb, .inl (cB, 9000, .inl ft))] H := hP
  have hD : va_D A [(aS, .inr (6, [.ref ce, .ref pl, .int (nI (by8 ft 950)), .int srs])), (ce, .inl (cI, 2048, .inl fc2_1)), (pl, .inl (cI, 128, .inl fp2_1)), (ta, .inr (7, [.ref tb, .int (nI L)])), (tb, .inl (cB, 9000, .inl ft))] := hD
  refine g_topi (y := nI (by8 ft 951)) hr_20 ?_
  refine va_put (D := (dC, dI)) (ci := 6) (v := .int (nI (by8 ft 951))) (ty := tyX6 3) (C := RX6) (T := TX6) (N := 4) hx hb hts iwX6 tyX6 tyX6_ok nmX6 hown hK hP hD hS 0 rfl rfl 3 (by decide) (hts (.fieldLink RX4 86 "ModulePlayer$Score" "restart" "I") (List.mem_cons_of_mem _ kw_337)) (fun _ h9 => h9) rfl (by decide +kernel) (rfl) (rfl) (Nat.le_of_ble_eq_true rfl) dX4_readSong_23 (fun H locs hP hD hS => ?_)
  have hP : va_P (dC, dI) vwCl [(aS, .inr (6, [.ref ce, .ref pl, .int (nI (by8 ft 950)), .int (nI (by8 ft 951))])), (ce, .inl (cI, 2048, .inl fc2_1)), (pl, .inl (cI, 128, .inl fp2_1)), (ta, .inr (7, [.ref tb, .int (nI L)])), (tb, .inl (cB, 9000, .inl ft))] H := hP
  have hD : va_D A [(aS, .inr (6, [.ref ce, .ref pl, .int (nI (by8 ft 950)), .int (nI (by8 ft 951))])), (ce, .inl (cI, 2048, .inl fc2_1)), (pl, .inl (cI, 128, .inl fp2_1)), (ta, .inr (7, [.ref tb, .int (nI L)])), (tb, .inl (cB, 9000, .inl ft))] := hD
  refine lv_iconst (v := 0) hx hb dX4_readSong_26 (by decide) ?_
  refine lv_istore_n (lv' := [(2, .int 0), (0, .ref ta), (1, .ref aS)]) hx hb dX4_readSong_27 rfl hl (by decide) rfl (fun ls hl => ?_)
  have LP28 : ∀ (fu28 : Nat) (q28 : Nat) (fp1 : Nat → Int32) (hq28 : q28 ≤ by8 ft 950) (hfp1 : filR 128 q28 (fun jj => nI (by8 ft (952 + jj))) fp1) (hm28 : by8 ft 950 - q28 < fu28) (H : Heap) (locs : List Loc), va_P (dC, dI) vwCl [(aS, .inr (6, [.ref ce, .ref pl, .int (nI (by8 ft 950)), .int (nI (by8 ft 951))])), (ce, .inl (cI, 2048, .inl fc2_1)), (pl, .inl (cI, 128, .inl fp1)), (ta, .inr (7, [.ref tb, .int (nI L)])), (tb, .inl (cB, 9000, .inl ft))] H → va_D A [(aS, .inr (6, [.ref ce, .ref pl, .int (nI (by8 ft 950)), .int (nI (by8 ft 951))])), (ce, .inl (cI, 2048, .inl fc2_1)), (pl, .inl (cI, 128, .inl fp1)), (ta, .inr (7, [.ref tb, .int (nI L)])), (tb, .inl (cB, 9000, .inl ft))] → va_S A s.heap H locs → ∀ ls : Array Slot, lv_has ls 4 [(2, .int (nI q28)), (0, .ref ta), (1, .ref aS)] → W p l e ({ frames := 4, cells := 0, slots := 0, locals := 92 }) s m ([.ref ta, .ref aS] : List Value).toArray below meth c H locs (0) (0) (MQ below (va_Qv (fun u : va_W × gT => ∃ (fc2 : Nat → Int32) (fp2 : Nat → Int32), u = ([(ta, .inr (7, [.ref tb, .int (nI L)])), (tb, .inl (cB, 9000, .inl ft)), (aS, .inr (6, [.ref ce, .ref pl, .int (nI (by8 ft 950)), .int (nI (by8 ft 951))])), (ce, .inl (cI, 2048, .inl fc2)), (pl, .inl (cI, 128, .inl fp2))], []) ∧ filR 2048 (256 * npF ft) (fun jj => clF ft (1084 + 4 * jj)) fc2 ∧ filR 128 (by8 ft 950) (fun jj => nI (by8 ft (952 + jj))) fp2) (gB (dC, dI) A) A) ([.ref ta, .ref aS] : List Value).toArray s 0 0 A) (F0 m 28 ls []) := by
    intro fu28
    induction fu28 with
    | zero => intro q28 fp1 hq28 hfp1 hm28; exact absurd hm28 (Nat.not_lt_zero _)
    | succ fu28 ih28 =>
      intro q28 fp1 hq28 hfp1 hm28 H locs hP hD hS ls hl
      refine lv_iload_n hx hb dX4_readSong_28 rfl (lv_at hl 0 rfl) ?_
      refine lv_aload_n hx hb dX4_readSong_29 rfl (lv_at hl 2 rfl) ?_
      refine va_get (D := (dC, dI)) (ci := 6) (v := .int (nI (by8 ft 950))) (C := RX6) (T := TX6) (N := 4) hx hb hts iwX6 hown hK hP 0 rfl rfl 2 (by decide) (hts (.fieldLink RX4 85 "ModulePlayer$Score" "length" "I") (List.mem_cons_of_mem _ kw_336)) (fun _ h9 => h9) rfl dX4_readSong_30 ?_
      refine lv_icmp_ge (tgt := 64) hx hb dX4_readSong_33 (by decide) (fun c_33 => ?_) (fun c_33 => ?_)
      · have hqe : q28 = by8 ft 950 := by have := nI_le' c_33 (by omega) (by omega); omega
        rw [hqe] at hfp1
        refine lv_aload_n hx hb dX4_readSong_64 rfl (lv_at hl 2 rfl) ?_
        refine g_calli (wr := [(ce, .inl (cI, 2048, .inl fc2_1)), (ta, .inr (7, [.ref tb, .int (nI L)])), (tb, .inl (cB, 9000, .inl ft))]) (va_runV (As := []) (rest := []) ⟨hx, hb, hml, hown, hts⟩ (x_count l dC dI H.size aS ce pl (nI (by8 ft 951)) fp1 cI (by8 ft 950) (fun jj => by8 ft (952 + jj)) (hb1) (hb2) (fun jj hj => (hfp1 jj (by omega)).trans (if_pos hj)) (fun jj _ => by8_lt ft _)) (cwV 0 hts (gG_V kw_346 kw_347 kw_348 kw_26 kw_349) rfl rfl rfl (by decide +kernel) ⟨Nat.le_of_ble_eq_true rfl, Nat.le_of_ble_eq_true rfl⟩) (g_preV (C := RX6) (T := TX6) (N := 4) hP hD hK hS hA hN hZ (q0 := 0) rfl rfl [0, 2] (by decide +kernel) rfl [1] rfl) rfl rfl hl.1 rfl (lv_room (Nat.le_of_ble_eq_true rfl)) dX4_readSong_65 ⟨Nat.le_of_ble_eq_true rfl, Nat.le_of_ble_eq_true rfl⟩) hP hD hK hS hA [0, 2] [1, 3, 4] rfl rfl (by decide +kernel) (by decide +kernel) (fun r_65 w ty1 H locs hw_65 hP hD _ hS => ?_)
        rcases hw_65 with ⟨hu, hr_65⟩
        cases hu
        have hP : va_P (dC, dI) vwCl [(ce, .inl (cI, 2048, .inl fc2_1)), (ta, .inr (7, [.ref tb, .int (nI L)])), (tb, .inl (cB, 9000, .inl ft)), (aS, .inr (6, [.ref ce, .ref pl, .int (nI (by8 ft 950)), .int (nI (by8 ft 951))])), (pl, .inl (cI, 128, .inl fp1))] H := hP
        have hD : va_D A [(ce, .inl (cI, 2048, .inl fc2_1)), (ta, .inr (7, [.ref tb, .int (nI L)])), (tb, .inl (cB, 9000, .inl ft)), (aS, .inr (6, [.ref ce, .ref pl, .int (nI (by8 ft 950)), .int (nI (by8 ft 951))])), (pl, .inl (cI, 128, .inl fp1))] := hD
        refine g_topi (y := nI (pmN (fun jj => by8 ft (952 + jj)) (by8 ft 950))) hr_65 ?_
        refine g_topi (y := nI (npF ft)) (up_e (pmN_F ft _)) ?_
        refine lv_istore_n (lv' := [(2, .int (nI (npF ft))), (0, .ref ta), (1, .ref aS)]) hx hb dX4_readSong_68 rfl hl (by decide) rfl (fun ls hl => ?_)
        refine lv_iconst (v := 0) hx hb dX4_readSong_69 (by decide) ?_
        refine lv_istore_n (lv' := [(3, .int 0), (2, .int (nI (npF ft))), (0, .ref ta), (1, .ref aS)]) hx hb dX4_readSong_70 rfl hl (by decide) rfl (fun ls hl => ?_)
        have LP71 : ∀ (fu71 : Nat) (q71 : Nat) (fc1 : Nat → Int32) (hq71 : q71 ≤ npF ft) (hfc1 : filR 2048 (256 * q71) (fun jj => clF ft (1084 + 4 * jj)) fc1) (hm71 : npF ft - q71 < fu71) (H : Heap) (locs : List Loc), va_P (dC, dI) vwCl [(ce, .inl (cI, 2048, .inl fc1)), (ta, .inr (7, [.ref tb, .int (nI L)])), (tb, .inl (cB, 9000, .inl ft)), (aS, .inr (6, [.ref ce, .ref pl, .int (nI (by8 ft 950)), .int (nI (by8 ft 951))])), (pl, .inl (cI, 128, .inl fp1))] H → va_D A [(ce, .inl (cI, 2048, .inl fc1)), (ta, .inr (7, [.ref tb, .int (nI L)])), (tb, .inl (cB, 9000, .inl ft)), (aS, .inr (6, [.ref ce, .ref pl, .int (nI (by8 ft 950)), .int (nI (by8 ft 951))])), (pl, .inl (cI, 128, .inl fp1))] → va_S A s.heap H locs → ∀ ls : Array Slot, lv_has ls 4 [(3, .int (nI q71)), (2, .int (nI (npF ft))), (0, .ref ta), (1, .ref aS)] → W p l e ({ frames := 4, cells := 0, slots := 0, locals := 92 }) s m ([.ref ta, .ref aS] : List Value).toArray below meth c H locs (0) (0) (MQ below (va_Qv (fun u : va_W × gT => ∃ (fc2 : Nat → Int32) (fp2 : Nat → Int32), u = ([(ta, .inr (7, [.ref tb, .int (nI L)])), (tb, .inl (cB, 9000, .inl ft)), (aS, .inr (6, [.ref ce, .ref pl, .int (nI (by8 ft 950)), .int (nI (by8 ft 951))])), (ce, .inl (cI, 2048, .inl fc2)), (pl, .inl (cI, 128, .inl fp2))], []) ∧ filR 2048 (256 * npF ft) (fun jj => clF ft (1084 + 4 * jj)) fc2 ∧ filR 128 (by8 ft 950) (fun jj => nI (by8 ft (952 + jj))) fp2) (gB (dC, dI) A) A) ([.ref ta, .ref aS] : List Value).toArray s 0 0 A) (F0 m 71 ls []) := by
          intro fu71
          induction fu71 with
          | zero => intro q71 fc1 hq71 hfc1 hm71; exact absurd hm71 (Nat.not_lt_zero _)
          | succ fu71 ih71 =>
            intro q71 fc1 hq71 hfc1 hm71 H locs hP hD hS ls hl
            refine lv_iload_n hx hb dX4_readSong_71 rfl (lv_at hl 0 rfl) ?_
            refine lv_iload_n hx hb dX4_readSong_72 rfl (lv_at hl 1 rfl) ?_
            refine lv_icmp_ge (tgt := 88) hx hb dX4_readSong_73 (by decide) (fun c_73 => ?_) (fun c_73 => ?_)
            · have hP9 := hP.sub (ws' := [(ta, .inr (7, [.ref tb, .int (nI L)])), (tb, .inl (cB, 9000, .inl ft)), (aS, .inr (6, [.ref ce, .ref pl, .int (nI (by8 ft 950)), .int (nI (by8 ft 951))])), (ce, .inl (cI, 2048, .inl fc1)), (pl, .inl (cI, 128, .inl fp1))]) [1, 2, 3, 0, 4] rfl
              have hD9 := hD.sub (ws' := [(ta, .inr (7, [.ref tb, .int (nI L)])), (tb, .inl (cB, 9000, .inl ft)), (aS, .inr (6, [.ref ce, .ref pl, .int (nI (by8 ft 950)), .int (nI (by8 ft 951))])), (ce, .inl (cI, 2048, .inl fc1)), (pl, .inl (cI, 128, .inl fp1))]) [1, 2, 3, 0, 4] (by decide +kernel) rfl
              have hK9 := hK.sub (tys' := []) [] rfl
              exact W.vret hx hb hr (fun t ht hW => ⟨⟨_, rfl, ⟨fc1, fp1, rfl, (fil_j hfc1 (show 256 * q71 = 256 * npF ft by have := nI_le' c_73 (by omega) (by omega); omega)), hfp1⟩, by rw [ht]; exact hP9, va_K.moved hW.alike hK9, hD9⟩, hS.F ht⟩) hS.2.2 dX4_readSong_88
            refine lv_aload_n hx hb dX4_readSong_76 rfl (lv_at hl 2 rfl) ?_
            refine lv_aload_n hx hb dX4_readSong_77 rfl (lv_at hl 3 rfl) ?_
            refine lv_iload_n hx hb dX4_readSong_78 rfl (lv_at hl 0 rfl) ?_
            refine g_callv (wr := [(pl, .inl (cI, 128, .inl fp1))]) (va_runS (As := [.ref ta, .ref aS, .int (nI q71)]) (rest := []) ⟨hx, hb, hml, hown, hts⟩ (x_readPattern l dC dI H.size ta tb cB ft L aS ce pl (nI (by8 ft 950)) (nI (by8 ft 951)) fc1 cI q71 (hL) (by have := nI_nle' c_73 (by omega); omega) (by have := nI_nle' c_73 (by omega); omega) (hfc1)) (va_cwS 3 hts (gG_S kw_351 kw_352 kw_30 kw_353) rfl rfl rfl (by decide +kernel) ⟨Nat.le_of_ble_eq_true rfl, Nat.le_of_ble_eq_true rfl⟩) (g_preS hP hD hK hS hA hN hZ [1, 2, 3, 0] (by decide +kernel) rfl [0, 1] rfl) rfl rfl hl.1 rfl (lv_room (Nat.le_of_ble_eq_true rfl)) dX4_readSong_79 ⟨Nat.le_of_ble_eq_true rfl, Nat.le_of_ble_eq_true rfl⟩) hP hD hK hS hA [1, 2, 3, 0] [4] rfl rfl (by decide +kernel) (by decide +kernel) (fun w ty1 H locs hw_79 hP hD _ hS => ?_)
            rcases hw_79 with ⟨fc2_79, hu, hfil2_79⟩
            cases hu
            have hP : va_P (dC, dI) vwCl [(pl, .inl (cI, 128, .inl fp1)), (ta, .inr (7, [.ref tb, .int (nI L)])), (tb, .inl (cB, 9000, .inl ft)), (aS, .inr (6, [.ref ce, .ref pl, .int (nI (by8 ft 950)), .int (nI (by8 ft 951))])), (ce, .inl (cI, 2048, .inl fc2_79))] H := hP
            have hD : va_D A [(pl, .inl (cI, 128, .inl fp1)), (ta, .inr (7, [.ref tb, .int (nI L)])), (tb, .inl (cB, 9000, .inl ft)), (aS, .inr (6, [.ref ce, .ref pl, .int (nI (by8 ft 950)), .int (nI (by8 ft 951))])), (ce, .inl (cI, 2048, .inl fc2_79))] := hD
            refine lv_iinc (v := nI (q71 + 1)) (lv' := [(3, .int (nI (q71 + 1))), (2, .int (nI (npF ft))), (0, .ref ta), (1, .ref aS)]) hx hb dX4_readSong_82 hl (k := 0) rfl (nI_1 q71) (by decide) rfl (fun ls hl => ?_)
            refine lv_goto (tgt := 71) hx hb dX4_readSong_85 (by decide) ?_
            exact ih71 (q71 + 1) fc2_79 (by have := nI_nle' c_73 (by omega); omega) (hfil2_79) (by have := nI_nle' c_73 (by omega); omega) _ _ (hP.sub [4, 1, 2, 3, 0] rfl) (hD.sub [4, 1, 2, 3, 0] (by decide +kernel) rfl) hS _ (lv_sub hl [0, 1, 2, 3] rfl)
        exact LP71 _ 0 fc2_1 (Nat.zero_le _) (fil_0 hz1_1) (Nat.lt_succ_self _) _ _ hP hD hS _ (lv_sub hl [0, 1, 2, 3] rfl)
      refine lv_iload_n hx hb dX4_readSong_36 rfl (lv_at hl 0 rfl) ?_
      refine lv_sipush (v := 128) hx hb dX4_readSong_37 (by decide) ?_
      refine lv_icmp_ge (tgt := 64) hx hb dX4_readSong_40 (by decide) (fun c_40 => ?_) (fun c_40 => ?_)
      · have hqe : q28 = by8 ft 950 := by have := nI_le' (a := 128) c_40 (by decide) (by omega); omega
        rw [hqe] at hfp1
        refine lv_aload_n hx hb dX4_readSong_64 rfl (lv_at hl 2 rfl) ?_
        refine g_calli (wr := [(ce, .inl (cI, 2048, .inl fc2_1)), (ta, .inr (7, [.ref tb, .int (nI L)])), (tb, .inl (cB, 9000, .inl ft))]) (va_runV (As := []) (rest := []) ⟨hx, hb, hml, hown, hts⟩ (x_count l dC dI H.size aS ce pl (nI (by8 ft 951)) fp1 cI (by8 ft 950) (fun jj => by8 ft (952 + jj)) (hb1) (hb2) (fun jj hj => (hfp1 jj (by omega)).trans (if_pos hj)) (fun jj _ => by8_lt ft _)) (cwV 0 hts (gG_V kw_346 kw_347 kw_348 kw_26 kw_349) rfl rfl rfl (by decide +kernel) ⟨Nat.le_of_ble_eq_true rfl, Nat.le_of_ble_eq_true rfl⟩) (g_preV (C := RX6) (T := TX6) (N := 4) hP hD hK hS hA hN hZ (q0 := 0) rfl rfl [0, 2] (by decide +kernel) rfl [1] rfl) rfl rfl hl.1 rfl (lv_room (Nat.le_of_ble_eq_true rfl)) dX4_readSong_65 ⟨Nat.le_of_ble_eq_true rfl, Nat.le_of_ble_eq_true rfl⟩) hP hD hK hS hA [0, 2] [1, 3, 4] rfl rfl (by decide +kernel) (by decide +kernel) (fun r_65 w ty1 H locs hw_65 hP hD _ hS => ?_)
        rcases hw_65 with ⟨hu, hr_65⟩
        cases hu
        have hP : va_P (dC, dI) vwCl [(ce, .inl (cI, 2048, .inl fc2_1)), (ta, .inr (7, [.ref tb, .int (nI L)])), (tb, .inl (cB, 9000, .inl ft)), (aS, .inr (6, [.ref ce, .ref pl, .int (nI (by8 ft 950)), .int (nI (by8 ft 951))])), (pl, .inl (cI, 128, .inl fp1))] H := hP
        have hD : va_D A [(ce, .inl (cI, 2048, .inl fc2_1)), (ta, .inr (7, [.ref tb, .int (nI L)])), (tb, .inl (cB, 9000, .inl ft)), (aS, .inr (6, [.ref ce, .ref pl, .int (nI (by8 ft 950)), .int (nI (by8 ft 951))])), (pl, .inl (cI, 128, .inl fp1))] := hD
        refine g_topi (y := nI (pmN (fun jj => by8 ft (952 + jj)) (by8 ft 950))) hr_65 ?_
        refine g_topi (y := nI (npF ft)) (up_e (pmN_F ft _)) ?_
        refine lv_istore_n (lv' := [(2, .int (nI (npF ft))), (0, .ref ta), (1, .ref aS)]) hx hb dX4_readSong_68 rfl hl (by decide) rfl (fun ls hl => ?_)
        refine lv_iconst (v := 0) hx hb dX4_readSong_69 (by decide) ?_
        refine lv_istore_n (lv' := [(3, .int 0), (2, .int (nI (npF ft))), (0, .ref ta), (1, .ref aS)]) hx hb dX4_readSong_70 rfl hl (by decide) rfl (fun ls hl => ?_)
        have LP71 : ∀ (fu71 : Nat) (q71 : Nat) (fc1 : Nat → Int32) (hq71 : q71 ≤ npF ft) (hfc1 : filR 2048 (256 * q71) (fun jj => clF ft (1084 + 4 * jj)) fc1) (hm71 : npF ft - q71 < fu71) (H : Heap) (locs : List Loc), va_P (dC, dI) vwCl [(ce, .inl (cI, 2048, .inl fc1)), (ta, .inr (7, [.ref tb, .int (nI L)])), (tb, .inl (cB, 9000, .inl ft)), (aS, .inr (6, [.ref ce, .ref pl, .int (nI (by8 ft 950)), .int (nI (by8 ft 951))])), (pl, .inl (cI, 128, .inl fp1))] H → va_D A [(ce, .inl (cI, 2048, .inl fc1)), (ta, .inr (7, [.ref tb, .int (nI L)])), (tb, .inl (cB, 9000, .inl ft)), (aS, .inr (6, [.ref ce, .ref pl, .int (nI (by8 ft 950)), .int (nI (by8 ft 951))])), (pl, .inl (cI, 128, .inl fp1))] → va_S A s.heap H locs → ∀ ls : Array Slot, lv_has ls 4 [(3, .int (nI q71)), (2, .int (nI (npF ft))), (0, .ref ta), (1, .ref aS)] → W p l e ({ frames := 4, cells := 0, slots := 0, locals := 92 }) s m ([.ref ta, .ref aS] : List Value).toArray below meth c H locs (0) (0) (MQ below (va_Qv (fun u : va_W × gT => ∃ (fc2 : Nat → Int32) (fp2 : Nat → Int32), u = ([(ta, .inr (7, [.ref tb, .int (nI L)])), (tb, .inl (cB, 9000, .inl ft)), (aS, .inr (6, [.ref ce, .ref pl, .int (nI (by8 ft 950)), .int (nI (by8 ft 951))])), (ce, .inl (cI, 2048, .inl fc2)), (pl, .inl (cI, 128, .inl fp2))], []) ∧ filR 2048 (256 * npF ft) (fun jj => clF ft (1084 + 4 * jj)) fc2 ∧ filR 128 (by8 ft 950) (fun jj => nI (by8 ft (952 + jj))) fp2) (gB (dC, dI) A) A) ([.ref ta, .ref aS] : List Value).toArray s 0 0 A) (F0 m 71 ls []) := by
          intro fu71
          induction fu71 with
          | zero => intro q71 fc1 hq71 hfc1 hm71; exact absurd hm71 (Nat.not_lt_zero _)
          | succ fu71 ih71 =>
            intro q71 fc1 hq71 hfc1 hm71 H locs hP hD hS ls hl
            refine lv_iload_n hx hb dX4_readSong_71 rfl (lv_at hl 0 rfl) ?_
            refine lv_iload_n hx hb dX4_readSong_72 rfl (lv_at hl 1 rfl) ?_
            refine lv_icmp_ge (tgt := 88) hx hb dX4_readSong_73 (by decide) (fun c_73 => ?_) (fun c_73 => ?_)
            · have hP9 := hP.sub (ws' := [(ta, .inr (7, [.ref tb, .int (nI L)])), (tb, .inl (cB, 9000, .inl ft)), (aS, .inr (6, [.ref ce, .ref pl, .int (nI (by8 ft 950)), .int (nI (by8 ft 951))])), (ce, .inl (cI, 2048, .inl fc1)), (pl, .inl (cI, 128, .inl fp1))]) [1, 2, 3, 0, 4] rfl
              have hD9 := hD.sub (ws' := [(ta, .inr (7, [.ref tb, .int (nI L)])), (tb, .inl (cB, 9000, .inl ft)), (aS, .inr (6, [.ref ce, .ref pl, .int (nI (by8 ft 950)), .int (nI (by8 ft 951))])), (ce, .inl (cI, 2048, .inl fc1)), (pl, .inl (cI, 128, .inl fp1))]) [1, 2, 3, 0, 4] (by decide +kernel) rfl
              have hK9 := hK.sub (tys' := []) [] rfl
              exact W.vret hx hb hr (fun t ht hW => ⟨⟨_, rfl, ⟨fc1, fp1, rfl, (fil_j hfc1 (show 256 * q71 = 256 * npF ft by have := nI_le' c_73 (by omega) (by omega); omega)), hfp1⟩, by rw [ht]; exact hP9, va_K.moved hW.alike hK9, hD9⟩, hS.F ht⟩) hS.2.2 dX4_readSong_88
            refine lv_aload_n hx hb dX4_readSong_76 rfl (lv_at hl 2 rfl) ?_
            refine lv_aload_n hx hb dX4_readSong_77 rfl (lv_at hl 3 rfl) ?_
            refine lv_iload_n hx hb dX4_readSong_78 rfl (lv_at hl 0 rfl) ?_
            refine g_callv (wr := [(pl, .inl (cI, 128, .inl fp1))]) (va_runS (As := [.ref ta, .ref aS, .int (nI q71)]) (rest := []) ⟨hx, hb, hml, hown, hts⟩ (x_readPattern l dC dI H.size ta tb cB ft L aS ce pl (nI (by8 ft 950)) (nI (by8 ft 951)) fc1 cI q71 (hL) (by have := nI_nle' c_73 (by omega); omega) (by have := nI_nle' c_73 (by omega); omega) (hfc1)) (va_cwS 3 hts (gG_S kw_351 kw_352 kw_30 kw_353) rfl rfl rfl (by decide +kernel) ⟨Nat.le_of_ble_eq_true rfl, Nat.le_of_ble_eq_true rfl⟩) (g_preS hP hD hK hS hA hN hZ [1, 2, 3, 0] (by decide +kernel) rfl [0, 1] rfl) rfl rfl hl.1 rfl (lv_room (Nat.le_of_ble_eq_true rfl)) dX4_readSong_79 ⟨Nat.le_of_ble_eq_true rfl, Nat.le_of_ble_eq_true rfl⟩) hP hD hK hS hA [1, 2, 3, 0] [4] rfl rfl (by decide +kernel) (by decide +kernel) (fun w ty1 H locs hw_79 hP hD _ hS => ?_)
            rcases hw_79 with ⟨fc2_79, hu, hfil2_79⟩
            cases hu
            have hP : va_P (dC, dI) vwCl [(pl, .inl (cI, 128, .inl fp1)), (ta, .inr (7, [.ref tb, .int (nI L)])), (tb, .inl (cB, 9000, .inl ft)), (aS, .inr (6, [.ref ce, .ref pl, .int (nI (by8 ft 950)), .int (nI (by8 ft 951))])), (ce, .inl (cI, 2048, .inl fc2_79))] H := hP
            have hD : va_D A [(pl, .inl (cI, 128, .inl fp1)), (ta, .inr (7, [.ref tb, .int (nI L)])), (tb, .inl (cB, 9000, .inl ft)), (aS, .inr (6, [.ref ce, .ref pl, .int (nI (by8 ft 950)), .int (nI (by8 ft 951))])), (ce, .inl (cI, 2048, .inl fc2_79))] := hD
            refine lv_iinc (v := nI (q71 + 1)) (lv' := [(3, .int (nI (q71 + 1))), (2, .int (nI (npF ft))), (0, .ref ta), (1, .ref aS)]) hx hb dX4_readSong_82 hl (k := 0) rfl (nI_1 q71) (by decide) rfl (fun ls hl => ?_)
            refine lv_goto (tgt := 71) hx hb dX4_readSong_85 (by decide) ?_
            exact ih71 (q71 + 1) fc2_79 (by have := nI_nle' c_73 (by omega); omega) (hfil2_79) (by have := nI_nle' c_73 (by omega); omega) _ _ (hP.sub [4, 1, 2, 3, 0] rfl) (hD.sub [4, 1, 2, 3, 0] (by decide +kernel) rfl) hS _ (lv_sub hl [0, 1, 2, 3] rfl)
        exact LP71 _ 0 fc2_1 (Nat.zero_le _) (fil_0 hz1_1) (Nat.lt_succ_self _) _ _ hP hD hS _ (lv_sub hl [0, 1, 2, 3] rfl)
      have hq3 : q28 < by8 ft 950 := nI_nle' c_33 (by omega)
      refine lv_aload_n hx hb dX4_readSong_43 rfl (lv_at hl 2 rfl) ?_
      refine va_get (D := (dC, dI)) (ci := 6) (v := .ref pl) (C := RX6) (T := TX6) (N := 4) hx hb hts iwX6 hown hK hP 0 rfl rfl 1 (by decide) (hts (.fieldLink RX4 89 "ModulePlayer$Score" "places" "[I") (List.mem_cons_of_mem _ kw_338)) (fun _ h9 => h9) rfl dX4_readSong_44 ?_
      refine lv_iload_n hx hb dX4_readSong_47 rfl (lv_at hl 0 rfl) ?_
      refine lv_aload_n hx hb dX4_readSong_48 rfl (lv_at hl 1 rfl) ?_
      refine lv_sipush (v := 952) hx hb dX4_readSong_49 (by decide) ?_
      refine lv_iload_n hx hb dX4_readSong_52 rfl (lv_at hl 0 rfl) ?_
      refine lv_iadd hx hb dX4_readSong_53 ?_
      refine g_topi (y := nI (952 + q28)) (nI_add 952 _) ?_
      refine g_calli (wr := [(aS, .inr (6, [.ref ce, .ref pl, .int (nI (by8 ft 950)), .int (nI (by8 ft 951))])), (ce, .inl (cI, 2048, .inl fc2_1)), (pl, .inl (cI, 128, .inl fp1))]) (va_runV (As := [.int (nI (952 + q28))]) (rest := [.int (nI q28), .ref pl]) ⟨hx, hb, hml, hown, hts⟩ (x_at l dC dI H.size ta tb cB ft L (952 + q28) (hL) (by omega)) (cwV 1 hts (gG_V kw_295 kw_296 kw_297 kw_18 kw_298) rfl rfl rfl (by decide +kernel) ⟨Nat.le_of_ble_eq_true rfl, Nat.le_of_ble_eq_true rfl⟩) (g_preV (C := RX7) (T := TX7) (N := 2) hP hD hK hS hA hN hZ (q0 := 3) rfl rfl [3, 4] (by decide +kernel) rfl [0] rfl) rfl rfl hl.1 rfl (lv_room (Nat.le_of_ble_eq_true rfl)) dX4_readSong_54 ⟨Nat.le_of_ble_eq_true rfl, Nat.le_of_ble_eq_true rfl⟩) hP hD hK hS hA [3, 4] [0, 1, 2] rfl rfl (by decide +kernel) (by decide +kernel) (fun r_54 w ty1 H locs hw_54 hP hD _ hS => ?_)
      rcases hw_54 with ⟨hu, hr_54⟩
      cases hu
      have hP : va_P (dC, dI) vwCl [(aS, .inr (6, [.ref ce, .ref pl, .int (nI (by8 ft 950)), .int (nI (by8 ft 951))])), (ce, .inl (cI, 2048, .inl fc2_1)), (pl, .inl (cI, 128, .inl fp1)), (ta, .inr (7, [.ref tb, .int (nI L)])), (tb, .inl (cB, 9000, .inl ft))] H := hP
      have hD : va_D A [(aS, .inr (6, [.ref ce, .ref pl, .int (nI (by8 ft 950)), .int (nI (by8 ft 951))])), (ce, .inl (cI, 2048, .inl fc2_1)), (pl, .inl (cI, 128, .inl fp1)), (ta, .inr (7, [.ref tb, .int (nI L)])), (tb, .inl (cB, 9000, .inl ft))] := hD
      refine g_topi (y := nI (by8 ft (952 + q28))) hr_54 ?_
      refine g_iast hx hb hK hP hD hS 2 1 rfl rfl q28 (nI_clamp (Nat.lt_trans (show q28 < 128 from by omega) (by decide))) (vp_in_nI (by omega) (by decide)) dX4_readSong_57 (fun H locs hP hD hS => ?_)
      have hP : va_P (dC, dI) vwCl [(aS, .inr (6, [.ref ce, .ref pl, .int (nI (by8 ft 950)), .int (nI (by8 ft 951))])), (ce, .inl (cI, 2048, .inl fc2_1)), (pl, .inl (cI, 128, .inl (upd fp1 q28 (nI (by8 ft (952 + q28)))))), (ta, .inr (7, [.ref tb, .int (nI L)])), (tb, .inl (cB, 9000, .inl ft))] H := hP
      have hD : va_D A [(aS, .inr (6, [.ref ce, .ref pl, .int (nI (by8 ft 950)), .int (nI (by8 ft 951))])), (ce, .inl (cI, 2048, .inl fc2_1)), (pl, .inl (cI, 128, .inl (upd fp1 q28 (nI (by8 ft (952 + q28)))))), (ta, .inr (7, [.ref tb, .int (nI L)])), (tb, .inl (cB, 9000, .inl ft))] := hD
      refine lv_iinc (v := nI (q28 + 1)) (lv' := [(2, .int (nI (q28 + 1))), (0, .ref ta), (1, .ref aS)]) hx hb dX4_readSong_58 hl (k := 0) rfl (nI_1 q28) (by decide) rfl (fun ls hl => ?_)
      refine lv_goto (tgt := 28) hx hb dX4_readSong_61 (by decide) ?_
      exact ih28 (q28 + 1) (upd fp1 q28 (nI (by8 ft (952 + q28)))) (by omega) (fil_s hfp1 rfl) (by omega) _ _ hP hD hS _ (lv_sub hl [0, 1, 2] rfl)
  exact LP28 _ 0 fp2_1 (Nat.zero_le _) (fil_0 hz2_1) (Nat.lt_succ_self _) _ _ hP hD hS _ (lv_sub hl [0, 1, 2] rfl)

set_option maxHeartbeats 400000 in
set_option maxRecDepth 100000 in
theorem x_readSamples (l : Launch) (dC : Nat → ClassId) (dI : Nat → Nat → Nat) (sz : Nat) (ta tb : Nat) (cB : ClassId) (ft : Nat → Int32) (L : Nat) (aB sa bb : Nat) (us : Int32) (ad : Nat → Nat) (cS : ClassId) (g : Nat → Option Nat) (f : Nat → Int32) (le tu vo sr lo fr : Nat → Int32) (kz : Nat) (hL : L ≤ 9000) (hg : ∀ x, x < 32 → g x = some (ad x)) (hfit : sb_Fit f) (hL8 : 1084 ≤ L) (hs0 : hsF ft 31 1 0 = 0) (hkz : kz + sumTo (l2 ft) 32 ≤ L) (hb8 : b8T L ft) : Met l yX4_readSamples (wsG (.code yX4_readSamples cX4_readSamples 10 none)) ({ frames := 4, cells := 0, slots := 0, locals := 93 }) (va_Pc [.ref ta, .ref aB, .int (nI kz)] (gP (dC, dI) [(cB, .byte), (cS, .object RX5)] (([(ta, .inr (7, [.ref tb, .int (nI L)])), (tb, .inl (cB, 9000, .inl ft)), (aB, .inr (0, [.ref sa, .ref bb, .int us])), (sa, .inl (cS, 32, .inr (.inr (.inr (.inr g))))), (bb, .inl (cB, 4000, .inl f))] : va_W) ++ famN 32 ad le tu vo sr lo fr) sz)) (va_Qv (fun u : va_W × gT => ∃ (us2 : Int32) (f2 : Nat → Int32) (le2 : Nat → Int32) (tu2 : Nat → Int32) (vo2 : Nat → Int32) (sr2 : Nat → Int32) (lo2 : Nat → Int32) (fr2 : Nat → Int32), u = ((([(ta, .inr (7, [.ref tb, .int (nI L)])), (tb, .inl (cB, 9000, .inl ft)), (aB, .inr (0, [.ref sa, .ref bb, .int us2])), (sa, .inl (cS, 32, .inr (.inr (.inr (.inr g))))), (bb, .inl (cB, 4000, .inl f2))] : va_W) ++ famN 32 ad le2 tu2 vo2 sr2 lo2 fr2), []) ∧ bankOk (l2 ft) le2 fr2 us2 ∧ sb_Fit f2 ∧ (∀ jj, jj < sumTo (l2 ft) 32 → f2 jj = ft (kz + jj)) ∧ (∀ ss, 1 ≤ ss → ss < 32 → smF ft ss tu2 vo2 sr2 lo2)) (gB (dC, dI) (va_A (([(ta, .inr (7, [.ref tb, .int (nI L)])), (tb, .inl (cB, 9000, .inl ft)), (aB, .inr (0, [.ref sa, .ref bb, .int us])), (sa, .inl (cS, 32, .inr (.inr (.inr (.inr g))))), (bb, .inl (cB, 4000, .inl f))] : va_W) ++ famN 32 ad le tu vo sr lo fr) sz)) (va_A (([(ta, .inr (7, [.ref tb, .int (nI L)])), (tb, .inl (cB, 9000, .inl ft)), (aB, .inr (0, [.ref sa, .ref bb, .int us])), (sa, .inl (cS, 32, .inr (.inr (.inr (.inr g))))), (bb, .inl (cB, 4000, .inl f))] : va_W) ++ famN 32 ad le tu vo sr lo fr) sz)) 0 0 (va_A (([(ta, .inr (7, [.ref tb, .int (nI L)])), (tb, .inl (cB, 9000, .inl ft)), (aB, .inr (0, [.ref sa, .ref bb, .int us])), (sa, .inl (cS, 32, .inr (.inr (.inr (.inr g))))), (bb, .inl (cB, 4000, .inl f))] : va_W) ++ famN 32 ad le tu vo sr lo fr) sz) := by
  refine Met.ofW (cc := cX4_readSamples) (maxL := 10) (ret := none) (by decide) rfl ?_
  intro p e s m args below meth c s₁ B hml hv
  obtain ⟨rfl, hsz, hP, hK, hD0, hN, hZ⟩ := hv
  have hx := B.exec
  have hb := B.bytes
  have hr := B.returns
  have hts := atoms_spec (ws := (wsG (.code yX4_readSamples cX4_readSamples 10 none))) B.pre
  have hown : s.vm.findClass RX4 = some m.cls := findClass_of_methodNamed B.named
  have hlocks := B.notSynchronized
  subst hsz
  have hD := hD0.self (sz := s.heap.size)
  generalize hAe : va_A (([(ta, .inr (7, [.ref tb, .int (nI L)])), (tb, .inl (cB, 9000, .inl ft)), (aB, .inr (0, [.ref sa, .ref bb, .int us])), (sa, .inl (cS, 32, .inr (.inr (.inr (.inr g))))), (bb, .inl (cB, 4000, .inl f))] : va_W) ++ famN 32 ad le tu vo sr lo fr) s.heap.size = A at hD hZ ⊢
  have hA : ∀ q : Nat, s.heap.size ≤ q → A q := fun q h => by rw [← hAe]; exact Or.inr h
  have hl := lv_entry ([.ref ta, .ref aB, .int (nI kz)]) (n := 10) (Nat.le_of_ble_eq_true rfl)
  rw [lg_entry_eq]
  generalize (lg_sl ([.ref ta, .ref aB, .int (nI kz)]) ++ List.replicate (10 - (lg_sl ([.ref ta, .ref aB, .int (nI kz)])).length) Slot.unset).toArray = ls at hl ⊢
  have hl : lv_has ls 10 [(0, .ref ta), (1, .ref aB), (2, .int (nI kz))] := hl
  refine g_start (A := A) hP (fun H locs hP hS => ?_)
  have h4k : sumTo (l2 ft) 32 ≤ 4000 := hsF_sum 31 1 0 hs0 (by decide) rfl (by decide)
  refine lv_aload_n hx hb dX4_readSamples_0 rfl (lv_at hl 1 rfl) ?_
  refine g_callvP (X := [(ta, .inr (7, [.ref tb, .int (nI L)])), (tb, .inl (cB, 9000, .inl ft)), (aB, .inr (0, [.ref sa, .ref bb, .int us])), (sa, .inl (cS, 32, .inr (.inr (.inr (.inr g))))), (bb, .inl (cB, 4000, .inl f))]) (wr := [(ta, .inr (7, [.ref tb, .int (nI L)])), (tb, .inl (cB, 9000, .inl ft)), (bb, .inl (cB, 4000, .inl f))]) (va_runV (As := []) (rest := []) ⟨hx, hb, hml, hown, hts⟩ (k_bclear l dC dI H.size aB sa bb us ad cS g le tu vo sr lo fr (hg)) (cwV 0 hts (gG_V kw_377 kw_378 kw_379 kw_22 kw_380) rfl rfl rfl (by decide +kernel) ⟨Nat.le_of_ble_eq_true rfl, Nat.le_of_ble_eq_true rfl⟩) (g_preVP (X := [(ta, .inr (7, [.ref tb, .int (nI L)])), (tb, .inl (cB, 9000, .inl ft)), (aB, .inr (0, [.ref sa, .ref bb, .int us])), (sa, .inl (cS, 32, .inr (.inr (.inr (.inr g))))), (bb, .inl (cB, 4000, .inl f))]) (C := RX0) (T := TX0) (N := 3) hP hD hK hS hA hN hZ (q0 := 2) rfl rfl [2, 3] (by decide +kernel) rfl [1] rfl) rfl rfl hl.1 rfl (lv_room (Nat.le_of_ble_eq_true rfl)) dX4_readSamples_1 ⟨Nat.le_of_ble_eq_true rfl, Nat.le_of_ble_eq_true rfl⟩) hP hD hK hS hA [2, 3] [0, 1, 4] rfl rfl (by decide +kernel) (by decide +kernel) (fun w ty1 H locs hw_1 hJ _ hS => ?_)
  rcases hw_1 with ⟨le2_1, fr2_1, hu, hB2_1⟩
  cases hu
  obtain ⟨hP, hD⟩ := hJ _ _ rfl
  have hP : va_P (dC, dI) vwCl (([(ta, .inr (7, [.ref tb, .int (nI L)])), (tb, .inl (cB, 9000, .inl ft)), (bb, .inl (cB, 4000, .inl f)), (aB, .inr (0, [.ref sa, .ref bb, .int 0])), (sa, .inl (cS, 32, .inr (.inr (.inr (.inr g)))))] : va_W) ++ famN 32 ad le2_1 tu vo sr lo fr2_1) H := hP
  have hD : va_D A (([(ta, .inr (7, [.ref tb, .int (nI L)])), (tb, .inl (cB, 9000, .inl ft)), (bb, .inl (cB, 4000, .inl f)), (aB, .inr (0, [.ref sa, .ref bb, .int 0])), (sa, .inl (cS, 32, .inr (.inr (.inr (.inr g)))))] : va_W) ++ famN 32 ad le2_1 tu vo sr lo fr2_1) := hD
  refine lv_iload_n hx hb dX4_readSamples_4 rfl (lv_at hl 2 rfl) ?_
  refine lv_istore_n (lv' := [(3, .int (nI kz)), (0, .ref ta), (1, .ref aB), (2, .int (nI kz))]) hx hb dX4_readSamples_5 rfl hl (by decide) rfl (fun ls hl => ?_)
  refine lv_iconst (v := 1) hx hb dX4_readSamples_6 (by decide) ?_
  refine lv_istore (lv' := [(4, .int 1), (3, .int (nI kz)), (0, .ref ta), (1, .ref aB), (2, .int (nI kz))]) hx hb dX4_readSamples_7 hl (by decide) rfl (fun ls hl => ?_)
  have hP := va_P.part (X := [(ta, .inr (7, [.ref tb, .int (nI L)])), (tb, .inl (cB, 9000, .inl ft)), (bb, .inl (cB, 4000, .inl f)), (aB, .inr (0, [.ref sa, .ref bb, .int 0])), (sa, .inl (cS, 32, .inr (.inr (.inr (.inr g)))))]) (cx := [(ta, .inr (7, [.ref tb, .int (nI L)])), (tb, .inl (cB, 9000, .inl ft)), (aB, .inr (0, [.ref sa, .ref bb, .int 0])), (sa, .inl (cS, 32, .inr (.inr (.inr (.inr g))))), (bb, .inl (cB, 4000, .inl f))]) hP [0, 1, 3, 4, 2] rfl
  have hD := va_D.part (X := [(ta, .inr (7, [.ref tb, .int (nI L)])), (tb, .inl (cB, 9000, .inl ft)), (bb, .inl (cB, 4000, .inl f)), (aB, .inr (0, [.ref sa, .ref bb, .int 0])), (sa, .inl (cS, 32, .inr (.inr (.inr (.inr g)))))]) (cx := [(ta, .inr (7, [.ref tb, .int (nI L)])), (tb, .inl (cB, 9000, .inl ft)), (aB, .inr (0, [.ref sa, .ref bb, .int 0])), (sa, .inl (cS, 32, .inr (.inr (.inr (.inr g))))), (bb, .inl (cB, 4000, .inl f))]) hD [0, 1, 3, 4, 2] (by decide +kernel) rfl
  have hP : va_P (dC, dI) vwCl (([(ta, .inr (7, [.ref tb, .int (nI L)])), (tb, .inl (cB, 9000, .inl ft)), (aB, .inr (0, [.ref sa, .ref bb, .int 0])), (sa, .inl (cS, 32, .inr (.inr (.inr (.inr g))))), (bb, .inl (cB, 4000, .inl f))] : va_W) ++ famN 32 ad le2_1 tu vo sr lo fr2_1) H := hP
  have hD : va_D A (([(ta, .inr (7, [.ref tb, .int (nI L)])), (tb, .inl (cB, 9000, .inl ft)), (aB, .inr (0, [.ref sa, .ref bb, .int 0])), (sa, .inl (cS, 32, .inr (.inr (.inr (.inr g))))), (bb, .inl (cB, 4000, .inl f))] : va_W) ++ famN 32 ad le2_1 tu vo sr lo fr2_1) := hD
  have LP9 : ∀ (fu9 : Nat) (q9 : Nat) (us1 : Int32) (fb1 : Nat → Int32) (le1 : Nat → Int32) (tu1 : Nat → Int32) (vo1 : Nat → Int32) (sr1 : Nat → Int32) (lo1 : Nat → Int32) (fr1 : Nat → Int32) (nx_ : Nat) (hq9a : 1 ≤ q9) (hq9 : q9 ≤ 32) (hB1 : bankOk (lnq ft q9) le1 fr1 us1) (hf1 : sb_Fit fb1) (hbt1 : ∀ jj, jj < sumTo (l2 ft) q9 → fb1 jj = ft (kz + jj)) (hsm1 : ∀ ss, 1 ≤ ss → ss < q9 → smF ft ss tu1 vo1 sr1 lo1) (enx_ : nx_ = kz + sumTo (l2 ft) q9) (hm9 : 32 - q9 < fu9) (H : Heap) (locs : List Loc), va_P (dC, dI) vwCl (([(ta, .inr (7, [.ref tb, .int (nI L)])), (tb, .inl (cB, 9000, .inl ft)), (aB, .inr (0, [.ref sa, .ref bb, .int us1])), (sa, .inl (cS, 32, .inr (.inr (.inr (.inr g))))), (bb, .inl (cB, 4000, .inl fb1))] : va_W) ++ famN 32 ad le1 tu1 vo1 sr1 lo1 fr1) H → va_D A (([(ta, .inr (7, [.ref tb, .int (nI L)])), (tb, .inl (cB, 9000, .inl ft)), (aB, .inr (0, [.ref sa, .ref bb, .int us1])), (sa, .inl (cS, 32, .inr (.inr (.inr (.inr g))))), (bb, .inl (cB, 4000, .inl fb1))] : va_W) ++ famN 32 ad le1 tu1 vo1 sr1 lo1 fr1) → va_S A s.heap H locs → ∀ ls : Array Slot, lv_has ls 10 [(4, .int (nI q9)), (3, .int (nI nx_)), (0, .ref ta), (1, .ref aB)] → W p l e ({ frames := 4, cells := 0, slots := 0, locals := 93 }) s m ([.ref ta, .ref aB, .int (nI kz)] : List Value).toArray below meth c H locs (0) (0) (MQ below (va_Qv (fun u : va_W × gT => ∃ (us2 : Int32) (f2 : Nat → Int32) (le2 : Nat → Int32) (tu2 : Nat → Int32) (vo2 : Nat → Int32) (sr2 : Nat → Int32) (lo2 : Nat → Int32) (fr2 : Nat → Int32), u = ((([(ta, .inr (7, [.ref tb, .int (nI L)])), (tb, .inl (cB, 9000, .inl ft)), (aB, .inr (0, [.ref sa, .ref bb, .int us2])), (sa, .inl (cS, 32, .inr (.inr (.inr (.inr g))))), (bb, .inl (cB, 4000, .inl f2))] : va_W) ++ famN 32 ad le2 tu2 vo2 sr2 lo2 fr2), []) ∧ bankOk (l2 ft) le2 fr2 us2 ∧ sb_Fit f2 ∧ (∀ jj, jj < sumTo (l2 ft) 32 → f2 jj = ft (kz + jj)) ∧ (∀ ss, 1 ≤ ss → ss < 32 → smF ft ss tu2 vo2 sr2 lo2)) (gB (dC, dI) A) A) ([.ref ta, .ref aB, .int (nI kz)] : List Value).toArray s 0 0 A) (F0 m 9 ls []) := by
    intro fu9
    induction fu9 with
    | zero => intro q9 us1 fb1 le1 tu1 vo1 sr1 lo1 fr1 nx_ hq9a hq9 hB1 hf1 hbt1 hsm1 enx_ hm9; exact absurd hm9 (Nat.not_lt_zero _)
    | succ fu9 ih9 =>
      intro q9 us1 fb1 le1 tu1 vo1 sr1 lo1 fr1 nx_ hq9a hq9 hB1 hf1 hbt1 hsm1 enx_ hm9 H locs hP hD hS ls hl
      refine lv_iload hx hb dX4_readSamples_9 (lv_at hl 0 rfl) ?_
      refine lv_bipush (v := 31) hx hb dX4_readSamples_11 (by decide) ?_
      refine lv_icmp_gt (tgt := 164) hx hb dX4_readSamples_13 (by decide) (fun c_13 => ?_) (fun c_13 => ?_)
      · have hqe : q9 = 32 := by have := nI_lt' (a := 31) c_13 (by decide) (by omega); omega
        rw [hqe] at hB1 hbt1 hsm1
        have hP9 := hP
        have hD9 := hD
        have hK9 := hK.sub (tys' := []) [] rfl
        exact W.vret hx hb hr (fun t ht hW => ⟨⟨_, rfl, ⟨us1, fb1, le1, tu1, vo1, sr1, lo1, fr1, rfl, (lnq_e ft hB1), hf1, hbt1, hsm1⟩, by rw [ht]; exact hP9, va_K.moved hW.alike hK9, hD9⟩, hS.F ht⟩) hS.2.2 dX4_readSamples_164
      have hq3 : q9 < 32 := by have := nI_nlt2 (a := 31) c_13 (by omega); omega
      obtain ⟨hw1, hw2, hw3, hw4⟩ := hsF_ok 31 1 0 hs0 (by decide) q9 hq9a (by omega)
      have hl2 := l2_32 ft hq9a hq3
      have hse := lnq_sum ft (qq := q9) (Nat.le_refl q9)
      have hs3 := lnq_32 ft (qq := q9) (kx := 32) (by omega)
      have hlq := lnq_q ft q9
      refine lv_iload hx hb dX4_readSamples_16 (lv_at hl 0 rfl) ?_
      refine g_calliQ (X := [(ta, .inr (7, [.ref tb, .int (nI L)])), (tb, .inl (cB, 9000, .inl ft)), (aB, .inr (0, [.ref sa, .ref bb, .int us1])), (sa, .inl (cS, 32, .inr (.inr (.inr (.inr g))))), (bb, .inl (cB, 4000, .inl fb1))]) (wr := [(ta, .inr (7, [.ref tb, .int (nI L)])), (tb, .inl (cB, 9000, .inl ft)), (aB, .inr (0, [.ref sa, .ref bb, .int us1])), (sa, .inl (cS, 32, .inr (.inr (.inr (.inr g))))), (bb, .inl (cB, 4000, .inl fb1))]) (va_runS (As := [.int (nI q9)]) (rest := []) ⟨hx, hb, hml, hown, hts⟩ (c_sampleAt l dC dI H.size q9 (hq9a)) (va_cwS 1 hts (gG_S kw_306 kw_307 kw_30 kw_308) rfl rfl rfl (by decide +kernel) ⟨Nat.le_of_ble_eq_true rfl, Nat.le_of_ble_eq_true rfl⟩) (g_preS (ws := [(ta, .inr (7, [.ref tb, .int (nI L)])), (tb, .inl (cB, 9000, .inl ft)), (aB, .inr (0, [.ref sa, .ref bb, .int us1])), (sa, .inl (cS, 32, .inr (.inr (.inr (.inr g))))), (bb, .inl (cB, 4000, .inl fb1))]) hP.left hD.left hK hS hA hN hZ [] (by decide) rfl [] rfl) rfl rfl hl.1 rfl (lv_room (Nat.le_of_ble_eq_true rfl)) dX4_readSamples_18 ⟨Nat.le_of_ble_eq_true rfl, Nat.le_of_ble_eq_true rfl⟩) hP hD hK hS hA [] [0, 1, 2, 3, 4] rfl rfl (by decide +kernel) (by decide +kernel) (fun r_18 w ty1 H locs hw_18 hP hD _ hS => ?_)
      rcases hw_18 with ⟨hu, hr_18⟩
      cases hu
      have hP : va_P (dC, dI) vwCl (([(ta, .inr (7, [.ref tb, .int (nI L)])), (tb, .inl (cB, 9000, .inl ft)), (aB, .inr (0, [.ref sa, .ref bb, .int us1])), (sa, .inl (cS, 32, .inr (.inr (.inr (.inr g))))), (bb, .inl (cB, 4000, .inl fb1))] : va_W) ++ famN 32 ad le1 tu1 vo1 sr1 lo1 fr1) H := hP
      have hD : va_D A (([(ta, .inr (7, [.ref tb, .int (nI L)])), (tb, .inl (cB, 9000, .inl ft)), (aB, .inr (0, [.ref sa, .ref bb, .int us1])), (sa, .inl (cS, 32, .inr (.inr (.inr (.inr g))))), (bb, .inl (cB, 4000, .inl fb1))] : va_W) ++ famN 32 ad le1 tu1 vo1 sr1 lo1 fr1) := hD
      refine g_topi (y := nI (20 + 30 * (q9 - 1))) hr_18 ?_
      refine lv_istore (lv' := [(5, .int (nI (20 + 30 * (q9 - 1)))), (4, .int (nI q9)), (3, .int (nI nx_)), (0, .ref ta), (1, .ref aB)]) hx hb dX4_readSamples_21 hl (by decide) rfl (fun ls hl => ?_)
      refine lv_iconst (v := 2) hx hb dX4_readSamples_23 (by decide) ?_
      refine lv_aload_n hx hb dX4_readSamples_24 rfl (lv_at hl 3 rfl) ?_
      refine lv_iload hx hb dX4_readSamples_25 (lv_at hl 0 rfl) ?_
      refine lv_bipush (v := 22) hx hb dX4_readSamples_27 (by decide) ?_
      refine lv_iadd hx hb dX4_readSamples_29 ?_
      refine g_topi (y := nI (30 * q9 + 12)) ((nI_add _ 22).trans (up_e (by omega))) ?_
      refine g_calliQ (X := [(ta, .inr (7, [.ref tb, .int (nI L)])), (tb, .inl (cB, 9000, .inl ft)), (aB, .inr (0, [.ref sa, .ref bb, .int us1])), (sa, .inl (cS, 32, .inr (.inr (.inr (.inr g))))), (bb, .inl (cB, 4000, .inl fb1))]) (wr := [(aB, .inr (0, [.ref sa, .ref bb, .int us1])), (sa, .inl (cS, 32, .inr (.inr (.inr (.inr g))))), (bb, .inl (cB, 4000, .inl fb1))]) (va_runV (As := [.int (nI (30 * q9 + 12))]) (rest := [.int 2]) ⟨hx, hb, hml, hown, hts⟩ (x_pair l dC dI H.size ta tb cB ft L (30 * q9 + 12) (hL) (by omega)) (cwV 1 hts (gG_V kw_309 kw_310 kw_311 kw_18 kw_312) rfl rfl rfl (by decide +kernel) ⟨Nat.le_of_ble_eq_true rfl, Nat.le_of_ble_eq_true rfl⟩) (g_preV (ws := [(ta, .inr (7, [.ref tb, .int (nI L)])), (tb, .inl (cB, 9000, .inl ft)), (aB, .inr (0, [.ref sa, .ref bb, .int us1])), (sa, .inl (cS, 32, .inr (.inr (.inr (.inr g))))), (bb, .inl (cB, 4000, .inl fb1))]) (C := RX7) (T := TX7) (N := 2) hP.left hD.left hK hS hA hN hZ (q0 := 0) rfl rfl [0, 1] (by decide +kernel) rfl [0] rfl) rfl rfl hl.1 rfl (lv_room (Nat.le_of_ble_eq_true rfl)) dX4_readSamples_30 ⟨Nat.le_of_ble_eq_true rfl, Nat.le_of_ble_eq_true rfl⟩) hP hD hK hS hA [0, 1] [2, 3, 4] rfl rfl (by decide +kernel) (by decide +kernel) (fun r_30 w ty1 H locs hw_30 hP hD _ hS => ?_)
      rcases hw_30 with ⟨hu, hr_30⟩
      cases hu
      have hP : va_P (dC, dI) vwCl (([(aB, .inr (0, [.ref sa, .ref bb, .int us1])), (sa, .inl (cS, 32, .inr (.inr (.inr (.inr g))))), (bb, .inl (cB, 4000, .inl fb1)), (ta, .inr (7, [.ref tb, .int (nI L)])), (tb, .inl (cB, 9000, .inl ft))] : va_W) ++ famN 32 ad le1 tu1 vo1 sr1 lo1 fr1) H := hP
      have hD : va_D A (([(aB, .inr (0, [.ref sa, .ref bb, .int us1])), (sa, .inl (cS, 32, .inr (.inr (.inr (.inr g))))), (bb, .inl (cB, 4000, .inl fb1)), (ta, .inr (7, [.ref tb, .int (nI L)])), (tb, .inl (cB, 9000, .inl ft))] : va_W) ++ famN 32 ad le1 tu1 vo1 sr1 lo1 fr1) := hD
      refine g_topi (y := nI (256 * by8 ft (30 * q9 + 12) + by8 ft ((30 * q9 + 12) + 1))) hr_30 ?_
      refine lv_imul hx hb dX4_readSamples_33 ?_
      refine g_topi (y := nI (tw2 ft (30 * q9 + 12))) (pk_mul 2 _) ?_
      refine lv_istore (lv' := [(6, .int (nI (tw2 ft (30 * q9 + 12)))), (5, .int (nI (20 + 30 * (q9 - 1)))), (4, .int (nI q9)), (3, .int (nI nx_)), (0, .ref ta), (1, .ref aB)]) hx hb dX4_readSamples_34 hl (by decide) rfl (fun ls hl => ?_)
      refine lv_aload_n hx hb dX4_readSamples_36 rfl (lv_at hl 4 rfl) ?_
      refine lv_iload hx hb dX4_readSamples_37 (lv_at hl 1 rfl) ?_
      refine lv_bipush (v := 24) hx hb dX4_readSamples_39 (by decide) ?_
      refine lv_iadd hx hb dX4_readSamples_41 ?_
      refine g_topi (y := nI (30 * q9 + 14)) ((nI_add _ 24).trans (up_e (by omega))) ?_
      refine g_calliQ (X := [(aB, .inr (0, [.ref sa, .ref bb, .int us1])), (sa, .inl (cS, 32, .inr (.inr (.inr (.inr g))))), (bb, .inl (cB, 4000, .inl fb1)), (ta, .inr (7, [.ref tb, .int (nI L)])), (tb, .inl (cB, 9000, .inl ft))]) (wr := [(aB, .inr (0, [.ref sa, .ref bb, .int us1])), (sa, .inl (cS, 32, .inr (.inr (.inr (.inr g))))), (bb, .inl (cB, 4000, .inl fb1))]) (va_runV (As := [.int (nI (30 * q9 + 14))]) (rest := []) ⟨hx, hb, hml, hown, hts⟩ (x_at l dC dI H.size ta tb cB ft L (30 * q9 + 14) (hL) (by omega)) (cwV 1 hts (gG_V kw_295 kw_296 kw_297 kw_18 kw_298) rfl rfl rfl (by decide +kernel) ⟨Nat.le_of_ble_eq_true rfl, Nat.le_of_ble_eq_true rfl⟩) (g_preV (ws := [(aB, .inr (0, [.ref sa, .ref bb, .int us1])), (sa, .inl (cS, 32, .inr (.inr (.inr (.inr g))))), (bb, .inl (cB, 4000, .inl fb1)), (ta, .inr (7, [.ref tb, .int (nI L)])), (tb, .inl (cB, 9000, .inl ft))]) (C := RX7) (T := TX7) (N := 2) hP.left hD.left hK hS hA hN hZ (q0 := 3) rfl rfl [3, 4] (by decide +kernel) rfl [0] rfl) rfl rfl hl.1 rfl (lv_room (Nat.le_of_ble_eq_true rfl)) dX4_readSamples_42 ⟨Nat.le_of_ble_eq_true rfl, Nat.le_of_ble_eq_true rfl⟩) hP hD hK hS hA [3, 4] [0, 1, 2] rfl rfl (by decide +kernel) (by decide +kernel) (fun r_42 w ty1 H locs hw_42 hP hD _ hS => ?_)
      rcases hw_42 with ⟨hu, hr_42⟩
      cases hu
      have hP : va_P (dC, dI) vwCl (([(aB, .inr (0, [.ref sa, .ref bb, .int us1])), (sa, .inl (cS, 32, .inr (.inr (.inr (.inr g))))), (bb, .inl (cB, 4000, .inl fb1)), (ta, .inr (7, [.ref tb, .int (nI L)])), (tb, .inl (cB, 9000, .inl ft))] : va_W) ++ famN 32 ad le1 tu1 vo1 sr1 lo1 fr1) H := hP
      have hD : va_D A (([(aB, .inr (0, [.ref sa, .ref bb, .int us1])), (sa, .inl (cS, 32, .inr (.inr (.inr (.inr g))))), (bb, .inl (cB, 4000, .inl fb1)), (ta, .inr (7, [.ref tb, .int (nI L)])), (tb, .inl (cB, 9000, .inl ft))] : va_W) ++ famN 32 ad le1 tu1 vo1 sr1 lo1 fr1) := hD
      refine g_topi (y := nI (by8 ft (30 * q9 + 14))) hr_42 ?_
      refine lv_istore (lv' := [(7, .int (nI (by8 ft (30 * q9 + 14)))), (6, .int (nI (tw2 ft (30 * q9 + 12)))), (5, .int (nI (20 + 30 * (q9 - 1)))), (4, .int (nI q9)), (3, .int (nI nx_)), (0, .ref ta), (1, .ref aB)]) hx hb dX4_readSamples_45 hl (by decide) rfl (fun ls hl => ?_)
      refine lv_aload_n hx hb dX4_readSamples_47 rfl (lv_at hl 6 rfl) ?_
      refine lv_iload hx hb dX4_readSamples_48 (lv_at hl 3 rfl) ?_
      refine lv_iload hx hb dX4_readSamples_50 (lv_at hl 1 rfl) ?_
      refine lv_iload hx hb dX4_readSamples_52 (lv_at hl 0 rfl) ?_
      refine lv_bipush (v := 7) hx hb dX4_readSamples_54 (by decide) ?_
      refine lv_icmp_le (tgt := 67) hx hb dX4_readSamples_56 (by decide) (fun c_56 => ?_) (fun c_56 => ?_)
      · refine lv_iload hx hb dX4_readSamples_67 (lv_at hl 0 rfl) ?_
        refine lv_aload_n hx hb dX4_readSamples_69 rfl (lv_at hl 5 rfl) ?_
        refine lv_iload hx hb dX4_readSamples_70 (lv_at hl 2 rfl) ?_
        refine lv_bipush (v := 25) hx hb dX4_readSamples_72 (by decide) ?_
        refine lv_iadd hx hb dX4_readSamples_74 ?_
        refine g_topi (y := nI (30 * q9 + 15)) ((nI_add _ 25).trans (up_e (by omega))) ?_
        refine g_calliQ (X := [(aB, .inr (0, [.ref sa, .ref bb, .int us1])), (sa, .inl (cS, 32, .inr (.inr (.inr (.inr g))))), (bb, .inl (cB, 4000, .inl fb1)), (ta, .inr (7, [.ref tb, .int (nI L)])), (tb, .inl (cB, 9000, .inl ft))]) (wr := [(aB, .inr (0, [.ref sa, .ref bb, .int us1])), (sa, .inl (cS, 32, .inr (.inr (.inr (.inr g))))), (bb, .inl (cB, 4000, .inl fb1))]) (va_runV (As := [.int (nI (30 * q9 + 15))]) (rest := [.int (nI (by8 ft (30 * q9 + 14))), .int (nI (tw2 ft (30 * q9 + 12))), .int (nI q9), .ref aB]) ⟨hx, hb, hml, hown, hts⟩ (x_at l dC dI H.size ta tb cB ft L (30 * q9 + 15) (hL) (by omega)) (cwV 1 hts (gG_V kw_295 kw_296 kw_297 kw_18 kw_298) rfl rfl rfl (by decide +kernel) ⟨Nat.le_of_ble_eq_true rfl, Nat.le_of_ble_eq_true rfl⟩) (g_preV (ws := [(aB, .inr (0, [.ref sa, .ref bb, .int us1])), (sa, .inl (cS, 32, .inr (.inr (.inr (.inr g))))), (bb, .inl (cB, 4000, .inl fb1)), (ta, .inr (7, [.ref tb, .int (nI L)])), (tb, .inl (cB, 9000, .inl ft))]) (C := RX7) (T := TX7) (N := 2) hP.left hD.left hK hS hA hN hZ (q0 := 3) rfl rfl [3, 4] (by decide +kernel) rfl [0] rfl) rfl rfl hl.1 rfl (lv_room (Nat.le_of_ble_eq_true rfl)) dX4_readSamples_75 ⟨Nat.le_of_ble_eq_true rfl, Nat.le_of_ble_eq_true rfl⟩) hP hD hK hS hA [3, 4] [0, 1, 2] rfl rfl (by decide +kernel) (by decide +kernel) (fun r_75 w ty1 H locs hw_75 hP hD _ hS => ?_)
        rcases hw_75 with ⟨hu, hr_75⟩
        cases hu
        have hP : va_P (dC, dI) vwCl (([(aB, .inr (0, [.ref sa, .ref bb, .int us1])), (sa, .inl (cS, 32, .inr (.inr (.inr (.inr g))))), (bb, .inl (cB, 4000, .inl fb1)), (ta, .inr (7, [.ref tb, .int (nI L)])), (tb, .inl (cB, 9000, .inl ft))] : va_W) ++ famN 32 ad le1 tu1 vo1 sr1 lo1 fr1) H := hP
        have hD : va_D A (([(aB, .inr (0, [.ref sa, .ref bb, .int us1])), (sa, .inl (cS, 32, .inr (.inr (.inr (.inr g))))), (bb, .inl (cB, 4000, .inl fb1)), (ta, .inr (7, [.ref tb, .int (nI L)])), (tb, .inl (cB, 9000, .inl ft))] : va_W) ++ famN 32 ad le1 tu1 vo1 sr1 lo1 fr1) := hD
        refine g_topi (y := nI (by8 ft (30 * q9 + 15))) hr_75 ?_
        refine g_callvP (X := [(aB, .inr (0, [.ref sa, .ref bb, .int us1])), (sa, .inl (cS, 32, .inr (.inr (.inr (.inr g))))), (bb, .inl (cB, 4000, .inl fb1)), (ta, .inr (7, [.ref tb, .int (nI L)])), (tb, .inl (cB, 9000, .inl ft))]) (wr := [(ta, .inr (7, [.ref tb, .int (nI L)])), (tb, .inl (cB, 9000, .inl ft))]) (va_runV (As := [.int (nI q9), .int (nI (tw2 ft (30 * q9 + 12))), .int (nI (by8 ft (30 * q9 + 14))), .int (nI (by8 ft (30 * q9 + 15)))]) (rest := []) ⟨hx, hb, hml, hown, hts⟩ (g_reshape l dC dI H.size aB sa bb us1 ad cS cB g fb1 le1 tu1 vo1 sr1 lo1 fr1 (lnq ft q9) q9 (tw2 ft (30 * q9 + 12)) (nI (by8 ft (30 * q9 + 14))) (nI (by8 ft (30 * q9 + 15))) (hg) (hq9a) (hq3) (hw1) (tw2_ev ft _) (hB1) (by rw [hs3, hlq]; omega) (hf1)) (cwV 4 hts (gG_V kw_384 kw_385 kw_386 kw_22 kw_387) rfl rfl rfl (by decide +kernel) ⟨Nat.le_of_ble_eq_true rfl, Nat.le_of_ble_eq_true rfl⟩) (g_preVP (X := [(aB, .inr (0, [.ref sa, .ref bb, .int us1])), (sa, .inl (cS, 32, .inr (.inr (.inr (.inr g))))), (bb, .inl (cB, 4000, .inl fb1)), (ta, .inr (7, [.ref tb, .int (nI L)])), (tb, .inl (cB, 9000, .inl ft))]) (C := RX0) (T := TX0) (N := 3) hP hD hK hS hA hN hZ (q0 := 0) rfl rfl [0, 1, 2] (by decide +kernel) rfl [1, 0] rfl) rfl rfl hl.1 rfl (lv_room (Nat.le_of_ble_eq_true rfl)) dX4_readSamples_78 ⟨Nat.le_of_ble_eq_true rfl, Nat.le_of_ble_eq_true rfl⟩) hP hD hK hS hA [0, 1, 2] [3, 4] rfl rfl (by decide +kernel) (by decide +kernel) (fun w ty1 H locs hw_78 hJ _ hS => ?_)
        rcases hw_78 with ⟨us2_78, f2_78, fr2_78, hu, hB2_78, hf2_78⟩
        cases hu
        obtain ⟨hP, hD⟩ := hJ _ _ rfl
        have hP : va_P (dC, dI) vwCl (([(ta, .inr (7, [.ref tb, .int (nI L)])), (tb, .inl (cB, 9000, .inl ft)), (aB, .inr (0, [.ref sa, .ref bb, .int us2_78])), (sa, .inl (cS, 32, .inr (.inr (.inr (.inr g))))), (bb, .inl (cB, 4000, .inl f2_78))] : va_W) ++ famN 32 ad (upd le1 q9 (nI (tw2 ft (30 * q9 + 12)))) (upd tu1 q9 (nI (by8 ft (30 * q9 + 14)))) (upd vo1 q9 (nI (by8 ft (30 * q9 + 15)))) (upd sr1 q9 0) (upd lo1 q9 0) fr2_78) H := hP
        have hD : va_D A (([(ta, .inr (7, [.ref tb, .int (nI L)])), (tb, .inl (cB, 9000, .inl ft)), (aB, .inr (0, [.ref sa, .ref bb, .int us2_78])), (sa, .inl (cS, 32, .inr (.inr (.inr (.inr g))))), (bb, .inl (cB, 4000, .inl f2_78))] : va_W) ++ famN 32 ad (upd le1 q9 (nI (tw2 ft (30 * q9 + 12)))) (upd tu1 q9 (nI (by8 ft (30 * q9 + 14)))) (upd vo1 q9 (nI (by8 ft (30 * q9 + 15)))) (upd sr1 q9 0) (upd lo1 q9 0) fr2_78) := hD
        have hkp : ∀ jj, jj < sumTo (l2 ft) q9 → f2_78 jj = ft (kz + jj) := fun jj hj => (rs_keep hf2_78 (by rw [hs3, hse, hlq]; omega) (by rw [hse]; exact hj)).trans (hbt1 jj hj)
        have hfr := bk_fr hB2_78 hq3
        rw [sumTo_le _ _ _ _ (Nat.le_refl q9), hse] at hfr
        have hfi := fit_rs hf1 hf2_78
        refine lv_aload_n hx hb dX4_readSamples_81 rfl (lv_at hl 6 rfl) ?_
        refine lv_iload hx hb dX4_readSamples_82 (lv_at hl 3 rfl) ?_
        refine g_callqQ (X := [(ta, .inr (7, [.ref tb, .int (nI L)])), (tb, .inl (cB, 9000, .inl ft)), (aB, .inr (0, [.ref sa, .ref bb, .int us2_78])), (sa, .inl (cS, 32, .inr (.inr (.inr (.inr g))))), (bb, .inl (cB, 4000, .inl f2_78))]) (wr := [(ta, .inr (7, [.ref tb, .int (nI L)])), (tb, .inl (cB, 9000, .inl ft)), (bb, .inl (cB, 4000, .inl f2_78))]) (va_runV (As := [.int (nI q9)]) (rest := []) ⟨hx, hb, hml, hown, hts⟩ (c_get l dC dI H.size aB sa bb us2_78 ad cS g q9 (hg) (hq3)) (cwV 1 hts (gG_V kw_415 kw_405 kw_406 kw_22 kw_407) rfl rfl rfl (by decide +kernel) ⟨Nat.le_of_ble_eq_true rfl, Nat.le_of_ble_eq_true rfl⟩) (g_preV (ws := [(ta, .inr (7, [.ref tb, .int (nI L)])), (tb, .inl (cB, 9000, .inl ft)), (aB, .inr (0, [.ref sa, .ref bb, .int us2_78])), (sa, .inl (cS, 32, .inr (.inr (.inr (.inr g))))), (bb, .inl (cB, 4000, .inl f2_78))]) (C := RX0) (T := TX0) (N := 3) hP.left hD.left hK hS hA hN hZ (q0 := 2) rfl rfl [2, 3] (by decide +kernel) rfl [1] rfl) rfl rfl hl.1 rfl (lv_room (Nat.le_of_ble_eq_true rfl)) dX4_readSamples_84 ⟨Nat.le_of_ble_eq_true rfl, Nat.le_of_ble_eq_true rfl⟩) hP hD hK hS hA [2, 3] [0, 1, 4] rfl rfl (by decide +kernel) (by decide +kernel) (fun r_84 w ty1 H locs hw_84 hP hD _ hS => ?_)
        rcases hw_84 with ⟨hu, hr_84⟩
        cases hu
        have hP : va_P (dC, dI) vwCl (([(ta, .inr (7, [.ref tb, .int (nI L)])), (tb, .inl (cB, 9000, .inl ft)), (bb, .inl (cB, 4000, .inl f2_78)), (aB, .inr (0, [.ref sa, .ref bb, .int us2_78])), (sa, .inl (cS, 32, .inr (.inr (.inr (.inr g)))))] : va_W) ++ famN 32 ad (upd le1 q9 (nI (tw2 ft (30 * q9 + 12)))) (upd tu1 q9 (nI (by8 ft (30 * q9 + 14)))) (upd vo1 q9 (nI (by8 ft (30 * q9 + 15)))) (upd sr1 q9 0) (upd lo1 q9 0) fr2_78) H := hP
        have hD : va_D A (([(ta, .inr (7, [.ref tb, .int (nI L)])), (tb, .inl (cB, 9000, .inl ft)), (bb, .inl (cB, 4000, .inl f2_78)), (aB, .inr (0, [.ref sa, .ref bb, .int us2_78])), (sa, .inl (cS, 32, .inr (.inr (.inr (.inr g)))))] : va_W) ++ famN 32 ad (upd le1 q9 (nI (tw2 ft (30 * q9 + 12)))) (upd tu1 q9 (nI (by8 ft (30 * q9 + 14)))) (upd vo1 q9 (nI (by8 ft (30 * q9 + 15)))) (upd sr1 q9 0) (upd lo1 q9 0) fr2_78) := hD
        subst hr_84
        refine W.eq (g2 := F0 m 87 ls [.ref (ad q9)]) rfl ?_
        refine lv_astore (lv' := [(8, .ref (ad q9)), (7, .int (nI (by8 ft (30 * q9 + 14)))), (6, .int (nI (tw2 ft (30 * q9 + 12)))), (5, .int (nI (20 + 30 * (q9 - 1)))), (4, .int (nI q9)), (3, .int (nI nx_)), (0, .ref ta), (1, .ref aB)]) hx hb dX4_readSamples_87 hl (by decide) rfl (fun ls hl => ?_)
        refine lv_aload hx hb dX4_readSamples_89 (lv_at hl 0 rfl) ?_
        refine lv_iconst (v := 2) hx hb dX4_readSamples_91 (by decide) ?_
        refine lv_aload_n hx hb dX4_readSamples_92 rfl (lv_at hl 6 rfl) ?_
        refine lv_iload hx hb dX4_readSamples_93 (lv_at hl 3 rfl) ?_
        refine lv_bipush (v := 26) hx hb dX4_readSamples_95 (by decide) ?_
        refine lv_iadd hx hb dX4_readSamples_97 ?_
        refine g_topi (y := nI (30 * q9 + 16)) ((nI_add _ 26).trans (up_e (by omega))) ?_
        refine g_calliQ (X := [(ta, .inr (7, [.ref tb, .int (nI L)])), (tb, .inl (cB, 9000, .inl ft)), (bb, .inl (cB, 4000, .inl f2_78)), (aB, .inr (0, [.ref sa, .ref bb, .int us2_78])), (sa, .inl (cS, 32, .inr (.inr (.inr (.inr g)))))]) (wr := [(bb, .inl (cB, 4000, .inl f2_78)), (aB, .inr (0, [.ref sa, .ref bb, .int us2_78])), (sa, .inl (cS, 32, .inr (.inr (.inr (.inr g)))))]) (va_runV (As := [.int (nI (30 * q9 + 16))]) (rest := [.int 2, .ref (ad q9)]) ⟨hx, hb, hml, hown, hts⟩ (x_pair l dC dI H.size ta tb cB ft L (30 * q9 + 16) (hL) (by omega)) (cwV 1 hts (gG_V kw_309 kw_310 kw_311 kw_18 kw_312) rfl rfl rfl (by decide +kernel) ⟨Nat.le_of_ble_eq_true rfl, Nat.le_of_ble_eq_true rfl⟩) (g_preV (ws := [(ta, .inr (7, [.ref tb, .int (nI L)])), (tb, .inl (cB, 9000, .inl ft)), (bb, .inl (cB, 4000, .inl f2_78)), (aB, .inr (0, [.ref sa, .ref bb, .int us2_78])), (sa, .inl (cS, 32, .inr (.inr (.inr (.inr g)))))]) (C := RX7) (T := TX7) (N := 2) hP.left hD.left hK hS hA hN hZ (q0 := 0) rfl rfl [0, 1] (by decide +kernel) rfl [0] rfl) rfl rfl hl.1 rfl (lv_room (Nat.le_of_ble_eq_true rfl)) dX4_readSamples_98 ⟨Nat.le_of_ble_eq_true rfl, Nat.le_of_ble_eq_true rfl⟩) hP hD hK hS hA [0, 1] [2, 3, 4] rfl rfl (by decide +kernel) (by decide +kernel) (fun r_98 w ty1 H locs hw_98 hP hD _ hS => ?_)
        rcases hw_98 with ⟨hu, hr_98⟩
        cases hu
        have hP : va_P (dC, dI) vwCl (([(bb, .inl (cB, 4000, .inl f2_78)), (aB, .inr (0, [.ref sa, .ref bb, .int us2_78])), (sa, .inl (cS, 32, .inr (.inr (.inr (.inr g))))), (ta, .inr (7, [.ref tb, .int (nI L)])), (tb, .inl (cB, 9000, .inl ft))] : va_W) ++ famN 32 ad (upd le1 q9 (nI (tw2 ft (30 * q9 + 12)))) (upd tu1 q9 (nI (by8 ft (30 * q9 + 14)))) (upd vo1 q9 (nI (by8 ft (30 * q9 + 15)))) (upd sr1 q9 0) (upd lo1 q9 0) fr2_78) H := hP
        have hD : va_D A (([(bb, .inl (cB, 4000, .inl f2_78)), (aB, .inr (0, [.ref sa, .ref bb, .int us2_78])), (sa, .inl (cS, 32, .inr (.inr (.inr (.inr g))))), (ta, .inr (7, [.ref tb, .int (nI L)])), (tb, .inl (cB, 9000, .inl ft))] : va_W) ++ famN 32 ad (upd le1 q9 (nI (tw2 ft (30 * q9 + 12)))) (upd tu1 q9 (nI (by8 ft (30 * q9 + 14)))) (upd vo1 q9 (nI (by8 ft (30 * q9 + 15)))) (upd sr1 q9 0) (upd lo1 q9 0) fr2_78) := hD
        refine g_topi (y := nI (256 * by8 ft (30 * q9 + 16) + by8 ft ((30 * q9 + 16) + 1))) hr_98 ?_
        refine lv_imul hx hb dX4_readSamples_101 ?_
        refine g_topi (y := nI (tw2 ft (30 * q9 + 16))) (pk_mul 2 _) ?_
        refine va_put (D := (dC, dI)) (ci := 5) (v := .int (nI (tw2 ft (30 * q9 + 16)))) (ty := tyX5 3) (C := RX5) (T := TX5) (N := 6) hx hb hts iwX5 tyX5 tyX5_ok nmX5 hown hK hP hD hS _ (fam_at (k := q9) (hq3)) rfl 3 (by decide) (hts (.fieldLink RX4 120 "ModulePlayer$Sample" "start" "I") (List.mem_cons_of_mem _ kw_375)) (fun _ h9 => h9) rfl (by decide +kernel) rfl rfl (Nat.le_of_ble_eq_true rfl) dX4_readSamples_102 (fun H locs hP hD hS => ?_)
        have hP : va_P (dC, dI) vwCl (([(bb, .inl (cB, 4000, .inl f2_78)), (aB, .inr (0, [.ref sa, .ref bb, .int us2_78])), (sa, .inl (cS, 32, .inr (.inr (.inr (.inr g))))), (ta, .inr (7, [.ref tb, .int (nI L)])), (tb, .inl (cB, 9000, .inl ft))] : va_W) ++ famN 32 ad (upd le1 q9 (nI (tw2 ft (30 * q9 + 12)))) (upd tu1 q9 (nI (by8 ft (30 * q9 + 14)))) (upd vo1 q9 (nI (by8 ft (30 * q9 + 15)))) (upd (upd sr1 q9 0) q9 (nI (tw2 ft (30 * q9 + 16)))) (upd lo1 q9 0) fr2_78) H := by have h9 : va_P (dC, dI) vwCl (((([(bb, .inl (cB, 4000, .inl f2_78)), (aB, .inr (0, [.ref sa, .ref bb, .int us2_78])), (sa, .inl (cS, 32, .inr (.inr (.inr (.inr g))))), (ta, .inr (7, [.ref tb, .int (nI L)])), (tb, .inl (cB, 9000, .inl ft))] : va_W) ++ famN 32 ad (upd le1 q9 (nI (tw2 ft (30 * q9 + 12)))) (upd tu1 q9 (nI (by8 ft (30 * q9 + 14)))) (upd vo1 q9 (nI (by8 ft (30 * q9 + 15)))) (upd sr1 q9 0) (upd lo1 q9 0) fr2_78) : va_W).set (([(bb, .inl (cB, 4000, .inl f2_78)), (aB, .inr (0, [.ref sa, .ref bb, .int us2_78])), (sa, .inl (cS, 32, .inr (.inr (.inr (.inr g))))), (ta, .inr (7, [.ref tb, .int (nI L)])), (tb, .inl (cB, 9000, .inl ft))] : va_W).length + q9) (ad q9, .inr (5, [.int ((upd le1 q9 (nI (tw2 ft (30 * q9 + 12)))) q9), .int ((upd tu1 q9 (nI (by8 ft (30 * q9 + 14)))) q9), .int ((upd vo1 q9 (nI (by8 ft (30 * q9 + 15)))) q9), .int (nI (tw2 ft (30 * q9 + 16))), .int ((upd lo1 q9 0) q9), .int ((fr2_78) q9)]))) H := hP; rw [fam_up] at h9; simp only [upd_id] at h9 ⊢; exact h9
        have hD : va_D A (([(bb, .inl (cB, 4000, .inl f2_78)), (aB, .inr (0, [.ref sa, .ref bb, .int us2_78])), (sa, .inl (cS, 32, .inr (.inr (.inr (.inr g))))), (ta, .inr (7, [.ref tb, .int (nI L)])), (tb, .inl (cB, 9000, .inl ft))] : va_W) ++ famN 32 ad (upd le1 q9 (nI (tw2 ft (30 * q9 + 12)))) (upd tu1 q9 (nI (by8 ft (30 * q9 + 14)))) (upd vo1 q9 (nI (by8 ft (30 * q9 + 15)))) (upd (upd sr1 q9 0) q9 (nI (tw2 ft (30 * q9 + 16)))) (upd lo1 q9 0) fr2_78) := by have h9 : va_D A (((([(bb, .inl (cB, 4000, .inl f2_78)), (aB, .inr (0, [.ref sa, .ref bb, .int us2_78])), (sa, .inl (cS, 32, .inr (.inr (.inr (.inr g))))), (ta, .inr (7, [.ref tb, .int (nI L)])), (tb, .inl (cB, 9000, .inl ft))] : va_W) ++ famN 32 ad (upd le1 q9 (nI (tw2 ft (30 * q9 + 12)))) (upd tu1 q9 (nI (by8 ft (30 * q9 + 14)))) (upd vo1 q9 (nI (by8 ft (30 * q9 + 15)))) (upd sr1 q9 0) (upd lo1 q9 0) fr2_78) : va_W).set (([(bb, .inl (cB, 4000, .inl f2_78)), (aB, .inr (0, [.ref sa, .ref bb, .int us2_78])), (sa, .inl (cS, 32, .inr (.inr (.inr (.inr g))))), (ta, .inr (7, [.ref tb, .int (nI L)])), (tb, .inl (cB, 9000, .inl ft))] : va_W).length + q9) (ad q9, .inr (5, [.int ((upd le1 q9 (nI (tw2 ft (30 * q9 + 12)))) q9), .int ((upd tu1 q9 (nI (by8 ft (30 * q9 + 14)))) q9), .int ((upd vo1 q9 (nI (by8 ft (30 * q9 + 15)))) q9), .int (nI (tw2 ft (30 * q9 + 16))), .int ((upd lo1 q9 0) q9), .int ((fr2_78) q9)]))) := hD; rw [fam_up] at h9; simp only [upd_id] at h9 ⊢; exact h9
        refine lv_aload hx hb dX4_readSamples_105 (lv_at hl 0 rfl) ?_
        refine lv_iconst (v := 2) hx hb dX4_readSamples_107 (by decide) ?_
        refine lv_aload_n hx hb dX4_readSamples_108 rfl (lv_at hl 6 rfl) ?_
        refine lv_iload hx hb dX4_readSamples_109 (lv_at hl 3 rfl) ?_
        refine lv_bipush (v := 28) hx hb dX4_readSamples_111 (by decide) ?_
        refine lv_iadd hx hb dX4_readSamples_113 ?_
        refine g_topi (y := nI (30 * q9 + 18)) ((nI_add _ 28).trans (up_e (by omega))) ?_
        refine g_calliQ (X := [(bb, .inl (cB, 4000, .inl f2_78)), (aB, .inr (0, [.ref sa, .ref bb, .int us2_78])), (sa, .inl (cS, 32, .inr (.inr (.inr (.inr g))))), (ta, .inr (7, [.ref tb, .int (nI L)])), (tb, .inl (cB, 9000, .inl ft))]) (wr := [(bb, .inl (cB, 4000, .inl f2_78)), (aB, .inr (0, [.ref sa, .ref bb, .int us2_78])), (sa, .inl (cS, 32, .inr (.inr (.inr (.inr g)))))]) (va_runV (As := [.int (nI (30 * q9 + 18))]) (rest := [.int 2, .ref (ad q9)]) ⟨hx, hb, hml, hown, hts⟩ (x_pair l dC dI H.size ta tb cB ft L (30 * q9 + 18) (hL) (by omega)) (cwV 1 hts (gG_V kw_309 kw_310 kw_311 kw_18 kw_312) rfl rfl rfl (by decide +kernel) ⟨Nat.le_of_ble_eq_true rfl, Nat.le_of_ble_eq_true rfl⟩) (g_preV (ws := [(bb, .inl (cB, 4000, .inl f2_78)), (aB, .inr (0, [.ref sa, .ref bb, .int us2_78])), (sa, .inl (cS, 32, .inr (.inr (.inr (.inr g))))), (ta, .inr (7, [.ref tb, .int (nI L)])), (tb, .inl (cB, 9000, .inl ft))]) (C := RX7) (T := TX7) (N := 2) hP.left hD.left hK hS hA hN hZ (q0 := 3) rfl rfl [3, 4] (by decide +kernel) rfl [0] rfl) rfl rfl hl.1 rfl (lv_room (Nat.le_of_ble_eq_true rfl)) dX4_readSamples_114 ⟨Nat.le_of_ble_eq_true rfl, Nat.le_of_ble_eq_true rfl⟩) hP hD hK hS hA [3, 4] [0, 1, 2] rfl rfl (by decide +kernel) (by decide +kernel) (fun r_114 w ty1 H locs hw_114 hP hD _ hS => ?_)
        rcases hw_114 with ⟨hu, hr_114⟩
        cases hu
        have hP : va_P (dC, dI) vwCl (([(bb, .inl (cB, 4000, .inl f2_78)), (aB, .inr (0, [.ref sa, .ref bb, .int us2_78])), (sa, .inl (cS, 32, .inr (.inr (.inr (.inr g))))), (ta, .inr (7, [.ref tb, .int (nI L)])), (tb, .inl (cB, 9000, .inl ft))] : va_W) ++ famN 32 ad (upd le1 q9 (nI (tw2 ft (30 * q9 + 12)))) (upd tu1 q9 (nI (by8 ft (30 * q9 + 14)))) (upd vo1 q9 (nI (by8 ft (30 * q9 + 15)))) (upd (upd sr1 q9 0) q9 (nI (tw2 ft (30 * q9 + 16)))) (upd lo1 q9 0) fr2_78) H := hP
        have hD : va_D A (([(bb, .inl (cB, 4000, .inl f2_78)), (aB, .inr (0, [.ref sa, .ref bb, .int us2_78])), (sa, .inl (cS, 32, .inr (.inr (.inr (.inr g))))), (ta, .inr (7, [.ref tb, .int (nI L)])), (tb, .inl (cB, 9000, .inl ft))] : va_W) ++ famN 32 ad (upd le1 q9 (nI (tw2 ft (30 * q9 + 12)))) (upd tu1 q9 (nI (by8 ft (30 * q9 + 14)))) (upd vo1 q9 (nI (by8 ft (30 * q9 + 15)))) (upd (upd sr1 q9 0) q9 (nI (tw2 ft (30 * q9 + 16)))) (upd lo1 q9 0) fr2_78) := hD
        refine g_topi (y := nI (256 * by8 ft (30 * q9 + 18) + by8 ft ((30 * q9 + 18) + 1))) hr_114 ?_
        refine lv_imul hx hb dX4_readSamples_117 ?_
        refine g_topi (y := nI (tw2 ft (30 * q9 + 18))) (pk_mul 2 _) ?_
        refine va_put (D := (dC, dI)) (ci := 5) (v := .int (nI (tw2 ft (30 * q9 + 18)))) (ty := tyX5 4) (C := RX5) (T := TX5) (N := 6) hx hb hts iwX5 tyX5 tyX5_ok nmX5 hown hK hP hD hS _ (fam_at (k := q9) (hq3)) rfl 4 (by decide) (hts (.fieldLink RX4 123 "ModulePlayer$Sample" "loop" "I") (List.mem_cons_of_mem _ kw_376)) (fun _ h9 => h9) rfl (by decide +kernel) rfl rfl (Nat.le_of_ble_eq_true rfl) dX4_readSamples_118 (fun H locs hP hD hS => ?_)
        have hP : va_P (dC, dI) vwCl (([(bb, .inl (cB, 4000, .inl f2_78)), (aB, .inr (0, [.ref sa, .ref bb, .int us2_78])), (sa, .inl (cS, 32, .inr (.inr (.inr (.inr g))))), (ta, .inr (7, [.ref tb, .int (nI L)])), (tb, .inl (cB, 9000, .inl ft))] : va_W) ++ famN 32 ad (upd le1 q9 (nI (tw2 ft (30 * q9 + 12)))) (upd tu1 q9 (nI (by8 ft (30 * q9 + 14)))) (upd vo1 q9 (nI (by8 ft (30 * q9 + 15)))) (upd (upd sr1 q9 0) q9 (nI (tw2 ft (30 * q9 + 16)))) (upd (upd lo1 q9 0) q9 (nI (tw2 ft (30 * q9 + 18)))) fr2_78) H := by have h9 : va_P (dC, dI) vwCl (((([(bb, .inl (cB, 4000, .inl f2_78)), (aB, .inr (0, [.ref sa, .ref bb, .int us2_78])), (sa, .inl (cS, 32, .inr (.inr (.inr (.inr g))))), (ta, .inr (7, [.ref tb, .int (nI L)])), (tb, .inl (cB, 9000, .inl ft))] : va_W) ++ famN 32 ad (upd le1 q9 (nI (tw2 ft (30 * q9 + 12)))) (upd tu1 q9 (nI (by8 ft (30 * q9 + 14)))) (upd vo1 q9 (nI (by8 ft (30 * q9 + 15)))) (upd (upd sr1 q9 0) q9 (nI (tw2 ft (30 * q9 + 16)))) (upd lo1 q9 0) fr2_78) : va_W).set (([(bb, .inl (cB, 4000, .inl f2_78)), (aB, .inr (0, [.ref sa, .ref bb, .int us2_78])), (sa, .inl (cS, 32, .inr (.inr (.inr (.inr g))))), (ta, .inr (7, [.ref tb, .int (nI L)])), (tb, .inl (cB, 9000, .inl ft))] : va_W).length + q9) (ad q9, .inr (5, [.int ((upd le1 q9 (nI (tw2 ft (30 * q9 + 12)))) q9), .int ((upd tu1 q9 (nI (by8 ft (30 * q9 + 14)))) q9), .int ((upd vo1 q9 (nI (by8 ft (30 * q9 + 15)))) q9), .int ((upd (upd sr1 q9 0) q9 (nI (tw2 ft (30 * q9 + 16)))) q9), .int (nI (tw2 ft (30 * q9 + 18))), .int ((fr2_78) q9)]))) H := hP; rw [fam_up] at h9; simp only [upd_id] at h9 ⊢; exact h9
        have hD : va_D A (([(bb, .inl (cB, 4000, .inl f2_78)), (aB, .inr (0, [.ref sa, .ref bb, .int us2_78])), (sa, .inl (cS, 32, .inr (.inr (.inr (.inr g))))), (ta, .inr (7, [.ref tb, .int (nI L)])), (tb, .inl (cB, 9000, .inl ft))] : va_W) ++ famN 32 ad (upd le1 q9 (nI (tw2 ft (30 * q9 + 12)))) (upd tu1 q9 (nI (by8 ft (30 * q9 + 14)))) (upd vo1 q9 (nI (by8 ft (30 * q9 + 15)))) (upd (upd sr1 q9 0) q9 (nI (tw2 ft (30 * q9 + 16)))) (upd (upd lo1 q9 0) q9 (nI (tw2 ft (30 * q9 + 18)))) fr2_78) := by have h9 : va_D A (((([(bb, .inl (cB, 4000, .inl f2_78)), (aB, .inr (0, [.ref sa, .ref bb, .int us2_78])), (sa, .inl (cS, 32, .inr (.inr (.inr (.inr g))))), (ta, .inr (7, [.ref tb, .int (nI L)])), (tb, .inl (cB, 9000, .inl ft))] : va_W) ++ famN 32 ad (upd le1 q9 (nI (tw2 ft (30 * q9 + 12)))) (upd tu1 q9 (nI (by8 ft (30 * q9 + 14)))) (upd vo1 q9 (nI (by8 ft (30 * q9 + 15)))) (upd (upd sr1 q9 0) q9 (nI (tw2 ft (30 * q9 + 16)))) (upd lo1 q9 0) fr2_78) : va_W).set (([(bb, .inl (cB, 4000, .inl f2_78)), (aB, .inr (0, [.ref sa, .ref bb, .int us2_78])), (sa, .inl (cS, 32, .inr (.inr (.inr (.inr g))))), (ta, .inr (7, [.ref tb, .int (nI L)])), (tb, .inl (cB, 9000, .inl ft))] : va_W).length + q9) (ad q9, .inr (5, [.int ((upd le1 q9 (nI (tw2 ft (30 * q9 + 12)))) q9), .int ((upd tu1 q9 (nI (by8 ft (30 * q9 + 14)))) q9), .int ((upd vo1 q9 (nI (by8 ft (30 * q9 + 15)))) q9), .int ((upd (upd sr1 q9 0) q9 (nI (tw2 ft (30 * q9 + 16)))) q9), .int (nI (tw2 ft (30 * q9 + 18))), .int ((fr2_78) q9)]))) := hD; rw [fam_up] at h9; simp only [upd_id] at h9 ⊢; exact h9
        refine lv_iconst (v := 0) hx hb dX4_readSamples_121 (by decide) ?_
        refine lv_istore (lv' := [(9, .int 0), (8, .ref (ad q9)), (7, .int (nI (by8 ft (30 * q9 + 14)))), (6, .int (nI (tw2 ft (30 * q9 + 12)))), (5, .int (nI (20 + 30 * (q9 - 1)))), (4, .int (nI q9)), (3, .int (nI nx_)), (0, .ref ta), (1, .ref aB)]) hx hb dX4_readSamples_122 hl (by decide) rfl (fun ls hl => ?_)
        have hP := va_P.part (X := [(bb, .inl (cB, 4000, .inl f2_78)), (aB, .inr (0, [.ref sa, .ref bb, .int us2_78])), (sa, .inl (cS, 32, .inr (.inr (.inr (.inr g))))), (ta, .inr (7, [.ref tb, .int (nI L)])), (tb, .inl (cB, 9000, .inl ft))]) (cx := [(ta, .inr (7, [.ref tb, .int (nI L)])), (tb, .inl (cB, 9000, .inl ft)), (aB, .inr (0, [.ref sa, .ref bb, .int us2_78])), (sa, .inl (cS, 32, .inr (.inr (.inr (.inr g))))), (bb, .inl (cB, 4000, .inl f2_78))]) hP [3, 4, 1, 2, 0] rfl
        have hD := va_D.part (X := [(bb, .inl (cB, 4000, .inl f2_78)), (aB, .inr (0, [.ref sa, .ref bb, .int us2_78])), (sa, .inl (cS, 32, .inr (.inr (.inr (.inr g))))), (ta, .inr (7, [.ref tb, .int (nI L)])), (tb, .inl (cB, 9000, .inl ft))]) (cx := [(ta, .inr (7, [.ref tb, .int (nI L)])), (tb, .inl (cB, 9000, .inl ft)), (aB, .inr (0, [.ref sa, .ref bb, .int us2_78])), (sa, .inl (cS, 32, .inr (.inr (.inr (.inr g))))), (bb, .inl (cB, 4000, .inl f2_78))]) hD [3, 4, 1, 2, 0] (by decide +kernel) rfl
        have hP : va_P (dC, dI) vwCl (([(ta, .inr (7, [.ref tb, .int (nI L)])), (tb, .inl (cB, 9000, .inl ft)), (aB, .inr (0, [.ref sa, .ref bb, .int us2_78])), (sa, .inl (cS, 32, .inr (.inr (.inr (.inr g))))), (bb, .inl (cB, 4000, .inl f2_78))] : va_W) ++ famN 32 ad (upd le1 q9 (nI (tw2 ft (30 * q9 + 12)))) (upd tu1 q9 (nI (by8 ft (30 * q9 + 14)))) (upd vo1 q9 (nI (by8 ft (30 * q9 + 15)))) (upd (upd sr1 q9 0) q9 (nI (tw2 ft (30 * q9 + 16)))) (upd (upd lo1 q9 0) q9 (nI (tw2 ft (30 * q9 + 18)))) fr2_78) H := hP
        have hD : va_D A (([(ta, .inr (7, [.ref tb, .int (nI L)])), (tb, .inl (cB, 9000, .inl ft)), (aB, .inr (0, [.ref sa, .ref bb, .int us2_78])), (sa, .inl (cS, 32, .inr (.inr (.inr (.inr g))))), (bb, .inl (cB, 4000, .inl f2_78))] : va_W) ++ famN 32 ad (upd le1 q9 (nI (tw2 ft (30 * q9 + 12)))) (upd tu1 q9 (nI (by8 ft (30 * q9 + 14)))) (upd vo1 q9 (nI (by8 ft (30 * q9 + 15)))) (upd (upd sr1 q9 0) q9 (nI (tw2 ft (30 * q9 + 16)))) (upd (upd lo1 q9 0) q9 (nI (tw2 ft (30 * q9 + 18)))) fr2_78) := hD
        have LP124 : ∀ (fu124 : Nat) (q124 : Nat) (fb3 : Nat → Int32) (hq124 : q124 ≤ tw2 ft (30 * q9 + 12)) (hf3 : sb_Fit fb3) (hbt3 : ∀ jj, jj < sumTo (l2 ft) q9 + q124 → fb3 jj = ft (kz + jj)) (hm124 : tw2 ft (30 * q9 + 12) - q124 < fu124) (H : Heap) (locs : List Loc), va_P (dC, dI) vwCl (([(ta, .inr (7, [.ref tb, .int (nI L)])), (tb, .inl (cB, 9000, .inl ft)), (aB, .inr (0, [.ref sa, .ref bb, .int us2_78])), (sa, .inl (cS, 32, .inr (.inr (.inr (.inr g))))), (bb, .inl (cB, 4000, .inl fb3))] : va_W) ++ famN 32 ad (upd le1 q9 (nI (tw2 ft (30 * q9 + 12)))) (upd tu1 q9 (nI (by8 ft (30 * q9 + 14)))) (upd vo1 q9 (nI (by8 ft (30 * q9 + 15)))) (upd (upd sr1 q9 0) q9 (nI (tw2 ft (30 * q9 + 16)))) (upd (upd lo1 q9 0) q9 (nI (tw2 ft (30 * q9 + 18)))) fr2_78) H → va_D A (([(ta, .inr (7, [.ref tb, .int (nI L)])), (tb, .inl (cB, 9000, .inl ft)), (aB, .inr (0, [.ref sa, .ref bb, .int us2_78])), (sa, .inl (cS, 32, .inr (.inr (.inr (.inr g))))), (bb, .inl (cB, 4000, .inl fb3))] : va_W) ++ famN 32 ad (upd le1 q9 (nI (tw2 ft (30 * q9 + 12)))) (upd tu1 q9 (nI (by8 ft (30 * q9 + 14)))) (upd vo1 q9 (nI (by8 ft (30 * q9 + 15)))) (upd (upd sr1 q9 0) q9 (nI (tw2 ft (30 * q9 + 16)))) (upd (upd lo1 q9 0) q9 (nI (tw2 ft (30 * q9 + 18)))) fr2_78) → va_S A s.heap H locs → ∀ ls : Array Slot, lv_has ls 10 [(9, .int (nI q124)), (8, .ref (ad q9)), (6, .int (nI (tw2 ft (30 * q9 + 12)))), (4, .int (nI q9)), (3, .int (nI nx_)), (0, .ref ta), (1, .ref aB)] → W p l e ({ frames := 4, cells := 0, slots := 0, locals := 93 }) s m ([.ref ta, .ref aB, .int (nI kz)] : List Value).toArray below meth c H locs (0) (0) (MQ below (va_Qv (fun u : va_W × gT => ∃ (us2 : Int32) (f2 : Nat → Int32) (le2 : Nat → Int32) (tu2 : Nat → Int32) (vo2 : Nat → Int32) (sr2 : Nat → Int32) (lo2 : Nat → Int32) (fr2 : Nat → Int32), u = ((([(ta, .inr (7, [.ref tb, .int (nI L)])), (tb, .inl (cB, 9000, .inl ft)), (aB, .inr (0, [.ref sa, .ref bb, .int us2])), (sa, .inl (cS, 32, .inr (.inr (.inr (.inr g))))), (bb, .inl (cB, 4000, .inl f2))] : va_W) ++ famN 32 ad le2 tu2 vo2 sr2 lo2 fr2), []) ∧ bankOk (l2 ft) le2 fr2 us2 ∧ sb_Fit f2 ∧ (∀ jj, jj < sumTo (l2 ft) 32 → f2 jj = ft (kz + jj)) ∧ (∀ ss, 1 ≤ ss → ss < 32 → smF ft ss tu2 vo2 sr2 lo2)) (gB (dC, dI) A) A) ([.ref ta, .ref aB, .int (nI kz)] : List Value).toArray s 0 0 A) (F0 m 124 ls []) := by
          intro fu124
          induction fu124 with
          | zero => intro q124 fb3 hq124 hf3 hbt3 hm124; exact absurd hm124 (Nat.not_lt_zero _)
          | succ fu124 ih124 =>
            intro q124 fb3 hq124 hf3 hbt3 hm124 H locs hP hD hS ls hl
            refine lv_iload hx hb dX4_readSamples_124 (lv_at hl 0 rfl) ?_
            refine lv_iload hx hb dX4_readSamples_126 (lv_at hl 2 rfl) ?_
            refine lv_icmp_ge (tgt := 153) hx hb dX4_readSamples_128 (by decide) (fun c_128 => ?_) (fun c_128 => ?_)
            · refine lv_iload_n hx hb dX4_readSamples_153 rfl (lv_at hl 4 rfl) ?_
              refine lv_iload hx hb dX4_readSamples_154 (lv_at hl 2 rfl) ?_
              refine lv_iadd hx hb dX4_readSamples_156 ?_
              refine g_topi (y := nI (nx_ + tw2 ft (30 * q9 + 12))) (nI_add _ _) ?_
              refine lv_istore_n (lv' := [(3, .int (nI (nx_ + tw2 ft (30 * q9 + 12)))), (9, .int (nI q124)), (8, .ref (ad q9)), (6, .int (nI (tw2 ft (30 * q9 + 12)))), (4, .int (nI q9)), (0, .ref ta), (1, .ref aB)]) hx hb dX4_readSamples_157 rfl hl (by decide) rfl (fun ls hl => ?_)
              refine lv_iinc (v := nI (q9 + 1)) (lv' := [(4, .int (nI (q9 + 1))), (3, .int (nI (nx_ + tw2 ft (30 * q9 + 12)))), (9, .int (nI q124)), (8, .ref (ad q9)), (6, .int (nI (tw2 ft (30 * q9 + 12)))), (0, .ref ta), (1, .ref aB)]) hx hb dX4_readSamples_158 hl (k := 4) rfl (nI_1 q9) (by decide) rfl (fun ls hl => ?_)
              refine lv_goto (tgt := 9) hx hb dX4_readSamples_161 (by decide) ?_
              have hP : va_P (dC, dI) vwCl (([(ta, .inr (7, [.ref tb, .int (nI L)])), (tb, .inl (cB, 9000, .inl ft)), (aB, .inr (0, [.ref sa, .ref bb, .int us2_78])), (sa, .inl (cS, 32, .inr (.inr (.inr (.inr g))))), (bb, .inl (cB, 4000, .inl fb3))] : va_W) ++ famN 32 ad (upd le1 q9 (nI (tw2 ft (30 * q9 + 12)))) (upd tu1 q9 (nI (by8 ft (30 * q9 + 14)))) (upd vo1 q9 (nI (by8 ft (30 * q9 + 15)))) (upd (upd sr1 q9 0) q9 (nI (tw2 ft (30 * q9 + 16)))) (upd (upd lo1 q9 0) q9 (nI (tw2 ft (30 * q9 + 18)))) fr2_78) H := hP
              have hD : va_D A (([(ta, .inr (7, [.ref tb, .int (nI L)])), (tb, .inl (cB, 9000, .inl ft)), (aB, .inr (0, [.ref sa, .ref bb, .int us2_78])), (sa, .inl (cS, 32, .inr (.inr (.inr (.inr g))))), (bb, .inl (cB, 4000, .inl fb3))] : va_W) ++ famN 32 ad (upd le1 q9 (nI (tw2 ft (30 * q9 + 12)))) (upd tu1 q9 (nI (by8 ft (30 * q9 + 14)))) (upd vo1 q9 (nI (by8 ft (30 * q9 + 15)))) (upd (upd sr1 q9 0) q9 (nI (tw2 ft (30 * q9 + 16)))) (upd (upd lo1 q9 0) q9 (nI (tw2 ft (30 * q9 + 18)))) fr2_78) := hD
              exact ih9 (q9 + 1) us2_78 fb3 (upd le1 q9 (nI (tw2 ft (30 * q9 + 12)))) (upd tu1 q9 (nI (by8 ft (30 * q9 + 14)))) (upd vo1 q9 (nI (by8 ft (30 * q9 + 15)))) (upd (upd sr1 q9 0) q9 (nI (tw2 ft (30 * q9 + 16)))) (upd (upd lo1 q9 0) q9 (nI (tw2 ft (30 * q9 + 18)))) fr2_78 (nx_ + tw2 ft (30 * q9 + 12)) (by omega) (by omega) (by rw [← lnq_s ft hq9a]; exact hB2_78) (hf3) (fun jj hj => hbt3 jj (by rw [l2_s ft hq9a] at hj; have := nI_le' c_128 (by have := tw2_lt ft (30 * q9 + 12); omega) (by omega); omega)) (smF_s hsm1 (by unfold tnF; rw [if_neg (fun qw => by have := nI_le' (b := 7) c_56 (by have := by8_lt ft (30 * q9 + 14); omega) (by decide); omega)]) rfl) (by rw [l2_s ft hq9a]; omega) (by omega) _ _ hP hD hS _ (lv_sub hl [0, 1, 5, 6] rfl)
            refine lv_aload_n hx hb dX4_readSamples_131 rfl (lv_at hl 6 rfl) ?_
            refine lv_aload hx hb dX4_readSamples_132 (lv_at hl 1 rfl) ?_
            refine lv_iload hx hb dX4_readSamples_134 (lv_at hl 0 rfl) ?_
            refine lv_aload_n hx hb dX4_readSamples_136 rfl (lv_at hl 5 rfl) ?_
            refine lv_iload_n hx hb dX4_readSamples_137 rfl (lv_at hl 4 rfl) ?_
            refine lv_iload hx hb dX4_readSamples_138 (lv_at hl 0 rfl) ?_
            refine lv_iadd hx hb dX4_readSamples_140 ?_
            refine g_topi (y := nI (nx_ + q124)) (nI_add _ _) ?_
            refine g_calliQ (X := [(ta, .inr (7, [.ref tb, .int (nI L)])), (tb, .inl (cB, 9000, .inl ft)), (aB, .inr (0, [.ref sa, .ref bb, .int us2_78])), (sa, .inl (cS, 32, .inr (.inr (.inr (.inr g))))), (bb, .inl (cB, 4000, .inl fb3))]) (wr := [(aB, .inr (0, [.ref sa, .ref bb, .int us2_78])), (sa, .inl (cS, 32, .inr (.inr (.inr (.inr g))))), (bb, .inl (cB, 4000, .inl fb3))]) (va_runV (As := [.int (nI (nx_ + q124))]) (rest := [.int (nI q124), .ref (ad q9), .ref aB]) ⟨hx, hb, hml, hown, hts⟩ (x_at l dC dI H.size ta tb cB ft L (nx_ + q124) (hL) (by have := nI_nle' c_128 (by omega); omega)) (cwV 1 hts (gG_V kw_295 kw_296 kw_297 kw_18 kw_298) rfl rfl rfl (by decide +kernel) ⟨Nat.le_of_ble_eq_true rfl, Nat.le_of_ble_eq_true rfl⟩) (g_preV (ws := [(ta, .inr (7, [.ref tb, .int (nI L)])), (tb, .inl (cB, 9000, .inl ft)), (aB, .inr (0, [.ref sa, .ref bb, .int us2_78])), (sa, .inl (cS, 32, .inr (.inr (.inr (.inr g))))), (bb, .inl (cB, 4000, .inl fb3))]) (C := RX7) (T := TX7) (N := 2) hP.left hD.left hK hS hA hN hZ (q0 := 0) rfl rfl [0, 1] (by decide +kernel) rfl [0] rfl) rfl rfl hl.1 rfl (lv_room (Nat.le_of_ble_eq_true rfl)) dX4_readSamples_141 ⟨Nat.le_of_ble_eq_true rfl, Nat.le_of_ble_eq_true rfl⟩) hP hD hK hS hA [0, 1] [2, 3, 4] rfl rfl (by decide +kernel) (by decide +kernel) (fun r_141 w ty1 H locs hw_141 hP hD _ hS => ?_)
            rcases hw_141 with ⟨hu, hr_141⟩
            cases hu
            have hP : va_P (dC, dI) vwCl (([(aB, .inr (0, [.ref sa, .ref bb, .int us2_78])), (sa, .inl (cS, 32, .inr (.inr (.inr (.inr g))))), (bb, .inl (cB, 4000, .inl fb3)), (ta, .inr (7, [.ref tb, .int (nI L)])), (tb, .inl (cB, 9000, .inl ft))] : va_W) ++ famN 32 ad (upd le1 q9 (nI (tw2 ft (30 * q9 + 12)))) (upd tu1 q9 (nI (by8 ft (30 * q9 + 14)))) (upd vo1 q9 (nI (by8 ft (30 * q9 + 15)))) (upd (upd sr1 q9 0) q9 (nI (tw2 ft (30 * q9 + 16)))) (upd (upd lo1 q9 0) q9 (nI (tw2 ft (30 * q9 + 18)))) fr2_78) H := hP
            have hD : va_D A (([(aB, .inr (0, [.ref sa, .ref bb, .int us2_78])), (sa, .inl (cS, 32, .inr (.inr (.inr (.inr g))))), (bb, .inl (cB, 4000, .inl fb3)), (ta, .inr (7, [.ref tb, .int (nI L)])), (tb, .inl (cB, 9000, .inl ft))] : va_W) ++ famN 32 ad (upd le1 q9 (nI (tw2 ft (30 * q9 + 12)))) (upd tu1 q9 (nI (by8 ft (30 * q9 + 14)))) (upd vo1 q9 (nI (by8 ft (30 * q9 + 15)))) (upd (upd sr1 q9 0) q9 (nI (tw2 ft (30 * q9 + 16)))) (upd (upd lo1 q9 0) q9 (nI (tw2 ft (30 * q9 + 18)))) fr2_78) := hD
            refine g_topi (y := nI (by8 ft (nx_ + q124))) hr_141 ?_
            refine g_callvP (X := [(aB, .inr (0, [.ref sa, .ref bb, .int us2_78])), (sa, .inl (cS, 32, .inr (.inr (.inr (.inr g))))), (bb, .inl (cB, 4000, .inl fb3)), (ta, .inr (7, [.ref tb, .int (nI L)])), (tb, .inl (cB, 9000, .inl ft))]) (wr := [(sa, .inl (cS, 32, .inr (.inr (.inr (.inr g))))), (ta, .inr (7, [.ref tb, .int (nI L)])), (tb, .inl (cB, 9000, .inl ft))]) (va_runV (As := [.ref (ad q9), .int (nI q124), .int (nI (by8 ft (nx_ + q124)))]) (rest := []) ⟨hx, hb, hml, hown, hts⟩ (g_putByte l dC dI H.size aB sa bb us2_78 ad cB fb3 (upd le1 q9 (nI (tw2 ft (30 * q9 + 12)))) (upd tu1 q9 (nI (by8 ft (30 * q9 + 14)))) (upd vo1 q9 (nI (by8 ft (30 * q9 + 15)))) (upd (upd sr1 q9 0) q9 (nI (tw2 ft (30 * q9 + 16)))) (upd (upd lo1 q9 0) q9 (nI (tw2 ft (30 * q9 + 18)))) fr2_78 q9 (sumTo (l2 ft) q9 + q124) (nI q124) (nI (by8 ft (nx_ + q124))) (hq3) (by have := nI_nle' c_128 (by omega); omega) (by rw [hfr]; exact nI_add _ _)) (cwV 3 hts (gG_V kw_416 kw_417 kw_418 kw_22 kw_419) rfl rfl rfl (by decide +kernel) ⟨Nat.le_of_ble_eq_true rfl, Nat.le_of_ble_eq_true rfl⟩) (g_preVP (X := [(aB, .inr (0, [.ref sa, .ref bb, .int us2_78])), (sa, .inl (cS, 32, .inr (.inr (.inr (.inr g))))), (bb, .inl (cB, 4000, .inl fb3)), (ta, .inr (7, [.ref tb, .int (nI L)])), (tb, .inl (cB, 9000, .inl ft))]) (C := RX0) (T := TX0) (N := 3) hP hD hK hS hA hN hZ (q0 := 0) rfl rfl [0, 2] (by decide +kernel) rfl [0] rfl) rfl rfl hl.1 rfl (lv_room (Nat.le_of_ble_eq_true rfl)) dX4_readSamples_144 ⟨Nat.le_of_ble_eq_true rfl, Nat.le_of_ble_eq_true rfl⟩) hP hD hK hS hA [0, 2] [1, 3, 4] rfl rfl (by decide +kernel) (by decide +kernel) (fun w ty1 H locs hw_144 hJ _ hS => ?_)
            have hu := hw_144
            cases hu
            obtain ⟨hP, hD⟩ := hJ _ _ rfl
            have hP : va_P (dC, dI) vwCl (([(sa, .inl (cS, 32, .inr (.inr (.inr (.inr g))))), (ta, .inr (7, [.ref tb, .int (nI L)])), (tb, .inl (cB, 9000, .inl ft)), (aB, .inr (0, [.ref sa, .ref bb, .int us2_78])), (bb, .inl (cB, 4000, .inl (upd fb3 (sumTo (l2 ft) q9 + q124) (nI (by8 ft (nx_ + q124))).toInt8.toInt32)))] : va_W) ++ famN 32 ad (upd le1 q9 (nI (tw2 ft (30 * q9 + 12)))) (upd tu1 q9 (nI (by8 ft (30 * q9 + 14)))) (upd vo1 q9 (nI (by8 ft (30 * q9 + 15)))) (upd (upd sr1 q9 0) q9 (nI (tw2 ft (30 * q9 + 16)))) (upd (upd lo1 q9 0) q9 (nI (tw2 ft (30 * q9 + 18)))) fr2_78) H := hP
            have hD : va_D A (([(sa, .inl (cS, 32, .inr (.inr (.inr (.inr g))))), (ta, .inr (7, [.ref tb, .int (nI L)])), (tb, .inl (cB, 9000, .inl ft)), (aB, .inr (0, [.ref sa, .ref bb, .int us2_78])), (bb, .inl (cB, 4000, .inl (upd fb3 (sumTo (l2 ft) q9 + q124) (nI (by8 ft (nx_ + q124))).toInt8.toInt32)))] : va_W) ++ famN 32 ad (upd le1 q9 (nI (tw2 ft (30 * q9 + 12)))) (upd tu1 q9 (nI (by8 ft (30 * q9 + 14)))) (upd vo1 q9 (nI (by8 ft (30 * q9 + 15)))) (upd (upd sr1 q9 0) q9 (nI (tw2 ft (30 * q9 + 16)))) (upd (upd lo1 q9 0) q9 (nI (tw2 ft (30 * q9 + 18)))) fr2_78) := hD
            refine lv_iinc (v := nI (q124 + 1)) (lv' := [(9, .int (nI (q124 + 1))), (8, .ref (ad q9)), (6, .int (nI (tw2 ft (30 * q9 + 12)))), (4, .int (nI q9)), (3, .int (nI nx_)), (0, .ref ta), (1, .ref aB)]) hx hb dX4_readSamples_147 hl (k := 0) rfl (nI_1 q124) (by decide) rfl (fun ls hl => ?_)
            refine lv_goto (tgt := 124) hx hb dX4_readSamples_150 (by decide) ?_
            have hP := va_P.part (X := [(sa, .inl (cS, 32, .inr (.inr (.inr (.inr g))))), (ta, .inr (7, [.ref tb, .int (nI L)])), (tb, .inl (cB, 9000, .inl ft)), (aB, .inr (0, [.ref sa, .ref bb, .int us2_78])), (bb, .inl (cB, 4000, .inl (upd fb3 (sumTo (l2 ft) q9 + q124) (nI (by8 ft (nx_ + q124))).toInt8.toInt32)))]) (cx := [(ta, .inr (7, [.ref tb, .int (nI L)])), (tb, .inl (cB, 9000, .inl ft)), (aB, .inr (0, [.ref sa, .ref bb, .int us2_78])), (sa, .inl (cS, 32, .inr (.inr (.inr (.inr g))))), (bb, .inl (cB, 4000, .inl (upd fb3 (sumTo (l2 ft) q9 + q124) (nI (by8 ft (nx_ + q124))).toInt8.toInt32)))]) hP [1, 2, 3, 0, 4] rfl
            have hD := va_D.part (X := [(sa, .inl (cS, 32, .inr (.inr (.inr (.inr g))))), (ta, .inr (7, [.ref tb, .int (nI L)])), (tb, .inl (cB, 9000, .inl ft)), (aB, .inr (0, [.ref sa, .ref bb, .int us2_78])), (bb, .inl (cB, 4000, .inl (upd fb3 (sumTo (l2 ft) q9 + q124) (nI (by8 ft (nx_ + q124))).toInt8.toInt32)))]) (cx := [(ta, .inr (7, [.ref tb, .int (nI L)])), (tb, .inl (cB, 9000, .inl ft)), (aB, .inr (0, [.ref sa, .ref bb, .int us2_78])), (sa, .inl (cS, 32, .inr (.inr (.inr (.inr g))))), (bb, .inl (cB, 4000, .inl (upd fb3 (sumTo (l2 ft) q9 + q124) (nI (by8 ft (nx_ + q124))).toInt8.toInt32)))]) hD [1, 2, 3, 0, 4] (by decide +kernel) rfl
            have hP : va_P (dC, dI) vwCl (([(ta, .inr (7, [.ref tb, .int (nI L)])), (tb, .inl (cB, 9000, .inl ft)), (aB, .inr (0, [.ref sa, .ref bb, .int us2_78])), (sa, .inl (cS, 32, .inr (.inr (.inr (.inr g))))), (bb, .inl (cB, 4000, .inl (upd fb3 (sumTo (l2 ft) q9 + q124) (nI (by8 ft (nx_ + q124))).toInt8.toInt32)))] : va_W) ++ famN 32 ad (upd le1 q9 (nI (tw2 ft (30 * q9 + 12)))) (upd tu1 q9 (nI (by8 ft (30 * q9 + 14)))) (upd vo1 q9 (nI (by8 ft (30 * q9 + 15)))) (upd (upd sr1 q9 0) q9 (nI (tw2 ft (30 * q9 + 16)))) (upd (upd lo1 q9 0) q9 (nI (tw2 ft (30 * q9 + 18)))) fr2_78) H := hP
            have hD : va_D A (([(ta, .inr (7, [.ref tb, .int (nI L)])), (tb, .inl (cB, 9000, .inl ft)), (aB, .inr (0, [.ref sa, .ref bb, .int us2_78])), (sa, .inl (cS, 32, .inr (.inr (.inr (.inr g))))), (bb, .inl (cB, 4000, .inl (upd fb3 (sumTo (l2 ft) q9 + q124) (nI (by8 ft (nx_ + q124))).toInt8.toInt32)))] : va_W) ++ famN 32 ad (upd le1 q9 (nI (tw2 ft (30 * q9 + 12)))) (upd tu1 q9 (nI (by8 ft (30 * q9 + 14)))) (upd vo1 q9 (nI (by8 ft (30 * q9 + 15)))) (upd (upd sr1 q9 0) q9 (nI (tw2 ft (30 * q9 + 16)))) (upd (upd lo1 q9 0) q9 (nI (tw2 ft (30 * q9 + 18)))) fr2_78) := hD
            exact ih124 (q124 + 1) (upd fb3 (sumTo (l2 ft) q9 + q124) (nI (by8 ft (nx_ + q124))).toInt8.toInt32) (by have := nI_nle' c_128 (by omega); omega) (fit_upd hf3) (cp_s hbt3 (by rw [enx_, Nat.add_assoc]; exact b8_e hb8 (by have := nI_nle' c_128 (by omega); omega))) (by have := nI_nle' c_128 (by omega); omega) _ _ hP hD hS _ (lv_sub hl [0, 1, 2, 3, 4, 5, 6] rfl)
        exact LP124 _ 0 f2_78 (Nat.zero_le _) (hfi) (hkp) (Nat.lt_succ_self _) _ _ hP hD hS _ (lv_sub hl [0, 1, 3, 5, 6, 7, 8] rfl)
      refine lv_iload hx hb dX4_readSamples_59 (lv_at hl 0 rfl) ?_
      refine lv_bipush (v := 16) hx hb dX4_readSamples_61 (by decide) ?_
      refine lv_isub hx hb dX4_readSamples_63 ?_
      refine lv_goto (tgt := 69) hx hb dX4_readSamples_64 (by decide) ?_
      refine lv_aload_n hx hb dX4_readSamples_69 rfl (lv_at hl 5 rfl) ?_
      refine lv_iload hx hb dX4_readSamples_70 (lv_at hl 2 rfl) ?_
      refine lv_bipush (v := 25) hx hb dX4_readSamples_72 (by decide) ?_
      refine lv_iadd hx hb dX4_readSamples_74 ?_
      refine g_topi (y := nI (30 * q9 + 15)) ((nI_add _ 25).trans (up_e (by omega))) ?_
      refine g_calliQ (X := [(aB, .inr (0, [.ref sa, .ref bb, .int us1])), (sa, .inl (cS, 32, .inr (.inr (.inr (.inr g))))), (bb, .inl (cB, 4000, .inl fb1)), (ta, .inr (7, [.ref tb, .int (nI L)])), (tb, .inl (cB, 9000, .inl ft))]) (wr := [(aB, .inr (0, [.ref sa, .ref bb, .int us1])), (sa, .inl (cS, 32, .inr (.inr (.inr (.inr g))))), (bb, .inl (cB, 4000, .inl fb1))]) (va_runV (As := [.int (nI (30 * q9 + 15))]) (rest := [.int ((nI (by8 ft (30 * q9 + 14))) - 16), .int (nI (tw2 ft (30 * q9 + 12))), .int (nI q9), .ref aB]) ⟨hx, hb, hml, hown, hts⟩ (x_at l dC dI H.size ta tb cB ft L (30 * q9 + 15) (hL) (by omega)) (cwV 1 hts (gG_V kw_295 kw_296 kw_297 kw_18 kw_298) rfl rfl rfl (by decide +kernel) ⟨Nat.le_of_ble_eq_true rfl, Nat.le_of_ble_eq_true rfl⟩) (g_preV (ws := [(aB, .inr (0, [.ref sa, .ref bb, .int us1])), (sa, .inl (cS, 32, .inr (.inr (.inr (.inr g))))), (bb, .inl (cB, 4000, .inl fb1)), (ta, .inr (7, [.ref tb, .int (nI L)])), (tb, .inl (cB, 9000, .inl ft))]) (C := RX7) (T := TX7) (N := 2) hP.left hD.left hK hS hA hN hZ (q0 := 3) rfl rfl [3, 4] (by decide +kernel) rfl [0] rfl) rfl rfl hl.1 rfl (lv_room (Nat.le_of_ble_eq_true rfl)) dX4_readSamples_75 ⟨Nat.le_of_ble_eq_true rfl, Nat.le_of_ble_eq_true rfl⟩) hP hD hK hS hA [3, 4] [0, 1, 2] rfl rfl (by decide +kernel) (by decide +kernel) (fun r_75 w ty1 H locs hw_75 hP hD _ hS => ?_)
      rcases hw_75 with ⟨hu, hr_75⟩
      cases hu
      have hP : va_P (dC, dI) vwCl (([(aB, .inr (0, [.ref sa, .ref bb, .int us1])), (sa, .inl (cS, 32, .inr (.inr (.inr (.inr g))))), (bb, .inl (cB, 4000, .inl fb1)), (ta, .inr (7, [.ref tb, .int (nI L)])), (tb, .inl (cB, 9000, .inl ft))] : va_W) ++ famN 32 ad le1 tu1 vo1 sr1 lo1 fr1) H := hP
      have hD : va_D A (([(aB, .inr (0, [.ref sa, .ref bb, .int us1])), (sa, .inl (cS, 32, .inr (.inr (.inr (.inr g))))), (bb, .inl (cB, 4000, .inl fb1)), (ta, .inr (7, [.ref tb, .int (nI L)])), (tb, .inl (cB, 9000, .inl ft))] : va_W) ++ famN 32 ad le1 tu1 vo1 sr1 lo1 fr1) := hD
      refine g_topi (y := nI (by8 ft (30 * q9 + 15))) hr_75 ?_
      refine g_callvP (X := [(aB, .inr (0, [.ref sa, .ref bb, .int us1])), (sa, .inl (cS, 32, .inr (.inr (.inr (.inr g))))), (bb, .inl (cB, 4000, .inl fb1)), (ta, .inr (7, [.ref tb, .int (nI L)])), (tb, .inl (cB, 9000, .inl ft))]) (wr := [(ta, .inr (7, [.ref tb, .int (nI L)])), (tb, .inl (cB, 9000, .inl ft))]) (va_runV (As := [.int (nI q9), .int (nI (tw2 ft (30 * q9 + 12))), .int ((nI (by8 ft (30 * q9 + 14))) - 16), .int (nI (by8 ft (30 * q9 + 15)))]) (rest := []) ⟨hx, hb, hml, hown, hts⟩ (g_reshape l dC dI H.size aB sa bb us1 ad cS cB g fb1 le1 tu1 vo1 sr1 lo1 fr1 (lnq ft q9) q9 (tw2 ft (30 * q9 + 12)) ((nI (by8 ft (30 * q9 + 14))) - 16) (nI (by8 ft (30 * q9 + 15))) (hg) (hq9a) (hq3) (hw1) (tw2_ev ft _) (hB1) (by rw [hs3, hlq]; omega) (hf1)) (cwV 4 hts (gG_V kw_384 kw_385 kw_386 kw_22 kw_387) rfl rfl rfl (by decide +kernel) ⟨Nat.le_of_ble_eq_true rfl, Nat.le_of_ble_eq_true rfl⟩) (g_preVP (X := [(aB, .inr (0, [.ref sa, .ref bb, .int us1])), (sa, .inl (cS, 32, .inr (.inr (.inr (.inr g))))), (bb, .inl (cB, 4000, .inl fb1)), (ta, .inr (7, [.ref tb, .int (nI L)])), (tb, .inl (cB, 9000, .inl ft))]) (C := RX0) (T := TX0) (N := 3) hP hD hK hS hA hN hZ (q0 := 0) rfl rfl [0, 1, 2] (by decide +kernel) rfl [1, 0] rfl) rfl rfl hl.1 rfl (lv_room (Nat.le_of_ble_eq_true rfl)) dX4_readSamples_78 ⟨Nat.le_of_ble_eq_true rfl, Nat.le_of_ble_eq_true rfl⟩) hP hD hK hS hA [0, 1, 2] [3, 4] rfl rfl (by decide +kernel) (by decide +kernel) (fun w ty1 H locs hw_78 hJ _ hS => ?_)
      rcases hw_78 with ⟨us2_78, f2_78, fr2_78, hu, hB2_78, hf2_78⟩
      cases hu
      obtain ⟨hP, hD⟩ := hJ _ _ rfl
      have hP : va_P (dC, dI) vwCl (([(ta, .inr (7, [.ref tb, .int (nI L)])), (tb, .inl (cB, 9000, .inl ft)), (aB, .inr (0, [.ref sa, .ref bb, .int us2_78])), (sa, .inl (cS, 32, .inr (.inr (.inr (.inr g))))), (bb, .inl (cB, 4000, .inl f2_78))] : va_W) ++ famN 32 ad (upd le1 q9 (nI (tw2 ft (30 * q9 + 12)))) (upd tu1 q9 ((nI (by8 ft (30 * q9 + 14))) - 16)) (upd vo1 q9 (nI (by8 ft (30 * q9 + 15)))) (upd sr1 q9 0) (upd lo1 q9 0) fr2_78) H := hP
      have hD : va_D A (([(ta, .inr (7, [.ref tb, .int (nI L)])), (tb, .inl (cB, 9000, .inl ft)), (aB, .inr (0, [.ref sa, .ref bb, .int us2_78])), (sa, .inl (cS, 32, .inr (.inr (.inr (.inr g))))), (bb, .inl (cB, 4000, .inl f2_78))] : va_W) ++ famN 32 ad (upd le1 q9 (nI (tw2 ft (30 * q9 + 12)))) (upd tu1 q9 ((nI (by8 ft (30 * q9 + 14))) - 16)) (upd vo1 q9 (nI (by8 ft (30 * q9 + 15)))) (upd sr1 q9 0) (upd lo1 q9 0) fr2_78) := hD
      have hkp : ∀ jj, jj < sumTo (l2 ft) q9 → f2_78 jj = ft (kz + jj) := fun jj hj => (rs_keep hf2_78 (by rw [hs3, hse, hlq]; omega) (by rw [hse]; exact hj)).trans (hbt1 jj hj)
      have hfr := bk_fr hB2_78 hq3
      rw [sumTo_le _ _ _ _ (Nat.le_refl q9), hse] at hfr
      have hfi := fit_rs hf1 hf2_78
      refine lv_aload_n hx hb dX4_readSamples_81 rfl (lv_at hl 6 rfl) ?_
      refine lv_iload hx hb dX4_readSamples_82 (lv_at hl 3 rfl) ?_
      refine g_callqQ (X := [(ta, .inr (7, [.ref tb, .int (nI L)])), (tb, .inl (cB, 9000, .inl ft)), (aB, .inr (0, [.ref sa, .ref bb, .int us2_78])), (sa, .inl (cS, 32, .inr (.inr (.inr (.inr g))))), (bb, .inl (cB, 4000, .inl f2_78))]) (wr := [(ta, .inr (7, [.ref tb, .int (nI L)])), (tb, .inl (cB, 9000, .inl ft)), (bb, .inl (cB, 4000, .inl f2_78))]) (va_runV (As := [.int (nI q9)]) (rest := []) ⟨hx, hb, hml, hown, hts⟩ (c_get l dC dI H.size aB sa bb us2_78 ad cS g q9 (hg) (hq3)) (cwV 1 hts (gG_V kw_415 kw_405 kw_406 kw_22 kw_407) rfl rfl rfl (by decide +kernel) ⟨Nat.le_of_ble_eq_true rfl, Nat.le_of_ble_eq_true rfl⟩) (g_preV (ws := [(ta, .inr (7, [.ref tb, .int (nI L)])), (tb, .inl (cB, 9000, .inl ft)), (aB, .inr (0, [.ref sa, .ref bb, .int us2_78])), (sa, .inl (cS, 32, .inr (.inr (.inr (.inr g))))), (bb, .inl (cB, 4000, .inl f2_78))]) (C := RX0) (T := TX0) (N := 3) hP.left hD.left hK hS hA hN hZ (q0 := 2) rfl rfl [2, 3] (by decide +kernel) rfl [1] rfl) rfl rfl hl.1 rfl (lv_room (Nat.le_of_ble_eq_true rfl)) dX4_readSamples_84 ⟨Nat.le_of_ble_eq_true rfl, Nat.le_of_ble_eq_true rfl⟩) hP hD hK hS hA [2, 3] [0, 1, 4] rfl rfl (by decide +kernel) (by decide +kernel) (fun r_84 w ty1 H locs hw_84 hP hD _ hS => ?_)
      rcases hw_84 with ⟨hu, hr_84⟩
      cases hu
      have hP : va_P (dC, dI) vwCl (([(ta, .inr (7, [.ref tb, .int (nI L)])), (tb, .inl (cB, 9000, .inl ft)), (bb, .inl (cB, 4000, .inl f2_78)), (aB, .inr (0, [.ref sa, .ref bb, .int us2_78])), (sa, .inl (cS, 32, .inr (.inr (.inr (.inr g)))))] : va_W) ++ famN 32 ad (upd le1 q9 (nI (tw2 ft (30 * q9 + 12)))) (upd tu1 q9 ((nI (by8 ft (30 * q9 + 14))) - 16)) (upd vo1 q9 (nI (by8 ft (30 * q9 + 15)))) (upd sr1 q9 0) (upd lo1 q9 0) fr2_78) H := hP
      have hD : va_D A (([(ta, .inr (7, [.ref tb, .int (nI L)])), (tb, .inl (cB, 9000, .inl ft)), (bb, .inl (cB, 4000, .inl f2_78)), (aB, .inr (0, [.ref sa, .ref bb, .int us2_78])), (sa, .inl (cS, 32, .inr (.inr (.inr (.inr g)))))] : va_W) ++ famN 32 ad (upd le1 q9 (nI (tw2 ft (30 * q9 + 12)))) (upd tu1 q9 ((nI (by8 ft (30 * q9 + 14))) - 16)) (upd vo1 q9 (nI (by8 ft (30 * q9 + 15)))) (upd sr1 q9 0) (upd lo1 q9 0) fr2_78) := hD
      subst hr_84
      refine W.eq (g2 := F0 m 87 ls [.ref (ad q9)]) rfl ?_
      refine lv_astore (lv' := [(8, .ref (ad q9)), (7, .int (nI (by8 ft (30 * q9 + 14)))), (6, .int (nI (tw2 ft (30 * q9 + 12)))), (5, .int (nI (20 + 30 * (q9 - 1)))), (4, .int (nI q9)), (3, .int (nI nx_)), (0, .ref ta), (1, .ref aB)]) hx hb dX4_readSamples_87 hl (by decide) rfl (fun ls hl => ?_)
      refine lv_aload hx hb dX4_readSamples_89 (lv_at hl 0 rfl) ?_
      refine lv_iconst (v := 2) hx hb dX4_readSamples_91 (by decide) ?_
      refine lv_aload_n hx hb dX4_readSamples_92 rfl (lv_at hl 6 rfl) ?_
      refine lv_iload hx hb dX4_readSamples_93 (lv_at hl 3 rfl) ?_
      refine lv_bipush (v := 26) hx hb dX4_readSamples_95 (by decide) ?_
      refine lv_iadd hx hb dX4_readSamples_97 ?_
      refine g_topi (y := nI (30 * q9 + 16)) ((nI_add _ 26).trans (up_e (by omega))) ?_
      refine g_calliQ (X := [(ta, .inr (7, [.ref tb, .int (nI L)])), (tb, .inl (cB, 9000, .inl ft)), (bb, .inl (cB, 4000, .inl f2_78)), (aB, .inr (0, [.ref sa, .ref bb, .int us2_78])), (sa, .inl (cS, 32, .inr (.inr (.inr (.inr g)))))]) (wr := [(bb, .inl (cB, 4000, .inl f2_78)), (aB, .inr (0, [.ref sa, .ref bb, .int us2_78])), (sa, .inl (cS, 32, .inr (.inr (.inr (.inr g)))))]) (va_runV (As := [.int (nI (30 * q9 + 16))]) (rest := [.int 2, .ref (ad q9)]) ⟨hx, hb, hml, hown, hts⟩ (x_pair l dC dI H.size ta tb cB ft L (30 * q9 + 16) (hL) (by omega)) (cwV 1 hts (gG_V kw_309 kw_310 kw_311 kw_18 kw_312) rfl rfl rfl (by decide +kernel) ⟨Nat.le_of_ble_eq_true rfl, Nat.le_of_ble_eq_true rfl⟩) (g_preV (ws := [(ta, .inr (7, [.ref tb, .int (nI L)])), (tb, .inl (cB, 9000, .inl ft)), (bb, .inl (cB, 4000, .inl f2_78)), (aB, .inr (0, [.ref sa, .ref bb, .int us2_78])), (sa, .inl (cS, 32, .inr (.inr (.inr (.inr g)))))]) (C := RX7) (T := TX7) (N := 2) hP.left hD.left hK hS hA hN hZ (q0 := 0) rfl rfl [0, 1] (by decide +kernel) rfl [0] rfl) rfl rfl hl.1 rfl (lv_room (Nat.le_of_ble_eq_true rfl)) dX4_readSamples_98 ⟨Nat.le_of_ble_eq_true rfl, Nat.le_of_ble_eq_true rfl⟩) hP hD hK hS hA [0, 1] [2, 3, 4] rfl rfl (by decide +kernel) (by decide +kernel) (fun r_98 w ty1 H locs hw_98 hP hD _ hS => ?_)
      rcases hw_98 with ⟨hu, hr_98⟩
      cases hu
      have hP : va_P (dC, dI) vwCl (([(bb, .inl (cB, 4000, .inl f2_78)), (aB, .inr (0, [.ref sa, .ref bb, .int us2_78])), (sa, .inl (cS, 32, .inr (.inr (.inr (.inr g))))), (ta, .inr (7, [.ref tb, .int (nI L)])), (tb, .inl (cB, 9000, .inl ft))] : va_W) ++ famN 32 ad (upd le1 q9 (nI (tw2 ft (30 * q9 + 12)))) (upd tu1 q9 ((nI (by8 ft (30 * q9 + 14))) - 16)) (upd vo1 q9 (nI (by8 ft (30 * q9 + 15)))) (upd sr1 q9 0) (upd lo1 q9 0) fr2_78) H := hP
      have hD : va_D A (([(bb, .inl (cB, 4000, .inl f2_78)), (aB, .inr (0, [.ref sa, .ref bb, .int us2_78])), (sa, .inl (cS, 32, .inr (.inr (.inr (.inr g))))), (ta, .inr (7, [.ref tb, .int (nI L)])), (tb, .inl (cB, 9000, .inl ft))] : va_W) ++ famN 32 ad (upd le1 q9 (nI (tw2 ft (30 * q9 + 12)))) (upd tu1 q9 ((nI (by8 ft (30 * q9 + 14))) - 16)) (upd vo1 q9 (nI (by8 ft (30 * q9 + 15)))) (upd sr1 q9 0) (upd lo1 q9 0) fr2_78) := hD
      refine g_topi (y := nI (256 * by8 ft (30 * q9 + 16) + by8 ft ((30 * q9 + 16) + 1))) hr_98 ?_
      refine lv_imul hx hb dX4_readSamples_101 ?_
      refine g_topi (y := nI (tw2 ft (30 * q9 + 16))) (pk_mul 2 _) ?_
      refine va_put (D := (dC, dI)) (ci := 5) (v := .int (nI (tw2 ft (30 * q9 + 16)))) (ty := tyX5 3) (C := RX5) (T := TX5) (N := 6) hx hb hts iwX5 tyX5 tyX5_ok nmX5 hown hK hP hD hS _ (fam_at (k := q9) (hq3)) rfl 3 (by decide) (hts (.fieldLink RX4 120 "ModulePlayer$Sample" "start" "I") (List.mem_cons_of_mem _ kw_375)) (fun _ h9 => h9) rfl (by decide +kernel) rfl rfl (Nat.le_of_ble_eq_true rfl) dX4_readSamples_102 (fun H locs hP hD hS => ?_)
      have hP : va_P (dC, dI) vwCl (([(bb, .inl (cB, 4000, .inl f2_78)), (aB, .inr (0, [.ref sa, .ref bb, .int us2_78])), (sa, .inl (cS, 32, .inr (.inr (.inr (.inr g))))), (ta, .inr (7, [.ref tb, .int (nI L)])), (tb, .inl (cB, 9000, .inl ft))] : va_W) ++ famN 32 ad (upd le1 q9 (nI (tw2 ft (30 * q9 + 12)))) (upd tu1 q9 ((nI (by8 ft (30 * q9 + 14))) - 16)) (upd vo1 q9 (nI (by8 ft (30 * q9 + 15)))) (upd (upd sr1 q9 0) q9 (nI (tw2 ft (30 * q9 + 16)))) (upd lo1 q9 0) fr2_78) H := by have h9 : va_P (dC, dI) vwCl (((([(bb, .inl (cB, 4000, .inl f2_78)), (aB, .inr (0, [.ref sa, .ref bb, .int us2_78])), (sa, .inl (cS, 32, .inr (.inr (.inr (.inr g))))), (ta, .inr (7, [.ref tb, .int (nI L)])), (tb, .inl (cB, 9000, .inl ft))] : va_W) ++ famN 32 ad (upd le1 q9 (nI (tw2 ft (30 * q9 + 12)))) (upd tu1 q9 ((nI (by8 ft (30 * q9 + 14))) - 16)) (upd vo1 q9 (nI (by8 ft (30 * q9 + 15)))) (upd sr1 q9 0) (upd lo1 q9 0) fr2_78) : va_W).set (([(bb, .inl (cB, 4000, .inl f2_78)), (aB, .inr (0, [.ref sa, .ref bb, .int us2_78])), (sa, .inl (cS, 32, .inr (.inr (.inr (.inr g))))), (ta, .inr (7, [.ref tb, .int (nI L)])), (tb, .inl (cB, 9000, .inl ft))] : va_W).length + q9) (ad q9, .inr (5, [.int ((upd le1 q9 (nI (tw2 ft (30 * q9 + 12)))) q9), .int ((upd tu1 q9 ((nI (by8 ft (30 * q9 + 14))) - 16)) q9), .int ((upd vo1 q9 (nI (by8 ft (30 * q9 + 15)))) q9), .int (nI (tw2 ft (30 * q9 + 16))), .int ((upd lo1 q9 0) q9), .int ((fr2_78) q9)]))) H := hP; rw [fam_up] at h9; simp only [upd_id] at h9 ⊢; exact h9
      have hD : va_D A (([(bb, .inl (cB, 4000, .inl f2_78)), (aB, .inr (0, [.ref sa, .ref bb, .int us2_78])), (sa, .inl (cS, 32, .inr (.inr (.inr (.inr g))))), (ta, .inr (7, [.ref tb, .int (nI L)])), (tb, .inl (cB, 9000, .inl ft))] : va_W) ++ famN 32 ad (upd le1 q9 (nI (tw2 ft (30 * q9 + 12)))) (upd tu1 q9 ((nI (by8 ft (30 * q9 + 14))) - 16)) (upd vo1 q9 (nI (by8 ft (30 * q9 + 15)))) (upd (upd sr1 q9 0) q9 (nI (tw2 ft (30 * q9 + 16)))) (upd lo1 q9 0) fr2_78) := by have h9 : va_D A (((([(bb, .inl (cB, 4000, .inl f2_78)), (aB, .inr (0, [.ref sa, .ref bb, .int us2_78])), (sa, .inl (cS, 32, .inr (.inr (.inr (.inr g))))), (ta, .inr (7, [.ref tb, .int (nI L)])), (tb, .inl (cB, 9000, .inl ft))] : va_W) ++ famN 32 ad (upd le1 q9 (nI (tw2 ft (30 * q9 + 12)))) (upd tu1 q9 ((nI (by8 ft (30 * q9 + 14))) - 16)) (upd vo1 q9 (nI (by8 ft (30 * q9 + 15)))) (upd sr1 q9 0) (upd lo1 q9 0) fr2_78) : va_W).set (([(bb, .inl (cB, 4000, .inl f2_78)), (aB, .inr (0, [.ref sa, .ref bb, .int us2_78])), (sa, .inl (cS, 32, .inr (.inr (.inr (.inr g))))), (ta, .inr (7, [.ref tb, .int (nI L)])), (tb, .inl (cB, 9000, .inl ft))] : va_W).length + q9) (ad q9, .inr (5, [.int ((upd le1 q9 (nI (tw2 ft (30 * q9 + 12)))) q9), .int ((upd tu1 q9 ((nI (by8 ft (30 * q9 + 14))) - 16)) q9), .int ((upd vo1 q9 (nI (by8 ft (30 * q9 + 15)))) q9), .int (nI (tw2 ft (30 * q9 + 16))), .int ((upd lo1 q9 0) q9), .int ((fr2_78) q9)]))) := hD; rw [fam_up] at h9; simp only [upd_id] at h9 ⊢; exact h9
      refine lv_aload hx hb dX4_readSamples_105 (lv_at hl 0 rfl) ?_
      refine lv_iconst (v := 2) hx hb dX4_readSamples_107 (by decide) ?_
      refine lv_aload_n hx hb dX4_readSamples_108 rfl (lv_at hl 6 rfl) ?_
      refine lv_iload hx hb dX4_readSamples_109 (lv_at hl 3 rfl) ?_
      refine lv_bipush (v := 28) hx hb dX4_readSamples_111 (by decide) ?_
      refine lv_iadd hx hb dX4_readSamples_113 ?_
      refine g_topi (y := nI (30 * q9 + 18)) ((nI_add _ 28).trans (up_e (by omega))) ?_
      refine g_calliQ (X := [(bb, .inl (cB, 4000, .inl f2_78)), (aB, .inr (0, [.ref sa, .ref bb, .int us2_78])), (sa, .inl (cS, 32, .inr (.inr (.inr (.inr g))))), (ta, .inr (7, [.ref tb, .int (nI L)])), (tb, .inl (cB, 9000, .inl ft))]) (wr := [(bb, .inl (cB, 4000, .inl f2_78)), (aB, .inr (0, [.ref sa, .ref bb, .int us2_78])), (sa, .inl (cS, 32, .inr (.inr (.inr (.inr g)))))]) (va_runV (As := [.int (nI (30 * q9 + 18))]) (rest := [.int 2, .ref (ad q9)]) ⟨hx, hb, hml, hown, hts⟩ (x_pair l dC dI H.size ta tb cB ft L (30 * q9 + 18) (hL) (by omega)) (cwV 1 hts (gG_V kw_309 kw_310 kw_311 kw_18 kw_312) rfl rfl rfl (by decide +kernel) ⟨Nat.le_of_ble_eq_true rfl, Nat.le_of_ble_eq_true rfl⟩) (g_preV (ws := [(bb, .inl (cB, 4000, .inl f2_78)), (aB, .inr (0, [.ref sa, .ref bb, .int us2_78])), (sa, .inl (cS, 32, .inr (.inr (.inr (.inr g))))), (ta, .inr (7, [.ref tb, .int (nI L)])), (tb, .inl (cB, 9000, .inl ft))]) (C := RX7) (T := TX7) (N := 2) hP.left hD.left hK hS hA hN hZ (q0 := 3) rfl rfl [3, 4] (by decide +kernel) rfl [0] rfl) rfl rfl hl.1 rfl (lv_room (Nat.le_of_ble_eq_true rfl)) dX4_readSamples_114 ⟨Nat.le_of_ble_eq_true rfl, Nat.le_of_ble_eq_true rfl⟩) hP hD hK hS hA [3, 4] [0, 1, 2] rfl rfl (by decide +kernel) (by decide +kernel) (fun r_114 w ty1 H locs hw_114 hP hD _ hS => ?_)
      rcases hw_114 with ⟨hu, hr_114⟩
      cases hu
      have hP : va_P (dC, dI) vwCl (([(bb, .inl (cB, 4000, .inl f2_78)), (aB, .inr (0, [.ref sa, .ref bb, .int us2_78])), (sa, .inl (cS, 32, .inr (.inr (.inr (.inr g))))), (ta, .inr (7, [.ref tb, .int (nI L)])), (tb, .inl (cB, 9000, .inl ft))] : va_W) ++ famN 32 ad (upd le1 q9 (nI (tw2 ft (30 * q9 + 12)))) (upd tu1 q9 ((nI (by8 ft (30 * q9 + 14))) - 16)) (upd vo1 q9 (nI (by8 ft (30 * q9 + 15)))) (upd (upd sr1 q9 0) q9 (nI (tw2 ft (30 * q9 + 16)))) (upd lo1 q9 0) fr2_78) H := hP
      have hD : va_D A (([(bb, .inl (cB, 4000, .inl f2_78)), (aB, .inr (0, [.ref sa, .ref bb, .int us2_78])), (sa, .inl (cS, 32, .inr (.inr (.inr (.inr g))))), (ta, .inr (7, [.ref tb, .int (nI L)])), (tb, .inl (cB, 9000, .inl ft))] : va_W) ++ famN 32 ad (upd le1 q9 (nI (tw2 ft (30 * q9 + 12)))) (upd tu1 q9 ((nI (by8 ft (30 * q9 + 14))) - 16)) (upd vo1 q9 (nI (by8 ft (30 * q9 + 15)))) (upd (upd sr1 q9 0) q9 (nI (tw2 ft (30 * q9 + 16)))) (upd lo1 q9 0) fr2_78) := hD
      refine g_topi (y := nI (256 * by8 ft (30 * q9 + 18) + by8 ft ((30 * q9 + 18) + 1))) hr_114 ?_
      refine lv_imul hx hb dX4_readSamples_117 ?_
      refine g_topi (y := nI (tw2 ft (30 * q9 + 18))) (pk_mul 2 _) ?_
      refine va_put (D := (dC, dI)) (ci := 5) (v := .int (nI (tw2 ft (30 * q9 + 18)))) (ty := tyX5 4) (C := RX5) (T := TX5) (N := 6) hx hb hts iwX5 tyX5 tyX5_ok nmX5 hown hK hP hD hS _ (fam_at (k := q9) (hq3)) rfl 4 (by decide) (hts (.fieldLink RX4 123 "ModulePlayer$Sample" "loop" "I") (List.mem_cons_of_mem _ kw_376)) (fun _ h9 => h9) rfl (by decide +kernel) rfl rfl (Nat.le_of_ble_eq_true rfl) dX4_readSamples_118 (fun H locs hP hD hS => ?_)
      have hP : va_P (dC, dI) vwCl (([(bb, .inl (cB, 4000, .inl f2_78)), (aB, .inr (0, [.ref sa, .ref bb, .int us2_78])), (sa, .inl (cS, 32, .inr (.inr (.inr (.inr g))))), (ta, .inr (7, [.ref tb, .int (nI L)])), (tb, .inl (cB, 9000, .inl ft))] : va_W) ++ famN 32 ad (upd le1 q9 (nI (tw2 ft (30 * q9 + 12)))) (upd tu1 q9 ((nI (by8 ft (30 * q9 + 14))) - 16)) (upd vo1 q9 (nI (by8 ft (30 * q9 + 15)))) (upd (upd sr1 q9 0) q9 (nI (tw2 ft (30 * q9 + 16)))) (upd (upd lo1 q9 0) q9 (nI (tw2 ft (30 * q9 + 18)))) fr2_78) H := by have h9 : va_P (dC, dI) vwCl (((([(bb, .inl (cB, 4000, .inl f2_78)), (aB, .inr (0, [.ref sa, .ref bb, .int us2_78])), (sa, .inl (cS, 32, .inr (.inr (.inr (.inr g))))), (ta, .inr (7, [.ref tb, .int (nI L)])), (tb, .inl (cB, 9000, .inl ft))] : va_W) ++ famN 32 ad (upd le1 q9 (nI (tw2 ft (30 * q9 + 12)))) (upd tu1 q9 ((nI (by8 ft (30 * q9 + 14))) - 16)) (upd vo1 q9 (nI (by8 ft (30 * q9 + 15)))) (upd (upd sr1 q9 0) q9 (nI (tw2 ft (30 * q9 + 16)))) (upd lo1 q9 0) fr2_78) : va_W).set (([(bb, .inl (cB, 4000, .inl f2_78)), (aB, .inr (0, [.ref sa, .ref bb, .int us2_78])), (sa, .inl (cS, 32, .inr (.inr (.inr (.inr g))))), (ta, .inr (7, [.ref tb, .int (nI L)])), (tb, .inl (cB, 9000, .inl ft))] : va_W).length + q9) (ad q9, .inr (5, [.int ((upd le1 q9 (nI (tw2 ft (30 * q9 + 12)))) q9), .int ((upd tu1 q9 ((nI (by8 ft (30 * q9 + 14))) - 16)) q9), .int ((upd vo1 q9 (nI (by8 ft (30 * q9 + 15)))) q9), .int ((upd (upd sr1 q9 0) q9 (nI (tw2 ft (30 * q9 + 16)))) q9), .int (nI (tw2 ft (30 * q9 + 18))), .int ((fr2_78) q9)]))) H := hP; rw [fam_up] at h9; simp only [upd_id] at h9 ⊢; exact h9
      have hD : va_D A (([(bb, .inl (cB, 4000, .inl f2_78)), (aB, .inr (0, [.ref sa, .ref bb, .int us2_78])), (sa, .inl (cS, 32, .inr (.inr (.inr (.inr g))))), (ta, .inr (7, [.ref tb, .int (nI L)])), (tb, .inl (cB, 9000, .inl ft))] : va_W) ++ famN 32 ad (upd le1 q9 (nI (tw2 ft (30 * q9 + 12)))) (upd tu1 q9 ((nI (by8 ft (30 * q9 + 14))) - 16)) (upd vo1 q9 (nI (by8 ft (30 * q9 + 15)))) (upd (upd sr1 q9 0) q9 (nI (tw2 ft (30 * q9 + 16)))) (upd (upd lo1 q9 0) q9 (nI (tw2 ft (30 * q9 + 18)))) fr2_78) := by have h9 : va_D A (((([(bb, .inl (cB, 4000, .inl f2_78)), (aB, .inr (0, [.ref sa, .ref bb, .int us2_78])), (sa, .inl (cS, 32, .inr (.inr (.inr (.inr g))))), (ta, .inr (7, [.ref tb, .int (nI L)])), (tb, .inl (cB, 9000, .inl ft))] : va_W) ++ famN 32 ad (upd le1 q9 (nI (tw2 ft (30 * q9 + 12)))) (upd tu1 q9 ((nI (by8 ft (30 * q9 + 14))) - 16)) (upd vo1 q9 (nI (by8 ft (30 * q9 + 15)))) (upd (upd sr1 q9 0) q9 (nI (tw2 ft (30 * q9 + 16)))) (upd lo1 q9 0) fr2_78) : va_W).set (([(bb, .inl (cB, 4000, .inl f2_78)), (aB, .inr (0, [.ref sa, .ref bb, .int us2_78])), (sa, .inl (cS, 32, .inr (.inr (.inr (.inr g))))), (ta, .inr (7, [.ref tb, .int (nI L)])), (tb, .inl (cB, 9000, .inl ft))] : va_W).length + q9) (ad q9, .inr (5, [.int ((upd le1 q9 (nI (tw2 ft (30 * q9 + 12)))) q9), .int ((upd tu1 q9 ((nI (by8 ft (30 * q9 + 14))) - 16)) q9), .int ((upd vo1 q9 (nI (by8 ft (30 * q9 + 15)))) q9), .int ((upd (upd sr1 q9 0) q9 (nI (tw2 ft (30 * q9 + 16)))) q9), .int (nI (tw2 ft (30 * q9 + 18))), .int ((fr2_78) q9)]))) := hD; rw [fam_up] at h9; simp only [upd_id] at h9 ⊢; exact h9
      refine lv_iconst (v := 0) hx hb dX4_readSamples_121 (by decide) ?_
      refine lv_istore (lv' := [(9, .int 0), (8, .ref (ad q9)), (7, .int (nI (by8 ft (30 * q9 + 14)))), (6, .int (nI (tw2 ft (30 * q9 + 12)))), (5, .int (nI (20 + 30 * (q9 - 1)))), (4, .int (nI q9)), (3, .int (nI nx_)), (0, .ref ta), (1, .ref aB)]) hx hb dX4_readSamples_122 hl (by decide) rfl (fun ls hl => ?_)
      have hP := va_P.part (X := [(bb, .inl (cB, 4000, .inl f2_78)), (aB, .inr (0, [.ref sa, .ref bb, .int us2_78])), (sa, .inl (cS, 32, .inr (.inr (.inr (.inr g))))), (ta, .inr (7, [.ref tb, .int (nI L)])), (tb, .inl (cB, 9000, .inl ft))]) (cx := [(ta, .inr (7, [.ref tb, .int (nI L)])), (tb, .inl (cB, 9000, .inl ft)), (aB, .inr (0, [.ref sa, .ref bb, .int us2_78])), (sa, .inl (cS, 32, .inr (.inr (.inr (.inr g))))), (bb, .inl (cB, 4000, .inl f2_78))]) hP [3, 4, 1, 2, 0] rfl
      have hD := va_D.part (X := [(bb, .inl (cB, 4000, .inl f2_78)), (aB, .inr (0, [.ref sa, .ref bb, .int us2_78])), (sa, .inl (cS, 32, .inr (.inr (.inr (.inr g))))), (ta, .inr (7, [.ref tb, .int (nI L)])), (tb, .inl (cB, 9000, .inl ft))]) (cx := [(ta, .inr (7, [.ref tb, .int (nI L)])), (tb, .inl (cB, 9000, .inl ft)), (aB, .inr (0, [.ref sa, .ref bb, .int us2_78])), (sa, .inl (cS, 32, .inr (.inr (.inr (.inr g))))), (bb, .inl (cB, 4000, .inl f2_78))]) hD [3, 4, 1, 2, 0] (by decide +kernel) rfl
      have hP : va_P (dC, dI) vwCl (([(ta, .inr (7, [.ref tb, .int (nI L)])), (tb, .inl (cB, 9000, .inl ft)), (aB, .inr (0, [.ref sa, .ref bb, .int us2_78])), (sa, .inl (cS, 32, .inr (.inr (.inr (.inr g))))), (bb, .inl (cB, 4000, .inl f2_78))] : va_W) ++ famN 32 ad (upd le1 q9 (nI (tw2 ft (30 * q9 + 12)))) (upd tu1 q9 ((nI (by8 ft (30 * q9 + 14))) - 16)) (upd vo1 q9 (nI (by8 ft (30 * q9 + 15)))) (upd (upd sr1 q9 0) q9 (nI (tw2 ft (30 * q9 + 16)))) (upd (upd lo1 q9 0) q9 (nI (tw2 ft (30 * q9 + 18)))) fr2_78) H := hP
      have hD : va_D A (([(ta, .inr (7, [.ref tb, .int (nI L)])), (tb, .inl (cB, 9000, .inl ft)), (aB, .inr (0, [.ref sa, .ref bb, .int us2_78])), (sa, .inl (cS, 32, .inr (.inr (.inr (.inr g))))), (bb, .inl (cB, 4000, .inl f2_78))] : va_W) ++ famN 32 ad (upd le1 q9 (nI (tw2 ft (30 * q9 + 12)))) (upd tu1 q9 ((nI (by8 ft (30 * q9 + 14))) - 16)) (upd vo1 q9 (nI (by8 ft (30 * q9 + 15)))) (upd (upd sr1 q9 0) q9 (nI (tw2 ft (30 * q9 + 16)))) (upd (upd lo1 q9 0) q9 (nI (tw2 ft (30 * q9 + 18)))) fr2_78) := hD
      have LP124 : ∀ (fu124 : Nat) (q124 : Nat) (fb3 : Nat → Int32) (hq124 : q124 ≤ tw2 ft (30 * q9 + 12)) (hf3 : sb_Fit fb3) (hbt3 : ∀ jj, jj < sumTo (l2 ft) q9 + q124 → fb3 jj = ft (kz + jj)) (hm124 : tw2 ft (30 * q9 + 12) - q124 < fu124) (H : Heap) (locs : List Loc), va_P (dC, dI) vwCl (([(ta, .inr (7, [.ref tb, .int (nI L)])), (tb, .inl (cB, 9000, .inl ft)), (aB, .inr (0, [.ref sa, .ref bb, .int us2_78])), (sa, .inl (cS, 32, .inr (.inr (.inr (.inr g))))), (bb, .inl (cB, 4000, .inl fb3))] : va_W) ++ famN 32 ad (upd le1 q9 (nI (tw2 ft (30 * q9 + 12)))) (upd tu1 q9 ((nI (by8 ft (30 * q9 + 14))) - 16)) (upd vo1 q9 (nI (by8 ft (30 * q9 + 15)))) (upd (upd sr1 q9 0) q9 (nI (tw2 ft (30 * q9 + 16)))) (upd (upd lo1 q9 0) q9 (nI (tw2 ft (30 * q9 + 18)))) fr2_78) H → va_D A (([(ta, .inr (7, [.ref tb, .int (nI L)])), (tb, .inl (cB, 9000, .inl ft)), (aB, .inr (0, [.ref sa, .ref bb, .int us2_78])), (sa, .inl (cS, 32, .inr (.inr (.inr (.inr g))))), (bb, .inl (cB, 4000, .inl fb3))] : va_W) ++ famN 32 ad (upd le1 q9 (nI (tw2 ft (30 * q9 + 12)))) (upd tu1 q9 ((nI (by8 ft (30 * q9 + 14))) - 16)) (upd vo1 q9 (nI (by8 ft (30 * q9 + 15)))) (upd (upd sr1 q9 0) q9 (nI (tw2 ft (30 * q9 + 16)))) (upd (upd lo1 q9 0) q9 (nI (tw2 ft (30 * q9 + 18)))) fr2_78) → va_S A s.heap H locs → ∀ ls : Array Slot, lv_has ls 10 [(9, .int (nI q124)), (8, .ref (ad q9)), (6, .int (nI (tw2 ft (30 * q9 + 12)))), (4, .int (nI q9)), (3, .int (nI nx_)), (0, .ref ta), (1, .ref aB)] → W p l e ({ frames := 4, cells := 0, slots := 0, locals := 93 }) s m ([.ref ta, .ref aB, .int (nI kz)] : List Value).toArray below meth c H locs (0) (0) (MQ below (va_Qv (fun u : va_W × gT => ∃ (us2 : Int32) (f2 : Nat → Int32) (le2 : Nat → Int32) (tu2 : Nat → Int32) (vo2 : Nat → Int32) (sr2 : Nat → Int32) (lo2 : Nat → Int32) (fr2 : Nat → Int32), u = ((([(ta, .inr (7, [.ref tb, .int (nI L)])), (tb, .inl (cB, 9000, .inl ft)), (aB, .inr (0, [.ref sa, .ref bb, .int us2])), (sa, .inl (cS, 32, .inr (.inr (.inr (.inr g))))), (bb, .inl (cB, 4000, .inl f2))] : va_W) ++ famN 32 ad le2 tu2 vo2 sr2 lo2 fr2), []) ∧ bankOk (l2 ft) le2 fr2 us2 ∧ sb_Fit f2 ∧ (∀ jj, jj < sumTo (l2 ft) 32 → f2 jj = ft (kz + jj)) ∧ (∀ ss, 1 ≤ ss → ss < 32 → smF ft ss tu2 vo2 sr2 lo2)) (gB (dC, dI) A) A) ([.ref ta, .ref aB, .int (nI kz)] : List Value).toArray s 0 0 A) (F0 m 124 ls []) := by
        intro fu124
        induction fu124 with
        | zero => intro q124 fb3 hq124 hf3 hbt3 hm124; exact absurd hm124 (Nat.not_lt_zero _)
        | succ fu124 ih124 =>
          intro q124 fb3 hq124 hf3 hbt3 hm124 H locs hP hD hS ls hl
          refine lv_iload hx hb dX4_readSamples_124 (lv_at hl 0 rfl) ?_
          refine lv_iload hx hb dX4_readSamples_126 (lv_at hl 2 rfl) ?_
          refine lv_icmp_ge (tgt := 153) hx hb dX4_readSamples_128 (by decide) (fun c_128 => ?_) (fun c_128 => ?_)
          · refine lv_iload_n hx hb dX4_readSamples_153 rfl (lv_at hl 4 rfl) ?_
            refine lv_iload hx hb dX4_readSamples_154 (lv_at hl 2 rfl) ?_
            refine lv_iadd hx hb dX4_readSamples_156 ?_
            refine g_topi (y := nI (nx_ + tw2 ft (30 * q9 + 12))) (nI_add _ _) ?_
            refine lv_istore_n (lv' := [(3, .int (nI (nx_ + tw2 ft (30 * q9 + 12)))), (9, .int (nI q124)), (8, .ref (ad q9)), (6, .int (nI (tw2 ft (30 * q9 + 12)))), (4, .int (nI q9)), (0, .ref ta), (1, .ref aB)]) hx hb dX4_readSamples_157 rfl hl (by decide) rfl (fun ls hl => ?_)
            refine lv_iinc (v := nI (q9 + 1)) (lv' := [(4, .int (nI (q9 + 1))), (3, .int (nI (nx_ + tw2 ft (30 * q9 + 12)))), (9, .int (nI q124)), (8, .ref (ad q9)), (6, .int (nI (tw2 ft (30 * q9 + 12)))), (0, .ref ta), (1, .ref aB)]) hx hb dX4_readSamples_158 hl (k := 4) rfl (nI_1 q9) (by decide) rfl (fun ls hl => ?_)
            refine lv_goto (tgt := 9) hx hb dX4_readSamples_161 (by decide) ?_
            have hP : va_P (dC, dI) vwCl (([(ta, .inr (7, [.ref tb, .int (nI L)])), (tb, .inl (cB, 9000, .inl ft)), (aB, .inr (0, [.ref sa, .ref bb, .int us2_78])), (sa, .inl (cS, 32, .inr (.inr (.inr (.inr g))))), (bb, .inl (cB, 4000, .inl fb3))] : va_W) ++ famN 32 ad (upd le1 q9 (nI (tw2 ft (30 * q9 + 12)))) (upd tu1 q9 ((nI (by8 ft (30 * q9 + 14))) - 16)) (upd vo1 q9 (nI (by8 ft (30 * q9 + 15)))) (upd (upd sr1 q9 0) q9 (nI (tw2 ft (30 * q9 + 16)))) (upd (upd lo1 q9 0) q9 (nI (tw2 ft (30 * q9 + 18)))) fr2_78) H := hP
            have hD : va_D A (([(ta, .inr (7, [.ref tb, .int (nI L)])), (tb, .inl (cB, 9000, .inl ft)), (aB, .inr (0, [.ref sa, .ref bb, .int us2_78])), (sa, .inl (cS, 32, .inr (.inr (.inr (.inr g))))), (bb, .inl (cB, 4000, .inl fb3))] : va_W) ++ famN 32 ad (upd le1 q9 (nI (tw2 ft (30 * q9 + 12)))) (upd tu1 q9 ((nI (by8 ft (30 * q9 + 14))) - 16)) (upd vo1 q9 (nI (by8 ft (30 * q9 + 15)))) (upd (upd sr1 q9 0) q9 (nI (tw2 ft (30 * q9 + 16)))) (upd (upd lo1 q9 0) q9 (nI (tw2 ft (30 * q9 + 18)))) fr2_78) := hD
            exact ih9 (q9 + 1) us2_78 fb3 (upd le1 q9 (nI (tw2 ft (30 * q9 + 12)))) (upd tu1 q9 ((nI (by8 ft (30 * q9 + 14))) - 16)) (upd vo1 q9 (nI (by8 ft (30 * q9 + 15)))) (upd (upd sr1 q9 0) q9 (nI (tw2 ft (30 * q9 + 16)))) (upd (upd lo1 q9 0) q9 (nI (tw2 ft (30 * q9 + 18)))) fr2_78 (nx_ + tw2 ft (30 * q9 + 12)) (by omega) (by omega) (by rw [← lnq_s ft hq9a]; exact hB2_78) (hf3) (fun jj hj => hbt3 jj (by rw [l2_s ft hq9a] at hj; have := nI_le' c_128 (by have := tw2_lt ft (30 * q9 + 12); omega) (by omega); omega)) (smF_s hsm1 (by unfold tnF; rw [if_pos (nI_nle' (b := 7) c_56 (by decide))]) rfl) (by rw [l2_s ft hq9a]; omega) (by omega) _ _ hP hD hS _ (lv_sub hl [0, 1, 5, 6] rfl)
          refine lv_aload_n hx hb dX4_readSamples_131 rfl (lv_at hl 6 rfl) ?_
          refine lv_aload hx hb dX4_readSamples_132 (lv_at hl 1 rfl) ?_
          refine lv_iload hx hb dX4_readSamples_134 (lv_at hl 0 rfl) ?_
          refine lv_aload_n hx hb dX4_readSamples_136 rfl (lv_at hl 5 rfl) ?_
          refine lv_iload_n hx hb dX4_readSamples_137 rfl (lv_at hl 4 rfl) ?_
          refine lv_iload hx hb dX4_readSamples_138 (lv_at hl 0 rfl) ?_
          refine lv_iadd hx hb dX4_readSamples_140 ?_
          refine g_topi (y := nI (nx_ + q124)) (nI_add _ _) ?_
          refine g_calliQ (X := [(ta, .inr (7, [.ref tb, .int (nI L)])), (tb, .inl (cB, 9000, .inl ft)), (aB, .inr (0, [.ref sa, .ref bb, .int us2_78])), (sa, .inl (cS, 32, .inr (.inr (.inr (.inr g))))), (bb, .inl (cB, 4000, .inl fb3))]) (wr := [(aB, .inr (0, [.ref sa, .ref bb, .int us2_78])), (sa, .inl (cS, 32, .inr (.inr (.inr (.inr g))))), (bb, .inl (cB, 4000, .inl fb3))]) (va_runV (As := [.int (nI (nx_ + q124))]) (rest := [.int (nI q124), .ref (ad q9), .ref aB]) ⟨hx, hb, hml, hown, hts⟩ (x_at l dC dI H.size ta tb cB ft L (nx_ + q124) (hL) (by have := nI_nle' c_128 (by omega); omega)) (cwV 1 hts (gG_V kw_295 kw_296 kw_297 kw_18 kw_298) rfl rfl rfl (by decide +kernel) ⟨Nat.le_of_ble_eq_true rfl, Nat.le_of_ble_eq_true rfl⟩) (g_preV (ws := [(ta, .inr (7, [.ref tb, .int (nI L)])), (tb, .inl (cB, 9000, .inl ft)), (aB, .inr (0, [.ref sa, .ref bb, .int us2_78])), (sa, .inl (cS, 32, .inr (.inr (.inr (.inr g))))), (bb, .inl (cB, 4000, .inl fb3))]) (C := RX7) (T := TX7) (N := 2) hP.left hD.left hK hS hA hN hZ (q0 := 0) rfl rfl [0, 1] (by decide +kernel) rfl [0] rfl) rfl rfl hl.1 rfl (lv_room (Nat.le_of_ble_eq_true rfl)) dX4_readSamples_141 ⟨Nat.le_of_ble_eq_true rfl, Nat.le_of_ble_eq_true rfl⟩) hP hD hK hS hA [0, 1] [2, 3, 4] rfl rfl (by decide +kernel) (by decide +kernel) (fun r_141 w ty1 H locs hw_141 hP hD _ hS => ?_)
          rcases hw_141 with ⟨hu, hr_141⟩
          cases hu
          have hP : va_P (dC, dI) vwCl (([(aB, .inr (0, [.ref sa, .ref bb, .int us2_78])), (sa, .inl (cS, 32, .inr (.inr (.inr (.inr g))))), (bb, .inl (cB, 4000, .inl fb3)), (ta, .inr (7, [.ref tb, .int (nI L)])), (tb, .inl (cB, 9000, .inl ft))] : va_W) ++ famN 32 ad (upd le1 q9 (nI (tw2 ft (30 * q9 + 12)))) (upd tu1 q9 ((nI (by8 ft (30 * q9 + 14))) - 16)) (upd vo1 q9 (nI (by8 ft (30 * q9 + 15)))) (upd (upd sr1 q9 0) q9 (nI (tw2 ft (30 * q9 + 16)))) (upd (upd lo1 q9 0) q9 (nI (tw2 ft (30 * q9 + 18)))) fr2_78) H := hP
          have hD : va_D A (([(aB, .inr (0, [.ref sa, .ref bb, .int us2_78])), (sa, .inl (cS, 32, .inr (.inr (.inr (.inr g))))), (bb, .inl (cB, 4000, .inl fb3)), (ta, .inr (7, [.ref tb, .int (nI L)])), (tb, .inl (cB, 9000, .inl ft))] : va_W) ++ famN 32 ad (upd le1 q9 (nI (tw2 ft (30 * q9 + 12)))) (upd tu1 q9 ((nI (by8 ft (30 * q9 + 14))) - 16)) (upd vo1 q9 (nI (by8 ft (30 * q9 + 15)))) (upd (upd sr1 q9 0) q9 (nI (tw2 ft (30 * q9 + 16)))) (upd (upd lo1 q9 0) q9 (nI (tw2 ft (30 * q9 + 18)))) fr2_78) := hD
          refine g_topi (y := nI (by8 ft (nx_ + q124))) hr_141 ?_
          refine g_callvP (X := [(aB, .inr (0, [.ref sa, .ref bb, .int us2_78])), (sa, .inl (cS, 32, .inr (.inr (.inr (.inr g))))), (bb, .inl (cB, 4000, .inl fb3)), (ta, .inr (7, [.ref tb, .int (nI L)])), (tb, .inl (cB, 9000, .inl ft))]) (wr := [(sa, .inl (cS, 32, .inr (.inr (.inr (.inr g))))), (ta, .inr (7, [.ref tb, .int (nI L)])), (tb, .inl (cB, 9000, .inl ft))]) (va_runV (As := [.ref (ad q9), .int (nI q124), .int (nI (by8 ft (nx_ + q124)))]) (rest := []) ⟨hx, hb, hml, hown, hts⟩ (g_putByte l dC dI H.size aB sa bb us2_78 ad cB fb3 (upd le1 q9 (nI (tw2 ft (30 * q9 + 12)))) (upd tu1 q9 ((nI (by8 ft (30 * q9 + 14))) - 16)) (upd vo1 q9 (nI (by8 ft (30 * q9 + 15)))) (upd (upd sr1 q9 0) q9 (nI (tw2 ft (30 * q9 + 16)))) (upd (upd lo1 q9 0) q9 (nI (tw2 ft (30 * q9 + 18)))) fr2_78 q9 (sumTo (l2 ft) q9 + q124) (nI q124) (nI (by8 ft (nx_ + q124))) (hq3) (by have := nI_nle' c_128 (by omega); omega) (by rw [hfr]; exact nI_add _ _)) (cwV 3 hts (gG_V kw_416 kw_417 kw_418 kw_22 kw_419) rfl rfl rfl (by decide +kernel) ⟨Nat.le_of_ble_eq_true rfl, Nat.le_of_ble_eq_true rfl⟩) (g_preVP (X := [(aB, .inr (0, [.ref sa, .ref bb, .int us2_78])), (sa, .inl (cS, 32, .inr (.inr (.inr (.inr g))))), (bb, .inl (cB, 4000, .inl fb3)), (ta, .inr (7, [.ref tb, .int (nI L)])), (tb, .inl (cB, 9000, .inl ft))]) (C := RX0) (T := TX0) (N := 3) hP hD hK hS hA hN hZ (q0 := 0) rfl rfl [0, 2] (by decide +kernel) rfl [0] rfl) rfl rfl hl.1 rfl (lv_room (Nat.le_of_ble_eq_true rfl)) dX4_readSamples_144 ⟨Nat.le_of_ble_eq_true rfl, Nat.le_of_ble_eq_true rfl⟩) hP hD hK hS hA [0, 2] [1, 3, 4] rfl rfl (by decide +kernel) (by decide +kernel) (fun w ty1 H locs hw_144 hJ _ hS => ?_)
          have hu := hw_144
          cases hu
          obtain ⟨hP, hD⟩ := hJ _ _ rfl
          have hP : va_P (dC, dI) vwCl (([(sa, .inl (cS, 32, .inr (.inr (.inr (.inr g))))), (ta, .inr (7, [.ref tb, .int (nI L)])), (tb, .inl (cB, 9000, .inl ft)), (aB, .inr (0, [.ref sa, .ref bb, .int us2_78])), (bb, .inl (cB, 4000, .inl (upd fb3 (sumTo (l2 ft) q9 + q124) (nI (by8 ft (nx_ + q124))).toInt8.toInt32)))] : va_W) ++ famN 32 ad (upd le1 q9 (nI (tw2 ft (30 * q9 + 12)))) (upd tu1 q9 ((nI (by8 ft (30 * q9 + 14))) - 16)) (upd vo1 q9 (nI (by8 ft (30 * q9 + 15)))) (upd (upd sr1 q9 0) q9 (nI (tw2 ft (30 * q9 + 16)))) (upd (upd lo1 q9 0) q9 (nI (tw2 ft (30 * q9 + 18)))) fr2_78) H := hP
          have hD : va_D A (([(sa, .inl (cS, 32, .inr (.inr (.inr (.inr g))))), (ta, .inr (7, [.ref tb, .int (nI L)])), (tb, .inl (cB, 9000, .inl ft)), (aB, .inr (0, [.ref sa, .ref bb, .int us2_78])), (bb, .inl (cB, 4000, .inl (upd fb3 (sumTo (l2 ft) q9 + q124) (nI (by8 ft (nx_ + q124))).toInt8.toInt32)))] : va_W) ++ famN 32 ad (upd le1 q9 (nI (tw2 ft (30 * q9 + 12)))) (upd tu1 q9 ((nI (by8 ft (30 * q9 + 14))) - 16)) (upd vo1 q9 (nI (by8 ft (30 * q9 + 15)))) (upd (upd sr1 q9 0) q9 (nI (tw2 ft (30 * q9 + 16)))) (upd (upd lo1 q9 0) q9 (nI (tw2 ft (30 * q9 + 18)))) fr2_78) := hD
          refine lv_iinc (v := nI (q124 + 1)) (lv' := [(9, .int (nI (q124 + 1))), (8, .ref (ad q9)), (6, .int (nI (tw2 ft (30 * q9 + 12)))), (4, .int (nI q9)), (3, .int (nI nx_)), (0, .ref ta), (1, .ref aB)]) hx hb dX4_readSamples_147 hl (k := 0) rfl (nI_1 q124) (by decide) rfl (fun ls hl => ?_)
          refine lv_goto (tgt := 124) hx hb dX4_readSamples_150 (by decide) ?_
          have hP := va_P.part (X := [(sa, .inl (cS, 32, .inr (.inr (.inr (.inr g))))), (ta, .inr (7, [.ref tb, .int (nI L)])), (tb, .inl (cB, 9000, .inl ft)), (aB, .inr (0, [.ref sa, .ref bb, .int us2_78])), (bb, .inl (cB, 4000, .inl (upd fb3 (sumTo (l2 ft) q9 + q124) (nI (by8 ft (nx_ + q124))).toInt8.toInt32)))]) (cx := [(ta, .inr (7, [.ref tb, .int (nI L)])), (tb, .inl (cB, 9000, .inl ft)), (aB, .inr (0, [.ref sa, .ref bb, .int us2_78])), (sa, .inl (cS, 32, .inr (.inr (.inr (.inr g))))), (bb, .inl (cB, 4000, .inl (upd fb3 (sumTo (l2 ft) q9 + q124) (nI (by8 ft (nx_ + q124))).toInt8.toInt32)))]) hP [1, 2, 3, 0, 4] rfl
          have hD := va_D.part (X := [(sa, .inl (cS, 32, .inr (.inr (.inr (.inr g))))), (ta, .inr (7, [.ref tb, .int (nI L)])), (tb, .inl (cB, 9000, .inl ft)), (aB, .inr (0, [.ref sa, .ref bb, .int us2_78])), (bb, .inl (cB, 4000, .inl (upd fb3 (sumTo (l2 ft) q9 + q124) (nI (by8 ft (nx_ + q124))).toInt8.toInt32)))]) (cx := [(ta, .inr (7, [.ref tb, .int (nI L)])), (tb, .inl (cB, 9000, .inl ft)), (aB, .inr (0, [.ref sa, .ref bb, .int us2_78])), (sa, .inl (cS, 32, .inr (.inr (.inr (.inr g))))), (bb, .inl (cB, 4000, .inl (upd fb3 (sumTo (l2 ft) q9 + q124) (nI (by8 ft (nx_ + q124))).toInt8.toInt32)))]) hD [1, 2, 3, 0, 4] (by decide +kernel) rfl
          have hP : va_P (dC, dI) vwCl (([(ta, .inr (7, [.ref tb, .int (nI L)])), (tb, .inl (cB, 9000, .inl ft)), (aB, .inr (0, [.ref sa, .ref bb, .int us2_78])), (sa, .inl (cS, 32, .inr (.inr (.inr (.inr g))))), (bb, .inl (cB, 4000, .inl (upd fb3 (sumTo (l2 ft) q9 + q124) (nI (by8 ft (nx_ + q124))).toInt8.toInt32)))] : va_W) ++ famN 32 ad (upd le1 q9 (nI (tw2 ft (30 * q9 + 12)))) (upd tu1 q9 ((nI (by8 ft (30 * q9 + 14))) - 16)) (upd vo1 q9 (nI (by8 ft (30 * q9 + 15)))) (upd (upd sr1 q9 0) q9 (nI (tw2 ft (30 * q9 + 16)))) (upd (upd lo1 q9 0) q9 (nI (tw2 ft (30 * q9 + 18)))) fr2_78) H := hP
          have hD : va_D A (([(ta, .inr (7, [.ref tb, .int (nI L)])), (tb, .inl (cB, 9000, .inl ft)), (aB, .inr (0, [.ref sa, .ref bb, .int us2_78])), (sa, .inl (cS, 32, .inr (.inr (.inr (.inr g))))), (bb, .inl (cB, 4000, .inl (upd fb3 (sumTo (l2 ft) q9 + q124) (nI (by8 ft (nx_ + q124))).toInt8.toInt32)))] : va_W) ++ famN 32 ad (upd le1 q9 (nI (tw2 ft (30 * q9 + 12)))) (upd tu1 q9 ((nI (by8 ft (30 * q9 + 14))) - 16)) (upd vo1 q9 (nI (by8 ft (30 * q9 + 15)))) (upd (upd sr1 q9 0) q9 (nI (tw2 ft (30 * q9 + 16)))) (upd (upd lo1 q9 0) q9 (nI (tw2 ft (30 * q9 + 18)))) fr2_78) := hD
          exact ih124 (q124 + 1) (upd fb3 (sumTo (l2 ft) q9 + q124) (nI (by8 ft (nx_ + q124))).toInt8.toInt32) (by have := nI_nle' c_128 (by omega); omega) (fit_upd hf3) (cp_s hbt3 (by rw [enx_, Nat.add_assoc]; exact b8_e hb8 (by have := nI_nle' c_128 (by omega); omega))) (by have := nI_nle' c_128 (by omega); omega) _ _ hP hD hS _ (lv_sub hl [0, 1, 2, 3, 4, 5, 6] rfl)
      exact LP124 _ 0 f2_78 (Nat.zero_le _) (hfi) (hkp) (Nat.lt_succ_self _) _ _ hP hD hS _ (lv_sub hl [0, 1, 3, 5, 6, 7, 8] rfl)
  exact LP9 _ 1 0 f le2_1 tu vo sr lo fr2_1 kz (by decide) (by decide) (by rw [lnq_1]; exact hB2_1) (hfit) (fun jj hj => absurd hj (Nat.not_lt_zero _)) (fun ss h1 h2 => absurd h2 (by omega)) (rfl) (Nat.lt_succ_self _) _ _ hP hD hS _ (lv_sub hl [0, 1, 2, 3] rfl)

