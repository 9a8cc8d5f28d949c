set_option maxHeartbeats 400000 in
set_option maxRecDepth 100000 in
theorem k_cellPeriod (l : Launch) (dC : Nat → ClassId) (dI : Nat → Nat → Nat) (sz : Nat) (h bk vi tr : Nat) (xk3 xk4 xk5 xk6 xk7 xk8 xk9 xk10 xk11 xk12 xk13 xk14 xk15 xk17 mu : Int32) (xk16 : Int64) : Met l yX1_cellPeriod (wsG (.code yX1_cellPeriod cX1_cellPeriod 1 (some .int))) ({ frames := 0, cells := 0, slots := 0, locals := 0 }) (va_Pc [.ref h] (gP (dC, dI) [] [(h, .inr (1, [.ref bk, .ref vi, .ref tr, .int xk3, .int xk4, .int xk5, .int xk6, .int xk7, .int xk8, .int xk9, .int xk10, .int xk11, .int xk12, .int xk13, .int xk14, .int xk15, .long xk16, .int xk17, .int mu]))] sz)) (va_Qi (fun (r : Int32) (u : va_W × gT) => u = ([(h, .inr (1, [.ref bk, .ref vi, .ref tr, .int xk3, .int xk4, .int xk5, .int xk6, .int xk7, .int xk8, .int xk9, .int xk10, .int xk11, .int xk12, .int xk13, .int xk14, .int xk15, .long xk16, .int xk17, .int mu]))], []) ∧ r = xk3 >>> (17 &&& 31)) (gB (dC, dI) (va_A [(h, .inr (1, [.ref bk, .ref vi, .ref tr, .int xk3, .int xk4, .int xk5, .int xk6, .int xk7, .int xk8, .int xk9, .int xk10, .int xk11, .int xk12, .int xk13, .int xk14, .int xk15, .long xk16, .int xk17, .int mu]))] sz)) (va_A [(h, .inr (1, [.ref bk, .ref vi, .ref tr, .int xk3, .int xk4, .int xk5, .int xk6, .int xk7, .int xk8, .int xk9, .int xk10, .int xk11, .int xk12, .int xk13, .int xk14, .int xk15, .long xk16, .int xk17, .int mu]))] sz)) 0 0 (va_A [(h, .inr (1, [.ref bk, .ref vi, .ref tr, .int xk3, .int xk4, .int xk5, .int xk6, .int xk7, .int xk8, .int xk9, .int xk10, .int xk11, .int xk12, .int xk13, .int xk14, .int xk15, .long xk16, .int xk17, .int mu]))] sz) := by
  refine Met.ofW (cc := cX1_cellPeriod) (maxL := 1) (ret := (some .int)) (by decide) rfl ?_
  intro p e s m args below meth c s₁ B hml hv
  obtain ⟨rfl, hsz, hP, hK, hD0, hN, hZ⟩ := hv
  have hx := B.exec
  have hb := B.bytes
  have hr := B.returns
  have hts := atoms_spec (ws := (wsG (.code yX1_cellPeriod cX1_cellPeriod 1 (some .int)))) B.pre
  have hown : s.vm.findClass RX1 = some m.cls := findClass_of_methodNamed B.named
  have hlocks := B.notSynchronized
  subst hsz
  have hD := hD0.self (sz := s.heap.size)
  generalize hAe : va_A [(h, .inr (1, [.ref bk, .ref vi, .ref tr, .int xk3, .int xk4, .int xk5, .int xk6, .int xk7, .int xk8, .int xk9, .int xk10, .int xk11, .int xk12, .int xk13, .int xk14, .int xk15, .long xk16, .int xk17, .int mu]))] s.heap.size = A at hD hZ ⊢
  have hA : ∀ q : Nat, s.heap.size ≤ q → A q := fun q h => by rw [← hAe]; exact Or.inr h
  have hl := lv_entry ([.ref h]) (n := 1) (Nat.le_of_ble_eq_true rfl)
  rw [lg_entry_eq]
  generalize (lg_sl ([.ref h]) ++ List.replicate (1 - (lg_sl ([.ref h])).length) Slot.unset).toArray = ls at hl ⊢
  have hl : lv_has ls 1 [(0, .ref h)] := hl
  refine g_start (A := A) hP (fun H locs hP hS => ?_)
  refine lv_aload_n hx hb dX1_cellPeriod_0 rfl (lv_at hl 0 rfl) ?_
  refine va_get (D := (dC, dI)) (ci := 1) (v := .int xk3) (C := RX1) (T := TX1) (N := 19) hx hb hts iwX1 hown hK hP 0 rfl rfl 3 (by decide) (hts (.fieldLink RX1 28 "ModulePlayer$Channel" "cell" "I") (List.mem_cons_of_mem _ kw_144)) (fun _ h9 => h9) rfl dX1_cellPeriod_1 ?_
  refine lv_bipush (v := 17) hx hb dX1_cellPeriod_4 (by decide) ?_
  refine lv_ishr hx hb dX1_cellPeriod_6 ?_
  have hP9 := hP
  have hD9 := hD
  have hK9 := hK.sub (tys' := []) [] rfl
  exact W.iret (v := xk3 >>> (17 &&& 31)) hx hb hr (fun t ht hW => ⟨⟨xk3 >>> (17 &&& 31), ([(h, .inr (1, [.ref bk, .ref vi, .ref tr, .int xk3, .int xk4, .int xk5, .int xk6, .int xk7, .int xk8, .int xk9, .int xk10, .int xk11, .int xk12, .int xk13, .int xk14, .int xk15, .long xk16, .int xk17, .int mu]))], []), rfl, ⟨rfl, rfl⟩, by rw [ht]; exact hP9, va_K.moved hW.alike hK9, hD9⟩, hS.F ht⟩) hS.2.2 dX1_cellPeriod_7

set_option maxHeartbeats 400000 in
set_option maxRecDepth 100000 in
theorem k_effect (l : Launch) (dC : Nat → ClassId) (dI : Nat → Nat → Nat) (sz : Nat) (h bk vi tr : Nat) (xk3 xk4 xk5 xk6 xk7 xk8 xk9 xk10 xk11 xk12 xk13 xk14 xk15 xk17 mu : Int32) (xk16 : Int64) : Met l yX1_effect (wsG (.code yX1_effect cX1_effect 1 (some .int))) ({ frames := 0, cells := 0, slots := 0, locals := 0 }) (va_Pc [.ref h] (gP (dC, dI) [] [(h, .inr (1, [.ref bk, .ref vi, .ref tr, .int xk3, .int xk4, .int xk5, .int xk6, .int xk7, .int xk8, .int xk9, .int xk10, .int xk11, .int xk12, .int xk13, .int xk14, .int xk15, .long xk16, .int xk17, .int mu]))] sz)) (va_Qi (fun (r : Int32) (u : va_W × gT) => u = ([(h, .inr (1, [.ref bk, .ref vi, .ref tr, .int xk3, .int xk4, .int xk5, .int xk6, .int xk7, .int xk8, .int xk9, .int xk10, .int xk11, .int xk12, .int xk13, .int xk14, .int xk15, .long xk16, .int xk17, .int mu]))], []) ∧ r = (xk3 >>> (8 &&& 31)) &&& 15) (gB (dC, dI) (va_A [(h, .inr (1, [.ref bk, .ref vi, .ref tr, .int xk3, .int xk4, .int xk5, .int xk6, .int xk7, .int xk8, .int xk9, .int xk10, .int xk11, .int xk12, .int xk13, .int xk14, .int xk15, .long xk16, .int xk17, .int mu]))] sz)) (va_A [(h, .inr (1, [.ref bk, .ref vi, .ref tr, .int xk3, .int xk4, .int xk5, .int xk6, .int xk7, .int xk8, .int xk9, .int xk10, .int xk11, .int xk12, .int xk13, .int xk14, .int xk15, .long xk16, .int xk17, .int mu]))] sz)) 0 0 (va_A [(h, .inr (1, [.ref bk, .ref vi, .ref tr, .int xk3, .int xk4, .int xk5, .int xk6, .int xk7, .int xk8, .int xk9, .int xk10, .int xk11, .int xk12, .int xk13, .int xk14, .int xk15, .long xk16, .int xk17, .int mu]))] sz) := by
  refine Met.ofW (cc := cX1_effect) (maxL := 1) (ret := (some .int)) (by decide) rfl ?_
  intro p e s m args below meth c s₁ B hml hv
  obtain ⟨rfl, hsz, hP, hK, hD0, hN, hZ⟩ := hv
  have hx := B.exec
  have hb := B.bytes
  have hr := B.returns
  have hts := atoms_spec (ws := (wsG (.code yX1_effect cX1_effect 1 (some .int)))) B.pre
  have hown : s.vm.findClass RX1 = some m.cls := findClass_of_methodNamed B.named
  have hlocks := B.notSynchronized
  subst hsz
  have hD := hD0.self (sz := s.heap.size)
  generalize hAe : va_A [(h, .inr (1, [.ref bk, .ref vi, .ref tr, .int xk3, .int xk4, .int xk5, .int xk6, .int xk7, .int xk8, .int xk9, .int xk10, .int xk11, .int xk12, .int xk13, .int xk14, .int xk15, .long xk16, .int xk17, .int mu]))] s.heap.size = A at hD hZ ⊢
  have hA : ∀ q : Nat, s.heap.size ≤ q → A q := fun q h => by rw [← hAe]; exact Or.inr h
  have hl := lv_entry ([.ref h]) (n := 1) (Nat.le_of_ble_eq_true rfl)
  rw [lg_entry_eq]
  generalize (lg_sl ([.ref h]) ++ List.replicate (1 - (lg_sl ([.ref h])).length) Slot.unset).toArray = ls at hl ⊢
  have hl : lv_has ls 1 [(0, .ref h)] := hl
  refine g_start (A := A) hP (fun H locs hP hS => ?_)
  refine lv_aload_n hx hb dX1_effect_0 rfl (lv_at hl 0 rfl) ?_
  refine va_get (D := (dC, dI)) (ci := 1) (v := .int xk3) (C := RX1) (T := TX1) (N := 19) hx hb hts iwX1 hown hK hP 0 rfl rfl 3 (by decide) (hts (.fieldLink RX1 28 "ModulePlayer$Channel" "cell" "I") (List.mem_cons_of_mem _ kw_144)) (fun _ h9 => h9) rfl dX1_effect_1 ?_
  refine lv_bipush (v := 8) hx hb dX1_effect_4 (by decide) ?_
  refine lv_ishr hx hb dX1_effect_6 ?_
  refine lv_bipush (v := 15) hx hb dX1_effect_7 (by decide) ?_
  refine lv_iand hx hb dX1_effect_9 ?_
  have hP9 := hP
  have hD9 := hD
  have hK9 := hK.sub (tys' := []) [] rfl
  exact W.iret (v := (xk3 >>> (8 &&& 31)) &&& 15) hx hb hr (fun t ht hW => ⟨⟨(xk3 >>> (8 &&& 31)) &&& 15, ([(h, .inr (1, [.ref bk, .ref vi, .ref tr, .int xk3, .int xk4, .int xk5, .int xk6, .int xk7, .int xk8, .int xk9, .int xk10, .int xk11, .int xk12, .int xk13, .int xk14, .int xk15, .long xk16, .int xk17, .int mu]))], []), rfl, ⟨rfl, rfl⟩, by rw [ht]; exact hP9, va_K.moved hW.alike hK9, hD9⟩, hS.F ht⟩) hS.2.2 dX1_effect_10

set_option maxHeartbeats 400000 in
set_option maxRecDepth 100000 in
theorem k_number (l : Launch) (dC : Nat → ClassId) (dI : Nat → Nat → Nat) (sz : Nat) (h bk vi tr : Nat) (xk3 xk4 xk5 xk6 xk7 xk8 xk9 xk10 xk11 xk12 xk13 xk14 xk15 xk17 mu : Int32) (xk16 : Int64) : Met l yX1_number (wsG (.code yX1_number cX1_number 1 (some .int))) ({ frames := 0, cells := 0, slots := 0, locals := 0 }) (va_Pc [.ref h] (gP (dC, dI) [] [(h, .inr (1, [.ref bk, .ref vi, .ref tr, .int xk3, .int xk4, .int xk5, .int xk6, .int xk7, .int xk8, .int xk9, .int xk10, .int xk11, .int xk12, .int xk13, .int xk14, .int xk15, .long xk16, .int xk17, .int mu]))] sz)) (va_Qi (fun (r : Int32) (u : va_W × gT) => u = ([(h, .inr (1, [.ref bk, .ref vi, .ref tr, .int xk3, .int xk4, .int xk5, .int xk6, .int xk7, .int xk8, .int xk9, .int xk10, .int xk11, .int xk12, .int xk13, .int xk14, .int xk15, .long xk16, .int xk17, .int mu]))], []) ∧ r = xk3 &&& 255) (gB (dC, dI) (va_A [(h, .inr (1, [.ref bk, .ref vi, .ref tr, .int xk3, .int xk4, .int xk5, .int xk6, .int xk7, .int xk8, .int xk9, .int xk10, .int xk11, .int xk12, .int xk13, .int xk14, .int xk15, .long xk16, .int xk17, .int mu]))] sz)) (va_A [(h, .inr (1, [.ref bk, .ref vi, .ref tr, .int xk3, .int xk4, .int xk5, .int xk6, .int xk7, .int xk8, .int xk9, .int xk10, .int xk11, .int xk12, .int xk13, .int xk14, .int xk15, .long xk16, .int xk17, .int mu]))] sz)) 0 0 (va_A [(h, .inr (1, [.ref bk, .ref vi, .ref tr, .int xk3, .int xk4, .int xk5, .int xk6, .int xk7, .int xk8, .int xk9, .int xk10, .int xk11, .int xk12, .int xk13, .int xk14, .int xk15, .long xk16, .int xk17, .int mu]))] sz) := by
  refine Met.ofW (cc := cX1_number) (maxL := 1) (ret := (some .int)) (by decide) rfl ?_
  intro p e s m args below meth c s₁ B hml hv
  obtain ⟨rfl, hsz, hP, hK, hD0, hN, hZ⟩ := hv
  have hx := B.exec
  have hb := B.bytes
  have hr := B.returns
  have hts := atoms_spec (ws := (wsG (.code yX1_number cX1_number 1 (some .int)))) B.pre
  have hown : s.vm.findClass RX1 = some m.cls := findClass_of_methodNamed B.named
  have hlocks := B.notSynchronized
  subst hsz
  have hD := hD0.self (sz := s.heap.size)
  generalize hAe : va_A [(h, .inr (1, [.ref bk, .ref vi, .ref tr, .int xk3, .int xk4, .int xk5, .int xk6, .int xk7, .int xk8, .int xk9, .int xk10, .int xk11, .int xk12, .int xk13, .int xk14, .int xk15, .long xk16, .int xk17, .int mu]))] s.heap.size = A at hD hZ ⊢
  have hA : ∀ q : Nat, s.heap.size ≤ q → A q := fun q h => by rw [← hAe]; exact Or.inr h
  have hl := lv_entry ([.ref h]) (n := 1) (Nat.le_of_ble_eq_true rfl)
  rw [lg_entry_eq]
  generalize (lg_sl ([.ref h]) ++ List.replicate (1 - (lg_sl ([.ref h])).length) Slot.unset).toArray = ls at hl ⊢
  have hl : lv_has ls 1 [(0, .ref h)] := hl
  refine g_start (A := A) hP (fun H locs hP hS => ?_)
  refine lv_aload_n hx hb dX1_number_0 rfl (lv_at hl 0 rfl) ?_
  refine va_get (D := (dC, dI)) (ci := 1) (v := .int xk3) (C := RX1) (T := TX1) (N := 19) hx hb hts iwX1 hown hK hP 0 rfl rfl 3 (by decide) (hts (.fieldLink RX1 28 "ModulePlayer$Channel" "cell" "I") (List.mem_cons_of_mem _ kw_144)) (fun _ h9 => h9) rfl dX1_number_1 ?_
  refine lv_sipush (v := 255) hx hb dX1_number_4 (by decide) ?_
  refine lv_iand hx hb dX1_number_7 ?_
  have hP9 := hP
  have hD9 := hD
  have hK9 := hK.sub (tys' := []) [] rfl
  exact W.iret (v := xk3 &&& 255) hx hb hr (fun t ht hW => ⟨⟨xk3 &&& 255, ([(h, .inr (1, [.ref bk, .ref vi, .ref tr, .int xk3, .int xk4, .int xk5, .int xk6, .int xk7, .int xk8, .int xk9, .int xk10, .int xk11, .int xk12, .int xk13, .int xk14, .int xk15, .long xk16, .int xk17, .int mu]))], []), rfl, ⟨rfl, rfl⟩, by rw [ht]; exact hP9, va_K.moved hW.alike hK9, hD9⟩, hS.F ht⟩) hS.2.2 dX1_number_8

set_option maxHeartbeats 400000 in
set_option maxRecDepth 100000 in
theorem k_x (l : Launch) (dC : Nat → ClassId) (dI : Nat → Nat → Nat) (sz : Nat) (h bk vi tr : Nat) (xk3 xk4 xk5 xk6 xk7 xk8 xk9 xk10 xk11 xk12 xk13 xk14 xk15 xk17 mu : Int32) (xk16 : Int64) : Met l yX1_x (wsG (.code yX1_x cX1_x 1 (some .int))) ({ frames := 0, cells := 0, slots := 0, locals := 0 }) (va_Pc [.ref h] (gP (dC, dI) [] [(h, .inr (1, [.ref bk, .ref vi, .ref tr, .int xk3, .int xk4, .int xk5, .int xk6, .int xk7, .int xk8, .int xk9, .int xk10, .int xk11, .int xk12, .int xk13, .int xk14, .int xk15, .long xk16, .int xk17, .int mu]))] sz)) (va_Qi (fun (r : Int32) (u : va_W × gT) => u = ([(h, .inr (1, [.ref bk, .ref vi, .ref tr, .int xk3, .int xk4, .int xk5, .int xk6, .int xk7, .int xk8, .int xk9, .int xk10, .int xk11, .int xk12, .int xk13, .int xk14, .int xk15, .long xk16, .int xk17, .int mu]))], []) ∧ r = (xk3 >>> (4 &&& 31)) &&& 15) (gB (dC, dI) (va_A [(h, .inr (1, [.ref bk, .ref vi, .ref tr, .int xk3, .int xk4, .int xk5, .int xk6, .int xk7, .int xk8, .int xk9, .int xk10, .int xk11, .int xk12, .int xk13, .int xk14, .int xk15, .long xk16, .int xk17, .int mu]))] sz)) (va_A [(h, .inr (1, [.ref bk, .ref vi, .ref tr, .int xk3, .int xk4, .int xk5, .int xk6, .int xk7, .int xk8, .int xk9, .int xk10, .int xk11, .int xk12, .int xk13, .int xk14, .int xk15, .long xk16, .int xk17, .int mu]))] sz)) 0 0 (va_A [(h, .inr (1, [.ref bk, .ref vi, .ref tr, .int xk3, .int xk4, .int xk5, .int xk6, .int xk7, .int xk8, .int xk9, .int xk10, .int xk11, .int xk12, .int xk13, .int xk14, .int xk15, .long xk16, .int xk17, .int mu]))] sz) := by
  refine Met.ofW (cc := cX1_x) (maxL := 1) (ret := (some .int)) (by decide) rfl ?_
  intro p e s m args below meth c s₁ B hml hv
  obtain ⟨rfl, hsz, hP, hK, hD0, hN, hZ⟩ := hv
  have hx := B.exec
  have hb := B.bytes
  have hr := B.returns
  have hts := atoms_spec (ws := (wsG (.code yX1_x cX1_x 1 (some .int)))) B.pre
  have hown : s.vm.findClass RX1 = some m.cls := findClass_of_methodNamed B.named
  have hlocks := B.notSynchronized
  subst hsz
  have hD := hD0.self (sz := s.heap.size)
  generalize hAe : va_A [(h, .inr (1, [.ref bk, .ref vi, .ref tr, .int xk3, .int xk4, .int xk5, .int xk6, .int xk7, .int xk8, .int xk9, .int xk10, .int xk11, .int xk12, .int xk13, .int xk14, .int xk15, .long xk16, .int xk17, .int mu]))] s.heap.size = A at hD hZ ⊢
  have hA : ∀ q : Nat, s.heap.size ≤ q → A q := fun q h => by rw [← hAe]; exact Or.inr h
  have hl := lv_entry ([.ref h]) (n := 1) (Nat.le_of_ble_eq_true rfl)
  rw [lg_entry_eq]
  generalize (lg_sl ([.ref h]) ++ List.replicate (1 - (lg_sl ([.ref h])).length) Slot.unset).toArray = ls at hl ⊢
  have hl : lv_has ls 1 [(0, .ref h)] := hl
  refine g_start (A := A) hP (fun H locs hP hS => ?_)
  refine lv_aload_n hx hb dX1_x_0 rfl (lv_at hl 0 rfl) ?_
  refine va_get (D := (dC, dI)) (ci := 1) (v := .int xk3) (C := RX1) (T := TX1) (N := 19) hx hb hts iwX1 hown hK hP 0 rfl rfl 3 (by decide) (hts (.fieldLink RX1 28 "ModulePlayer$Channel" "cell" "I") (List.mem_cons_of_mem _ kw_144)) (fun _ h9 => h9) rfl dX1_x_1 ?_
  refine lv_iconst (v := 4) hx hb dX1_x_4 (by decide) ?_
  refine lv_ishr hx hb dX1_x_5 ?_
  refine lv_bipush (v := 15) hx hb dX1_x_6 (by decide) ?_
  refine lv_iand hx hb dX1_x_8 ?_
  have hP9 := hP
  have hD9 := hD
  have hK9 := hK.sub (tys' := []) [] rfl
  exact W.iret (v := (xk3 >>> (4 &&& 31)) &&& 15) hx hb hr (fun t ht hW => ⟨⟨(xk3 >>> (4 &&& 31)) &&& 15, ([(h, .inr (1, [.ref bk, .ref vi, .ref tr, .int xk3, .int xk4, .int xk5, .int xk6, .int xk7, .int xk8, .int xk9, .int xk10, .int xk11, .int xk12, .int xk13, .int xk14, .int xk15, .long xk16, .int xk17, .int mu]))], []), rfl, ⟨rfl, rfl⟩, by rw [ht]; exact hP9, va_K.moved hW.alike hK9, hD9⟩, hS.F ht⟩) hS.2.2 dX1_x_9

set_option maxHeartbeats 400000 in
set_option maxRecDepth 100000 in
theorem k_y (l : Launch) (dC : Nat → ClassId) (dI : Nat → Nat → Nat) (sz : Nat) (h bk vi tr : Nat) (xk3 xk4 xk5 xk6 xk7 xk8 xk9 xk10 xk11 xk12 xk13 xk14 xk15 xk17 mu : Int32) (xk16 : Int64) : Met l yX1_y (wsG (.code yX1_y cX1_y 1 (some .int))) ({ frames := 0, cells := 0, slots := 0, locals := 0 }) (va_Pc [.ref h] (gP (dC, dI) [] [(h, .inr (1, [.ref bk, .ref vi, .ref tr, .int xk3, .int xk4, .int xk5, .int xk6, .int xk7, .int xk8, .int xk9, .int xk10, .int xk11, .int xk12, .int xk13, .int xk14, .int xk15, .long xk16, .int xk17, .int mu]))] sz)) (va_Qi (fun (r : Int32) (u : va_W × gT) => u = ([(h, .inr (1, [.ref bk, .ref vi, .ref tr, .int xk3, .int xk4, .int xk5, .int xk6, .int xk7, .int xk8, .int xk9, .int xk10, .int xk11, .int xk12, .int xk13, .int xk14, .int xk15, .long xk16, .int xk17, .int mu]))], []) ∧ r = xk3 &&& 15) (gB (dC, dI) (va_A [(h, .inr (1, [.ref bk, .ref vi, .ref tr, .int xk3, .int xk4, .int xk5, .int xk6, .int xk7, .int xk8, .int xk9, .int xk10, .int xk11, .int xk12, .int xk13, .int xk14, .int xk15, .long xk16, .int xk17, .int mu]))] sz)) (va_A [(h, .inr (1, [.ref bk, .ref vi, .ref tr, .int xk3, .int xk4, .int xk5, .int xk6, .int xk7, .int xk8, .int xk9, .int xk10, .int xk11, .int xk12, .int xk13, .int xk14, .int xk15, .long xk16, .int xk17, .int mu]))] sz)) 0 0 (va_A [(h, .inr (1, [.ref bk, .ref vi, .ref tr, .int xk3, .int xk4, .int xk5, .int xk6, .int xk7, .int xk8, .int xk9, .int xk10, .int xk11, .int xk12, .int xk13, .int xk14, .int xk15, .long xk16, .int xk17, .int mu]))] sz) := by
  refine Met.ofW (cc := cX1_y) (maxL := 1) (ret := (some .int)) (by decide) rfl ?_
  intro p e s m args below meth c s₁ B hml hv
  obtain ⟨rfl, hsz, hP, hK, hD0, hN, hZ⟩ := hv
  have hx := B.exec
  have hb := B.bytes
  have hr := B.returns
  have hts := atoms_spec (ws := (wsG (.code yX1_y cX1_y 1 (some .int)))) B.pre
  have hown : s.vm.findClass RX1 = some m.cls := findClass_of_methodNamed B.named
  have hlocks := B.notSynchronized
  subst hsz
  have hD := hD0.self (sz := s.heap.size)
  generalize hAe : va_A [(h, .inr (1, [.ref bk, .ref vi, .ref tr, .int xk3, .int xk4, .int xk5, .int xk6, .int xk7, .int xk8, .int xk9, .int xk10, .int xk11, .int xk12, .int xk13, .int xk14, .int xk15, .long xk16, .int xk17, .int mu]))] s.heap.size = A at hD hZ ⊢
  have hA : ∀ q : Nat, s.heap.size ≤ q → A q := fun q h => by rw [← hAe]; exact Or.inr h
  have hl := lv_entry ([.ref h]) (n := 1) (Nat.le_of_ble_eq_true rfl)
  rw [lg_entry_eq]
  generalize (lg_sl ([.ref h]) ++ List.replicate (1 - (lg_sl ([.ref h])).length) Slot.unset).toArray = ls at hl ⊢
  have hl : lv_has ls 1 [(0, .ref h)] := hl
  refine g_start (A := A) hP (fun H locs hP hS => ?_)
  refine lv_aload_n hx hb dX1_y_0 rfl (lv_at hl 0 rfl) ?_
  refine va_get (D := (dC, dI)) (ci := 1) (v := .int xk3) (C := RX1) (T := TX1) (N := 19) hx hb hts iwX1 hown hK hP 0 rfl rfl 3 (by decide) (hts (.fieldLink RX1 28 "ModulePlayer$Channel" "cell" "I") (List.mem_cons_of_mem _ kw_144)) (fun _ h9 => h9) rfl dX1_y_1 ?_
  refine lv_bipush (v := 15) hx hb dX1_y_4 (by decide) ?_
  refine lv_iand hx hb dX1_y_6 ?_
  have hP9 := hP
  have hD9 := hD
  have hK9 := hK.sub (tys' := []) [] rfl
  exact W.iret (v := xk3 &&& 15) hx hb hr (fun t ht hW => ⟨⟨xk3 &&& 15, ([(h, .inr (1, [.ref bk, .ref vi, .ref tr, .int xk3, .int xk4, .int xk5, .int xk6, .int xk7, .int xk8, .int xk9, .int xk10, .int xk11, .int xk12, .int xk13, .int xk14, .int xk15, .long xk16, .int xk17, .int mu]))], []), rfl, ⟨rfl, rfl⟩, by rw [ht]; exact hP9, va_K.moved hW.alike hK9, hD9⟩, hS.F ht⟩) hS.2.2 dX1_y_7

set_option maxHeartbeats 400000 in
set_option maxRecDepth 100000 in
theorem k_noteTick (l : Launch) (dC : Nat → ClassId) (dI : Nat → Nat → Nat) (sz : Nat) (h bk vi tr : Nat) (xk3 xk4 xk5 xk6 xk7 xk8 xk9 xk10 xk11 xk12 xk13 xk14 xk15 xk17 mu : Int32) (xk16 : Int64) : Met l yX1_noteTick (wsG (.code yX1_noteTick cX1_noteTick 1 (some .int))) ({ frames := 1, cells := 0, slots := 0, locals := 20 }) (va_Pc [.ref h] (gP (dC, dI) [] [(h, .inr (1, [.ref bk, .ref vi, .ref tr, .int xk3, .int xk4, .int xk5, .int xk6, .int xk7, .int xk8, .int xk9, .int xk10, .int xk11, .int xk12, .int xk13, .int xk14, .int xk15, .long xk16, .int xk17, .int mu]))] sz)) (va_Qi (fun (r : Int32) (u : va_W × gT) => u = ([(h, .inr (1, [.ref bk, .ref vi, .ref tr, .int xk3, .int xk4, .int xk5, .int xk6, .int xk7, .int xk8, .int xk9, .int xk10, .int xk11, .int xk12, .int xk13, .int xk14, .int xk15, .long xk16, .int xk17, .int mu]))], [])) (gB (dC, dI) (va_A [(h, .inr (1, [.ref bk, .ref vi, .ref tr, .int xk3, .int xk4, .int xk5, .int xk6, .int xk7, .int xk8, .int xk9, .int xk10, .int xk11, .int xk12, .int xk13, .int xk14, .int xk15, .long xk16, .int xk17, .int mu]))] sz)) (va_A [(h, .inr (1, [.ref bk, .ref vi, .ref tr, .int xk3, .int xk4, .int xk5, .int xk6, .int xk7, .int xk8, .int xk9, .int xk10, .int xk11, .int xk12, .int xk13, .int xk14, .int xk15, .long xk16, .int xk17, .int mu]))] sz)) 0 0 (va_A [(h, .inr (1, [.ref bk, .ref vi, .ref tr, .int xk3, .int xk4, .int xk5, .int xk6, .int xk7, .int xk8, .int xk9, .int xk10, .int xk11, .int xk12, .int xk13, .int xk14, .int xk15, .long xk16, .int xk17, .int mu]))] sz) := by
  refine Met.ofW (cc := cX1_noteTick) (maxL := 1) (ret := (some .int)) (by decide) rfl ?_
  intro p e s m args below meth c s₁ B hml hv
  obtain ⟨rfl, hsz, hP, hK, hD0, hN, hZ⟩ := hv
  have hx := B.exec
  have hb := B.bytes
  have hr := B.returns
  have hts := atoms_spec (ws := (wsG (.code yX1_noteTick cX1_noteTick 1 (some .int)))) B.pre
  have hown : s.vm.findClass RX1 = some m.cls := findClass_of_methodNamed B.named
  have hlocks := B.notSynchronized
  subst hsz
  have hD := hD0.self (sz := s.heap.size)
  generalize hAe : va_A [(h, .inr (1, [.ref bk, .ref vi, .ref tr, .int xk3, .int xk4, .int xk5, .int xk6, .int xk7, .int xk8, .int xk9, .int xk10, .int xk11, .int xk12, .int xk13, .int xk14, .int xk15, .long xk16, .int xk17, .int mu]))] s.heap.size = A at hD hZ ⊢
  have hA : ∀ q : Nat, s.heap.size ≤ q → A q := fun q h => by rw [← hAe]; exact Or.inr h
  have hl := lv_entry ([.ref h]) (n := 1) (Nat.le_of_ble_eq_true rfl)
  rw [lg_entry_eq]
  generalize (lg_sl ([.ref h]) ++ List.replicate (1 - (lg_sl ([.ref h])).length) Slot.unset).toArray = ls at hl ⊢
  have hl : lv_has ls 1 [(0, .ref h)] := hl
  refine g_start (A := A) hP (fun H locs hP hS => ?_)
  refine lv_aload_n hx hb dX1_noteTick_0 rfl (lv_at hl 0 rfl) ?_
  refine g_calli (wr := []) (va_runV (As := []) (rest := []) ⟨hx, hb, hml, hown, hts⟩ (k_effect l dC dI H.size h bk vi tr xk3 xk4 xk5 xk6 xk7 xk8 xk9 xk10 xk11 xk12 xk13 xk14 xk15 xk17 mu xk16 ) (cwV 0 hts (gG_V kw_675 kw_676 kw_677 kw_39 kw_678) rfl rfl rfl (by decide +kernel) ⟨Nat.le_of_ble_eq_true rfl, Nat.le_of_ble_eq_true rfl⟩) (g_preV (C := RX1) (T := TX1) (N := 19) hP hD hK hS hA hN hZ (q0 := 0) rfl rfl [0] (by decide +kernel) rfl [] rfl) rfl rfl hl.1 rfl (lv_room (Nat.le_of_ble_eq_true rfl)) dX1_noteTick_1 ⟨Nat.le_of_ble_eq_true rfl, Nat.le_of_ble_eq_true rfl⟩) hP hD hK hS hA [0] [] rfl rfl (by decide +kernel) (by decide +kernel) (fun r_1 w ty1 H locs hw_1 hP hD _ hS => ?_)
  rcases hw_1 with ⟨hu, hr_1⟩
  cases hu
  have hP : va_P (dC, dI) vwCl [(h, .inr (1, [.ref bk, .ref vi, .ref tr, .int xk3, .int xk4, .int xk5, .int xk6, .int xk7, .int xk8, .int xk9, .int xk10, .int xk11, .int xk12, .int xk13, .int xk14, .int xk15, .long xk16, .int xk17, .int mu]))] H := hP
  have hD : va_D A [(h, .inr (1, [.ref bk, .ref vi, .ref tr, .int xk3, .int xk4, .int xk5, .int xk6, .int xk7, .int xk8, .int xk9, .int xk10, .int xk11, .int xk12, .int xk13, .int xk14, .int xk15, .long xk16, .int xk17, .int mu]))] := hD
  refine g_topi (y := (xk3 >>> (8 &&& 31)) &&& 15) hr_1 ?_
  refine lv_bipush (v := 14) hx hb dX1_noteTick_4 (by decide) ?_
  refine lv_icmp_ne (tgt := 25) hx hb dX1_noteTick_6 (by decide) (fun c_6 => ?_) (fun c_6 => ?_)
  · refine lv_iconst (v := 0) hx hb dX1_noteTick_25 (by decide) ?_
    have hP9 := hP
    have hD9 := hD
    have hK9 := hK.sub (tys' := []) [] rfl
    exact W.iret (v := 0) hx hb hr (fun t ht hW => ⟨⟨0, ([(h, .inr (1, [.ref bk, .ref vi, .ref tr, .int xk3, .int xk4, .int xk5, .int xk6, .int xk7, .int xk8, .int xk9, .int xk10, .int xk11, .int xk12, .int xk13, .int xk14, .int xk15, .long xk16, .int xk17, .int mu]))], []), rfl, rfl, by rw [ht]; exact hP9, va_K.moved hW.alike hK9, hD9⟩, hS.F ht⟩) hS.2.2 dX1_noteTick_26
  refine lv_aload_n hx hb dX1_noteTick_9 rfl (lv_at hl 0 rfl) ?_
  refine g_calli (wr := []) (va_runV (As := []) (rest := []) ⟨hx, hb, hml, hown, hts⟩ (k_x l dC dI H.size h bk vi tr xk3 xk4 xk5 xk6 xk7 xk8 xk9 xk10 xk11 xk12 xk13 xk14 xk15 xk17 mu xk16 ) (cwV 0 hts (gG_V kw_679 kw_680 kw_681 kw_39 kw_682) rfl rfl rfl (by decide +kernel) ⟨Nat.le_of_ble_eq_true rfl, Nat.le_of_ble_eq_true rfl⟩) (g_preV (C := RX1) (T := TX1) (N := 19) hP hD hK hS hA hN hZ (q0 := 0) rfl rfl [0] (by decide +kernel) rfl [] rfl) rfl rfl hl.1 rfl (lv_room (Nat.le_of_ble_eq_true rfl)) dX1_noteTick_10 ⟨Nat.le_of_ble_eq_true rfl, Nat.le_of_ble_eq_true rfl⟩) hP hD hK hS hA [0] [] rfl rfl (by decide +kernel) (by decide +kernel) (fun r_10 w ty1 H locs hw_10 hP hD _ hS => ?_)
  rcases hw_10 with ⟨hu, hr_10⟩
  cases hu
  have hP : va_P (dC, dI) vwCl [(h, .inr (1, [.ref bk, .ref vi, .ref tr, .int xk3, .int xk4, .int xk5, .int xk6, .int xk7, .int xk8, .int xk9, .int xk10, .int xk11, .int xk12, .int xk13, .int xk14, .int xk15, .long xk16, .int xk17, .int mu]))] H := hP
  have hD : va_D A [(h, .inr (1, [.ref bk, .ref vi, .ref tr, .int xk3, .int xk4, .int xk5, .int xk6, .int xk7, .int xk8, .int xk9, .int xk10, .int xk11, .int xk12, .int xk13, .int xk14, .int xk15, .long xk16, .int xk17, .int mu]))] := hD
  refine g_topi (y := (xk3 >>> (4 &&& 31)) &&& 15) hr_10 ?_
  refine lv_bipush (v := 13) hx hb dX1_noteTick_13 (by decide) ?_
  refine lv_icmp_ne (tgt := 25) hx hb dX1_noteTick_15 (by decide) (fun c_15 => ?_) (fun c_15 => ?_)
  · refine lv_iconst (v := 0) hx hb dX1_noteTick_25 (by decide) ?_
    have hP9 := hP
    have hD9 := hD
    have hK9 := hK.sub (tys' := []) [] rfl
    exact W.iret (v := 0) hx hb hr (fun t ht hW => ⟨⟨0, ([(h, .inr (1, [.ref bk, .ref vi, .ref tr, .int xk3, .int xk4, .int xk5, .int xk6, .int xk7, .int xk8, .int xk9, .int xk10, .int xk11, .int xk12, .int xk13, .int xk14, .int xk15, .long xk16, .int xk17, .int mu]))], []), rfl, rfl, by rw [ht]; exact hP9, va_K.moved hW.alike hK9, hD9⟩, hS.F ht⟩) hS.2.2 dX1_noteTick_26
  refine lv_aload_n hx hb dX1_noteTick_18 rfl (lv_at hl 0 rfl) ?_
  refine g_calli (wr := []) (va_runV (As := []) (rest := []) ⟨hx, hb, hml, hown, hts⟩ (k_y l dC dI H.size h bk vi tr xk3 xk4 xk5 xk6 xk7 xk8 xk9 xk10 xk11 xk12 xk13 xk14 xk15 xk17 mu xk16 ) (cwV 0 hts (gG_V kw_683 kw_684 kw_685 kw_39 kw_686) rfl rfl rfl (by decide +kernel) ⟨Nat.le_of_ble_eq_true rfl, Nat.le_of_ble_eq_true rfl⟩) (g_preV (C := RX1) (T := TX1) (N := 19) hP hD hK hS hA hN hZ (q0 := 0) rfl rfl [0] (by decide +kernel) rfl [] rfl) rfl rfl hl.1 rfl (lv_room (Nat.le_of_ble_eq_true rfl)) dX1_noteTick_19 ⟨Nat.le_of_ble_eq_true rfl, Nat.le_of_ble_eq_true rfl⟩) hP hD hK hS hA [0] [] rfl rfl (by decide +kernel) (by decide +kernel) (fun r_19 w ty1 H locs hw_19 hP hD _ hS => ?_)
  rcases hw_19 with ⟨hu, hr_19⟩
  cases hu
  have hP : va_P (dC, dI) vwCl [(h, .inr (1, [.ref bk, .ref vi, .ref tr, .int xk3, .int xk4, .int xk5, .int xk6, .int xk7, .int xk8, .int xk9, .int xk10, .int xk11, .int xk12, .int xk13, .int xk14, .int xk15, .long xk16, .int xk17, .int mu]))] H := hP
  have hD : va_D A [(h, .inr (1, [.ref bk, .ref vi, .ref tr, .int xk3, .int xk4, .int xk5, .int xk6, .int xk7, .int xk8, .int xk9, .int xk10, .int xk11, .int xk12, .int xk13, .int xk14, .int xk15, .long xk16, .int xk17, .int mu]))] := hD
  refine g_topi (y := xk3 &&& 15) hr_19 ?_
  refine lv_goto (tgt := 26) hx hb dX1_noteTick_22 (by decide) ?_
  have hP9 := hP
  have hD9 := hD
  have hK9 := hK.sub (tys' := []) [] rfl
  exact W.iret (v := xk3 &&& 15) hx hb hr (fun t ht hW => ⟨⟨xk3 &&& 15, ([(h, .inr (1, [.ref bk, .ref vi, .ref tr, .int xk3, .int xk4, .int xk5, .int xk6, .int xk7, .int xk8, .int xk9, .int xk10, .int xk11, .int xk12, .int xk13, .int xk14, .int xk15, .long xk16, .int xk17, .int mu]))], []), rfl, rfl, by rw [ht]; exact hP9, va_K.moved hW.alike hK9, hD9⟩, hS.F ht⟩) hS.2.2 dX1_noteTick_26

set_option maxHeartbeats 400000 in
set_option maxRecDepth 100000 in
theorem k_getA (l : Launch) (dC : Nat → ClassId) (dI : Nat → Nat → Nat) (sz : Nat) (h sa bb : Nat) (us : Int32) (ad : Nat → Nat) (cS : ClassId) (g : Nat → Option Nat) (iv : Int32) (hg : ∀ x, x < 32 → g x = some (ad x)) : Met l yX0_get (wsG (.code yX0_get cX0_get 2 (some (.object "ModulePlayer$Sample")))) ({ frames := 1, cells := 0, slots := 0, locals := 21 }) (va_Pc [.ref h, .int iv] (gP (dC, dI) [(cS, .object RX5)] [(h, .inr (0, [.ref sa, .ref bb, .int us])), (sa, .inl (cS, 32, .inr (.inr (.inr (.inr g)))))] sz)) (va_Qq (fun (r : Option Nat) (u : va_W × gT) => ∃ (kf : Nat), u = ([(h, .inr (0, [.ref sa, .ref bb, .int us])), (sa, .inl (cS, 32, .inr (.inr (.inr (.inr g)))))], []) ∧ r = some (ad kf) ∧ kf < 32) (gB (dC, dI) (va_A [(h, .inr (0, [.ref sa, .ref bb, .int us])), (sa, .inl (cS, 32, .inr (.inr (.inr (.inr g)))))] sz)) (va_A [(h, .inr (0, [.ref sa, .ref bb, .int us])), (sa, .inl (cS, 32, .inr (.inr (.inr (.inr g)))))] sz)) 0 0 (va_A [(h, .inr (0, [.ref sa, .ref bb, .int us])), (sa, .inl (cS, 32, .inr (.inr (.inr (.inr g)))))] sz) := by
  refine Met.ofW (cc := cX0_get) (maxL := 2) (ret := (some (.object "ModulePlayer$Sample"))) (by decide) rfl ?_
  intro p e s m args below meth c s₁ B hml hv
  obtain ⟨rfl, hsz, hP, hK, hD0, hN, hZ⟩ := hv
  have hx := B.exec
  have hb := B.bytes
  have hr := B.returns
  have hts := atoms_spec (ws := (wsG (.code yX0_get cX0_get 2 (some (.object "ModulePlayer$Sample"))))) B.pre
  have hown : s.vm.findClass RX0 = some m.cls := findClass_of_methodNamed B.named
  have hlocks := B.notSynchronized
  subst hsz
  have hD := hD0.self (sz := s.heap.size)
  generalize hAe : va_A [(h, .inr (0, [.ref sa, .ref bb, .int us])), (sa, .inl (cS, 32, .inr (.inr (.inr (.inr g)))))] s.heap.size = A at hD hZ ⊢
  have hA : ∀ q : Nat, s.heap.size ≤ q → A q := fun q h => by rw [← hAe]; exact Or.inr h
  have hl := lv_entry ([.ref h, .int iv]) (n := 2) (Nat.le_of_ble_eq_true rfl)
  rw [lg_entry_eq]
  generalize (lg_sl ([.ref h, .int iv]) ++ List.replicate (2 - (lg_sl ([.ref h, .int iv])).length) Slot.unset).toArray = ls at hl ⊢
  have hl : lv_has ls 2 [(0, .ref h), (1, .int iv)] := hl
  refine g_start (A := A) hP (fun H locs hP hS => ?_)
  refine lv_aload_n hx hb dX0_get_0 rfl (lv_at hl 0 rfl) ?_
  refine va_get (D := (dC, dI)) (ci := 0) (v := .ref sa) (C := RX0) (T := TX0) (N := 3) hx hb hts iwX0 hown hK hP 0 rfl rfl 0 (by decide) (hts (.fieldLink RX0 11 "ModulePlayer$Bank" "samples" "[LModulePlayer$Sample;") (List.mem_cons_of_mem _ kw_54)) (fun _ h9 => h9) rfl dX0_get_1 ?_
  refine lv_aload_n hx hb dX0_get_4 rfl (lv_at hl 0 rfl) ?_
  refine lv_iload_n hx hb dX0_get_5 rfl (lv_at hl 1 rfl) ?_
  refine g_calli (wr := [(sa, .inl (cS, 32, .inr (.inr (.inr (.inr g)))))]) (va_runV (As := [.int iv]) (rest := [.ref sa]) ⟨hx, hb, hml, hown, hts⟩ (c_has l dC dI H.size h sa bb us iv ) (cwV 1 hts (gG_V kw_396 kw_397 kw_398 kw_22 kw_399) rfl rfl rfl (by decide +kernel) ⟨Nat.le_of_ble_eq_true rfl, Nat.le_of_ble_eq_true rfl⟩) (g_preV (C := RX0) (T := TX0) (N := 3) hP hD hK hS hA hN hZ (q0 := 0) rfl rfl [0] (by decide +kernel) rfl [] rfl) rfl rfl hl.1 rfl (lv_room (Nat.le_of_ble_eq_true rfl)) dX0_get_6 ⟨Nat.le_of_ble_eq_true rfl, Nat.le_of_ble_eq_true rfl⟩) hP hD hK hS hA [0] [1] rfl rfl (by decide +kernel) (by decide +kernel) (fun r_6 w ty1 H locs hw_6 hP hD _ hS => ?_)
  rcases hw_6 with ⟨hu, hr_6, hh_6⟩ | ⟨hu, hr_6, hh_6⟩
  · cases hu
    have hP : va_P (dC, dI) vwCl [(sa, .inl (cS, 32, .inr (.inr (.inr (.inr g))))), (h, .inr (0, [.ref sa, .ref bb, .int us]))] H := hP
    have hD : va_D A [(sa, .inl (cS, 32, .inr (.inr (.inr (.inr g))))), (h, .inr (0, [.ref sa, .ref bb, .int us]))] := hD
    refine g_topi (y := 1) hr_6 ?_
    obtain ⟨kf, hkf1, hkf, hik⟩ := in_1_31 hh_6
    subst hik
    refine lv_if_eq (tgt := 16) hx hb dX0_get_9 (by decide) (fun c_9 => absurd c_9 (by decide)) (fun c_9 => ?_)
    refine lv_iload_n hx hb dX0_get_12 rfl (lv_at hl 1 rfl) ?_
    refine lv_goto (tgt := 17) hx hb dX0_get_13 (by decide) ?_
    refine g_aald hx hb hK hP 0 0 rfl rfl kf (nI_clamp (by omega)) (y := (ad kf)) (hg kf hkf) (vp_in_nI hkf (by decide)) dX0_get_17 ?_
    have hP9 := hP.sub (ws' := [(h, .inr (0, [.ref sa, .ref bb, .int us])), (sa, .inl (cS, 32, .inr (.inr (.inr (.inr g)))))]) [1, 0] rfl
    have hD9 := hD.sub (ws' := [(h, .inr (0, [.ref sa, .ref bb, .int us])), (sa, .inl (cS, 32, .inr (.inr (.inr (.inr g)))))]) [1, 0] (by decide +kernel) rfl
    have hK9 := hK.sub (tys' := []) [] rfl
    exact W.aret (v := .ref (ad kf)) hx hb hr (Or.inl ⟨_, rfl⟩) (Or.inr ⟨_, rfl⟩) (fun t ht hW => ⟨⟨some (ad kf), ([(h, .inr (0, [.ref sa, .ref bb, .int us])), (sa, .inl (cS, 32, .inr (.inr (.inr (.inr g)))))], []), rfl, ⟨kf, rfl, rfl, hkf⟩, by rw [ht]; exact hP9, va_K.moved hW.alike hK9, hD9⟩, hS.F ht⟩) hS.2.2 dX0_get_18
  cases hu
  have hP : va_P (dC, dI) vwCl [(sa, .inl (cS, 32, .inr (.inr (.inr (.inr g))))), (h, .inr (0, [.ref sa, .ref bb, .int us]))] H := hP
  have hD : va_D A [(sa, .inl (cS, 32, .inr (.inr (.inr (.inr g))))), (h, .inr (0, [.ref sa, .ref bb, .int us]))] := hD
  refine g_topi (y := 0) hr_6 ?_
  refine lv_if_eq (tgt := 16) hx hb dX0_get_9 (by decide) (fun c_9 => ?_) (fun c_9 => absurd c_9 (by decide))
  refine lv_iconst (v := 0) hx hb dX0_get_16 (by decide) ?_
  refine g_aald hx hb hK hP 0 0 rfl rfl 0 (by decide) (y := (ad 0)) (hg 0 (by decide)) (by unfold vp_in; decide) dX0_get_17 ?_
  have hP9 := hP.sub (ws' := [(h, .inr (0, [.ref sa, .ref bb, .int us])), (sa, .inl (cS, 32, .inr (.inr (.inr (.inr g)))))]) [1, 0] rfl
  have hD9 := hD.sub (ws' := [(h, .inr (0, [.ref sa, .ref bb, .int us])), (sa, .inl (cS, 32, .inr (.inr (.inr (.inr g)))))]) [1, 0] (by decide +kernel) rfl
  have hK9 := hK.sub (tys' := []) [] rfl
  exact W.aret (v := .ref (ad 0)) hx hb hr (Or.inl ⟨_, rfl⟩) (Or.inr ⟨_, rfl⟩) (fun t ht hW => ⟨⟨some (ad 0), ([(h, .inr (0, [.ref sa, .ref bb, .int us])), (sa, .inl (cS, 32, .inr (.inr (.inr (.inr g)))))], []), rfl, ⟨0, rfl, rfl, (by decide)⟩, by rw [ht]; exact hP9, va_K.moved hW.alike hK9, hD9⟩, hS.F ht⟩) hS.2.2 dX0_get_18

set_option maxHeartbeats 400000 in
set_option maxRecDepth 100000 in
theorem k_getByte (l : Launch) (dC : Nat → ClassId) (dI : Nat → Nat → Nat) (sz : Nat) (h sa bb : Nat) (us : Int32) (ad : Nat → Nat) (cB : ClassId) (f : Nat → Int32) (le tu vo sr lo fr : Nat → Int32) (kf : Nat) (iv : Int32) (hkf : kf < 32) : Met l yX0_getByte (wsG (.code yX0_getByte cX0_getByte 4 (some .int))) ({ frames := 1, cells := 0, slots := 0, locals := 21 }) (va_Pc [.ref h, .ref (ad kf), .int iv] (gP (dC, dI) [(cB, .byte)] (([(h, .inr (0, [.ref sa, .ref bb, .int us])), (bb, .inl (cB, 4000, .inl f))] : va_W) ++ famN 32 ad le tu vo sr lo fr) sz)) (va_Qi (fun (r : Int32) (u : va_W × gT) => (∃ (jg : Nat), u = ((([(h, .inr (0, [.ref sa, .ref bb, .int us])), (bb, .inl (cB, 4000, .inl f))] : va_W) ++ famN 32 ad le tu vo sr lo fr), []) ∧ r = f jg ∧ jg < 4000 ∧ fr kf + iv = nI jg) ∨ (u = ((([(h, .inr (0, [.ref sa, .ref bb, .int us])), (bb, .inl (cB, 4000, .inl f))] : va_W) ++ famN 32 ad le tu vo sr lo fr), []) ∧ r = 0 ∧ ¬ (0 ≤ fr kf + iv ∧ fr kf + iv < 4000))) (gB (dC, dI) (va_A (([(h, .inr (0, [.ref sa, .ref bb, .int us])), (bb, .inl (cB, 4000, .inl f))] : va_W) ++ famN 32 ad le tu vo sr lo fr) sz)) (va_A (([(h, .inr (0, [.ref sa, .ref bb, .int us])), (bb, .inl (cB, 4000, .inl f))] : va_W) ++ famN 32 ad le tu vo sr lo fr) sz)) 0 0 (va_A (([(h, .inr (0, [.ref sa, .ref bb, .int us])), (bb, .inl (cB, 4000, .inl f))] : va_W) ++ famN 32 ad le tu vo sr lo fr) sz) := by
  refine Met.ofW (cc := cX0_getByte) (maxL := 4) (ret := (some .int)) (by decide) rfl ?_
  intro p e s m args below meth c s₁ B hml hv
  obtain ⟨rfl, hsz, hP, hK, hD0, hN, hZ⟩ := hv
  have hx := B.exec
  have hb := B.bytes
  have hr := B.returns
  have hts := atoms_spec (ws := (wsG (.code yX0_getByte cX0_getByte 4 (some .int)))) B.pre
  have hown : s.vm.findClass RX0 = some m.cls := findClass_of_methodNamed B.named
  have hlocks := B.notSynchronized
  subst hsz
  have hD := hD0.self (sz := s.heap.size)
  generalize hAe : va_A (([(h, .inr (0, [.ref sa, .ref bb, .int us])), (bb, .inl (cB, 4000, .inl f))] : va_W) ++ famN 32 ad le tu vo sr lo fr) s.heap.size = A at hD hZ ⊢
  have hA : ∀ q : Nat, s.heap.size ≤ q → A q := fun q h => by rw [← hAe]; exact Or.inr h
  have hl := lv_entry ([.ref h, .ref (ad kf), .int iv]) (n := 4) (Nat.le_of_ble_eq_true rfl)
  rw [lg_entry_eq]
  generalize (lg_sl ([.ref h, .ref (ad kf), .int iv]) ++ List.replicate (4 - (lg_sl ([.ref h, .ref (ad kf), .int iv])).length) Slot.unset).toArray = ls at hl ⊢
  have hl : lv_has ls 4 [(0, .ref h), (1, .ref (ad kf)), (2, .int iv)] := hl
  refine g_start (A := A) hP (fun H locs hP hS => ?_)
  refine lv_aload_n hx hb dX0_getByte_0 rfl (lv_at hl 1 rfl) ?_
  refine va_get (D := (dC, dI)) (ci := 5) (v := .int (fr kf)) (C := RX5) (T := TX5) (N := 6) hx hb hts iwX5 hown hK hP _ (fam_at (k := kf) (hkf)) rfl 5 (by decide) (hts (.fieldLink RX0 41 "ModulePlayer$Sample" "from" "I") (List.mem_cons_of_mem _ kw_382)) (fun _ h9 => h9) rfl dX0_getByte_1 ?_
  refine lv_iload_n hx hb dX0_getByte_4 rfl (lv_at hl 2 rfl) ?_
  refine lv_iadd hx hb dX0_getByte_5 ?_
  refine lv_topi (fun at_ eat_ => ?_)
  refine lv_istore_n (lv' := [(3, .int at_), (0, .ref h), (1, .ref (ad kf)), (2, .int iv)]) hx hb dX0_getByte_6 rfl hl (by decide) rfl (fun ls hl => ?_)
  refine lv_iload_n hx hb dX0_getByte_7 rfl (lv_at hl 0 rfl) ?_
  refine lv_sipush (v := 4000) hx hb dX0_getByte_8 (by decide) ?_
  refine g_calliQ (X := [(h, .inr (0, [.ref sa, .ref bb, .int us])), (bb, .inl (cB, 4000, .inl f))]) (wr := [(h, .inr (0, [.ref sa, .ref bb, .int us])), (bb, .inl (cB, 4000, .inl f))]) (va_runSN (As := [.int at_, .int 4000]) (rest := []) ⟨hx, hb, hml, hown, hts⟩ (c_isIn l dC dI H.size at_ 4000 ) ⟨va_cnB 2 hts (wsG_good kw_248) rfl rfl rfl (hN.1 (.methodLinkNest RX0 71 yX10_isIn RX10) (by decide +kernel)) (hts (.initialized RX10) (List.mem_cons_of_mem _ kw_2)) (by decide +kernel) ⟨Nat.le_of_ble_eq_true rfl, Nat.le_of_ble_eq_true rfl⟩, (hts (.static yX10_isIn) (List.mem_cons_of_mem _ kw_247)), trivial⟩ (g_preS (ws := [(h, .inr (0, [.ref sa, .ref bb, .int us])), (bb, .inl (cB, 4000, .inl f))]) hP.left hD.left hK hS hA hN hZ [] (by decide) rfl [] rfl) rfl rfl hl.1 rfl (lv_room (Nat.le_of_ble_eq_true rfl)) dX0_getByte_11 ⟨Nat.le_of_ble_eq_true rfl, Nat.le_of_ble_eq_true rfl⟩) hP hD hK hS hA [] [0, 1] rfl rfl (by decide +kernel) (by decide +kernel) (fun r_11 w ty1 H locs hw_11 hP hD _ hS => ?_)
  rcases hw_11 with ⟨hu, hr_11, h_11⟩ | ⟨hu, hr_11, h_11⟩
  · cases hu
    have hP : va_P (dC, dI) vwCl (([(h, .inr (0, [.ref sa, .ref bb, .int us])), (bb, .inl (cB, 4000, .inl f))] : va_W) ++ famN 32 ad le tu vo sr lo fr) H := hP
    have hD : va_D A (([(h, .inr (0, [.ref sa, .ref bb, .int us])), (bb, .inl (cB, 4000, .inl f))] : va_W) ++ famN 32 ad le tu vo sr lo fr) := hD
    refine g_topi (y := 1) hr_11 ?_
    obtain ⟨jg, hjg, hij⟩ := i_in (n := 4000) (by decide) h_11.1 h_11.2
    subst hij
    refine lv_if_eq (tgt := 26) hx hb dX0_getByte_14 (by decide) (fun c_14 => absurd c_14 (by decide)) (fun c_14 => ?_)
    refine lv_aload_n hx hb dX0_getByte_17 rfl (lv_at hl 1 rfl) ?_
    refine va_get (D := (dC, dI)) (ci := 0) (v := .ref bb) (C := RX0) (T := TX0) (N := 3) hx hb hts iwX0 hown hK hP 0 rfl rfl 1 (by decide) (hts (.fieldLink RX0 17 "ModulePlayer$Bank" "bytes" "[B") (List.mem_cons_of_mem _ kw_55)) (fun _ h9 => h9) rfl dX0_getByte_18 ?_
    refine lv_iload_n hx hb dX0_getByte_21 rfl (lv_at hl 0 rfl) ?_
    refine g_bald hx hb hK hP 1 0 rfl rfl jg (nI_clamp (Nat.lt_trans (show jg < 4000 from hjg) (by decide))) (vp_in_nI (hjg) (by decide)) dX0_getByte_22 ?_
    refine lv_goto (tgt := 27) hx hb dX0_getByte_23 (by decide) ?_
    have hP9 := hP
    have hD9 := hD
    have hK9 := hK.sub (tys' := []) [] rfl
    exact W.iret (v := f jg) hx hb hr (fun t ht hW => ⟨⟨f jg, ((([(h, .inr (0, [.ref sa, .ref bb, .int us])), (bb, .inl (cB, 4000, .inl f))] : va_W) ++ famN 32 ad le tu vo sr lo fr), []), rfl, (Or.inl ⟨jg, rfl, rfl, hjg, eat_.symm⟩), by rw [ht]; exact hP9, va_K.moved hW.alike hK9, hD9⟩, hS.F ht⟩) hS.2.2 dX0_getByte_27
  cases hu
  have hP : va_P (dC, dI) vwCl (([(h, .inr (0, [.ref sa, .ref bb, .int us])), (bb, .inl (cB, 4000, .inl f))] : va_W) ++ famN 32 ad le tu vo sr lo fr) H := hP
  have hD : va_D A (([(h, .inr (0, [.ref sa, .ref bb, .int us])), (bb, .inl (cB, 4000, .inl f))] : va_W) ++ famN 32 ad le tu vo sr lo fr) := hD
  refine g_topi (y := 0) hr_11 ?_
  refine lv_if_eq (tgt := 26) hx hb dX0_getByte_14 (by decide) (fun c_14 => ?_) (fun c_14 => absurd c_14 (by decide))
  refine lv_iconst (v := 0) hx hb dX0_getByte_26 (by decide) ?_
  have hP9 := hP
  have hD9 := hD
  have hK9 := hK.sub (tys' := []) [] rfl
  exact W.iret (v := 0) hx hb hr (fun t ht hW => ⟨⟨0, ((([(h, .inr (0, [.ref sa, .ref bb, .int us])), (bb, .inl (cB, 4000, .inl f))] : va_W) ++ famN 32 ad le tu vo sr lo fr), []), rfl, (Or.inr ⟨rfl, rfl, (by rw [← eat_]; exact h_11)⟩), by rw [ht]; exact hP9, va_K.moved hW.alike hK9, hD9⟩, hS.F ht⟩) hS.2.2 dX0_getByte_27

set_option maxHeartbeats 400000 in
set_option maxRecDepth 100000 in
theorem k_tuned (l : Launch) (dC : Nat → ClassId) (dI : Nat → Nat → Nat) (sz : Nat) (h bk vi tr : Nat) (xk3 xk4 xk5 xk6 xk7 xk8 xk9 xk10 xk11 xk12 xk13 xk14 xk15 xk17 mu : Int32) (xk16 : Int64) (v : Int32) : Met l yX1_tuned (wsG (.code yX1_tuned cX1_tuned 2 (some .int))) ({ frames := 1, cells := 0, slots := 0, locals := 22 }) (va_Pc [.ref h, .int v] (gP (dC, dI) [] [(h, .inr (1, [.ref bk, .ref vi, .ref tr, .int xk3, .int xk4, .int xk5, .int xk6, .int xk7, .int xk8, .int xk9, .int xk10, .int xk11, .int xk12, .int xk13, .int xk14, .int xk15, .long xk16, .int xk17, .int mu]))] sz)) (va_Qi (fun (r : Int32) (u : va_W × gT) => u = ([(h, .inr (1, [.ref bk, .ref vi, .ref tr, .int xk3, .int xk4, .int xk5, .int xk6, .int xk7, .int xk8, .int xk9, .int xk10, .int xk11, .int xk12, .int xk13, .int xk14, .int xk15, .long xk16, .int xk17, .int mu]))], [])) (gB (dC, dI) (va_A [(h, .inr (1, [.ref bk, .ref vi, .ref tr, .int xk3, .int xk4, .int xk5, .int xk6, .int xk7, .int xk8, .int xk9, .int xk10, .int xk11, .int xk12, .int xk13, .int xk14, .int xk15, .long xk16, .int xk17, .int mu]))] sz)) (va_A [(h, .inr (1, [.ref bk, .ref vi, .ref tr, .int xk3, .int xk4, .int xk5, .int xk6, .int xk7, .int xk8, .int xk9, .int xk10, .int xk11, .int xk12, .int xk13, .int xk14, .int xk15, .long xk16, .int xk17, .int mu]))] sz)) 0 0 (va_A [(h, .inr (1, [.ref bk, .ref vi, .ref tr, .int xk3, .int xk4, .int xk5, .int xk6, .int xk7, .int xk8, .int xk9, .int xk10, .int xk11, .int xk12, .int xk13, .int xk14, .int xk15, .long xk16, .int xk17, .int mu]))] sz) := by
  refine Met.ofW (cc := cX1_tuned) (maxL := 2) (ret := (some .int)) (by decide) rfl ?_
  intro p e s m args below meth c s₁ B hml hv
  obtain ⟨rfl, hsz, hP, hK, hD0, hN, hZ⟩ := hv
  have hx := B.exec
  have hb := B.bytes
  have hr := B.returns
  have hts := atoms_spec (ws := (wsG (.code yX1_tuned cX1_tuned 2 (some .int)))) B.pre
  have hown : s.vm.findClass RX1 = some m.cls := findClass_of_methodNamed B.named
  have hlocks := B.notSynchronized
  subst hsz
  have hD := hD0.self (sz := s.heap.size)
  generalize hAe : va_A [(h, .inr (1, [.ref bk, .ref vi, .ref tr, .int xk3, .int xk4, .int xk5, .int xk6, .int xk7, .int xk8, .int xk9, .int xk10, .int xk11, .int xk12, .int xk13, .int xk14, .int xk15, .long xk16, .int xk17, .int mu]))] s.heap.size = A at hD hZ ⊢
  have hA : ∀ q : Nat, s.heap.size ≤ q → A q := fun q h => by rw [← hAe]; exact Or.inr h
  have hl := lv_entry ([.ref h, .int v]) (n := 2) (Nat.le_of_ble_eq_true rfl)
  rw [lg_entry_eq]
  generalize (lg_sl ([.ref h, .int v]) ++ List.replicate (2 - (lg_sl ([.ref h, .int v])).length) Slot.unset).toArray = ls at hl ⊢
  have hl : lv_has ls 2 [(0, .ref h), (1, .int v)] := hl
  refine g_start (A := A) hP (fun H locs hP hS => ?_)
  refine lv_iload_n hx hb dX1_tuned_0 rfl (lv_at hl 1 rfl) ?_
  refine lv_iload_n hx hb dX1_tuned_1 rfl (lv_at hl 1 rfl) ?_
  refine lv_aload_n hx hb dX1_tuned_2 rfl (lv_at hl 0 rfl) ?_
  refine va_get (D := (dC, dI)) (ci := 1) (v := .int xk6) (C := RX1) (T := TX1) (N := 19) hx hb hts iwX1 hown hK hP 0 rfl rfl 6 (by decide) (hts (.fieldLink RX1 38 "ModulePlayer$Channel" "tune" "I") (List.mem_cons_of_mem _ kw_147)) (fun _ h9 => h9) rfl dX1_tuned_3 ?_
  refine lv_imul hx hb dX1_tuned_6 ?_
  refine lv_topi (fun tv_6 etv_6 => ?_)
  refine lv_sipush (v := 138) hx hb dX1_tuned_7 (by decide) ?_
  refine lv_idiv hx hb dX1_tuned_10 (by decide) ?_
  refine lv_topi (fun tv_10 etv_10 => ?_)
  refine lv_isub hx hb dX1_tuned_11 ?_
  refine lv_topi (fun tv_11 etv_11 => ?_)
  refine lv_bipush (v := 113) hx hb dX1_tuned_12 (by decide) ?_
  refine lv_sipush (v := 856) hx hb dX1_tuned_14 (by decide) ?_
  refine g_calli (wr := [(h, .inr (1, [.ref bk, .ref vi, .ref tr, .int xk3, .int xk4, .int xk5, .int xk6, .int xk7, .int xk8, .int xk9, .int xk10, .int xk11, .int xk12, .int xk13, .int xk14, .int xk15, .long xk16, .int xk17, .int mu]))]) (va_runSN (As := [.int tv_11, .int 113, .int 856]) (rest := []) ⟨hx, hb, hml, hown, hts⟩ (c_limit l dC dI H.size tv_11 113 856 ) ⟨va_cnB 3 hts (wsG_good kw_95) rfl rfl rfl (hN.1 (.methodLinkNest RX1 133 yX10_limit RX10) (by decide +kernel)) (hts (.initialized RX10) (List.mem_cons_of_mem _ kw_2)) (by decide +kernel) ⟨Nat.le_of_ble_eq_true rfl, Nat.le_of_ble_eq_true rfl⟩, (hts (.static yX10_limit) (List.mem_cons_of_mem _ kw_94)), trivial⟩ (g_preS hP hD hK hS hA hN hZ [] (by decide) rfl [] rfl) rfl rfl hl.1 rfl (lv_room (Nat.le_of_ble_eq_true rfl)) dX1_tuned_17 ⟨Nat.le_of_ble_eq_true rfl, Nat.le_of_ble_eq_true rfl⟩) hP hD hK hS hA [] [0] rfl rfl (by decide +kernel) (by decide +kernel) (fun r_17 w ty1 H locs hw_17 hP hD _ hS => ?_)
  rcases hw_17 with ⟨hu, hr_17⟩
  cases hu
  have hP : va_P (dC, dI) vwCl [(h, .inr (1, [.ref bk, .ref vi, .ref tr, .int xk3, .int xk4, .int xk5, .int xk6, .int xk7, .int xk8, .int xk9, .int xk10, .int xk11, .int xk12, .int xk13, .int xk14, .int xk15, .long xk16, .int xk17, .int mu]))] H := hP
  have hD : va_D A [(h, .inr (1, [.ref bk, .ref vi, .ref tr, .int xk3, .int xk4, .int xk5, .int xk6, .int xk7, .int xk8, .int xk9, .int xk10, .int xk11, .int xk12, .int xk13, .int xk14, .int xk15, .long xk16, .int xk17, .int mu]))] := hD
  refine g_topi (y := limF tv_11 113 856) hr_17 ?_
  have hP9 := hP
  have hD9 := hD
  have hK9 := hK.sub (tys' := []) [] rfl
  exact W.iret (v := limF tv_11 113 856) hx hb hr (fun t ht hW => ⟨⟨limF tv_11 113 856, ([(h, .inr (1, [.ref bk, .ref vi, .ref tr, .int xk3, .int xk4, .int xk5, .int xk6, .int xk7, .int xk8, .int xk9, .int xk10, .int xk11, .int xk12, .int xk13, .int xk14, .int xk15, .long xk16, .int xk17, .int mu]))], []), rfl, rfl, by rw [ht]; exact hP9, va_K.moved hW.alike hK9, hD9⟩, hS.F ht⟩) hS.2.2 dX1_tuned_20

set_option maxHeartbeats 400000 in
set_option maxRecDepth 100000 in
theorem k_strike (l : Launch) (dC : Nat → ClassId) (dI : Nat → Nat → Nat) (sz : Nat) (h bk vi tr : Nat) (xk3 xk4 xk5 xk6 xk7 xk8 xk9 xk10 xk11 xk12 xk13 xk14 xk15 xk17 mu : Int32) (xk16 : Int64) (sa bb : Nat) (us : Int32) (ad : Nat → Nat) (cS : ClassId) (g : Nat → Option Nat) (le tu vo sr lo fr : Nat → Int32) (hg : ∀ x, x < 32 → g x = some (ad x)) : Met l yX1_strike (wsG (.code yX1_strike cX1_strike 1 none)) ({ frames := 2, cells := 0, slots := 0, locals := 42 }) (va_Pc [.ref h] (gP (dC, dI) [(cS, .object RX5)] (([(h, .inr (1, [.ref bk, .ref vi, .ref tr, .int xk3, .int xk4, .int xk5, .int xk6, .int xk7, .int xk8, .int xk9, .int xk10, .int xk11, .int xk12, .int xk13, .int xk14, .int xk15, .long xk16, .int xk17, .int mu])), (bk, .inr (0, [.ref sa, .ref bb, .int us])), (sa, .inl (cS, 32, .inr (.inr (.inr (.inr g)))))] : va_W) ++ famN 32 ad le tu vo sr lo fr) sz)) (va_Qv (fun u : va_W × gT => ∃ (yk17 : Int32), u = ((([(h, .inr (1, [.ref bk, .ref vi, .ref tr, .int xk3, .int xk4, .int xk5, .int xk6, .int xk7, .int xk8, .int xk9, .int xk10, .int xk11, .int xk12, .int xk13, .int xk14, .int xk15, .long 0, .int yk17, .int mu])), (bk, .inr (0, [.ref sa, .ref bb, .int us])), (sa, .inl (cS, 32, .inr (.inr (.inr (.inr g)))))] : va_W) ++ famN 32 ad le tu vo sr lo fr), [])) (gB (dC, dI) (va_A (([(h, .inr (1, [.ref bk, .ref vi, .ref tr, .int xk3, .int xk4, .int xk5, .int xk6, .int xk7, .int xk8, .int xk9, .int xk10, .int xk11, .int xk12, .int xk13, .int xk14, .int xk15, .long xk16, .int xk17, .int mu])), (bk, .inr (0, [.ref sa, .ref bb, .int us])), (sa, .inl (cS, 32, .inr (.inr (.inr (.inr g)))))] : va_W) ++ famN 32 ad le tu vo sr lo fr) sz)) (va_A (([(h, .inr (1, [.ref bk, .ref vi, .ref tr, .int xk3, .int xk4, .int xk5, .int xk6, .int xk7, .int xk8, .int xk9, .int xk10, .int xk11, .int xk12, .int xk13, .int xk14, .int xk15, .long xk16, .int xk17, .int mu])), (bk, .inr (0, [.ref sa, .ref bb, .int us])), (sa, .inl (cS, 32, .inr (.inr (.inr (.inr g)))))] : va_W) ++ famN 32 ad le tu vo sr lo fr) sz)) 0 0 (va_A (([(h, .inr (1, [.ref bk, .ref vi, .ref tr, .int xk3, .int xk4, .int xk5, .int xk6, .int xk7, .int xk8, .int xk9, .int xk10, .int xk11, .int xk12, .int xk13, .int xk14, .int xk15, .long xk16, .int xk17, .int mu])), (bk, .inr (0, [.ref sa, .ref bb, .int us])), (sa, .inl (cS, 32, .inr (.inr (.inr (.inr g)))))] : va_W) ++ famN 32 ad le tu vo sr lo fr) sz) := by
  refine Met.ofW (cc := cX1_strike) (maxL := 1) (ret := none) (by decide) rfl ?_
  intro p e s m args below meth c s₁ B hml hv
  obtain ⟨rfl, hsz, hP, hK, hD0, hN, hZ⟩ := hv
  have hx := B.exec
  have hb := B.bytes
  have hr := B.returns
  have hts := atoms_spec (ws := (wsG (.code yX1_strike cX1_strike 1 none))) B.pre
  have hown : s.vm.findClass RX1 = some m.cls := findClass_of_methodNamed B.named
  have hlocks := B.notSynchronized
  subst hsz
  have hD := hD0.self (sz := s.heap.size)
  generalize hAe : va_A (([(h, .inr (1, [.ref bk, .ref vi, .ref tr, .int xk3, .int xk4, .int xk5, .int xk6, .int xk7, .int xk8, .int xk9, .int xk10, .int xk11, .int xk12, .int xk13, .int xk14, .int xk15, .long xk16, .int xk17, .int mu])), (bk, .inr (0, [.ref sa, .ref bb, .int us])), (sa, .inl (cS, 32, .inr (.inr (.inr (.inr g)))))] : va_W) ++ famN 32 ad le tu vo sr lo fr) s.heap.size = A at hD hZ ⊢
  have hA : ∀ q : Nat, s.heap.size ≤ q → A q := fun q h => by rw [← hAe]; exact Or.inr h
  have hl := lv_entry ([.ref h]) (n := 1) (Nat.le_of_ble_eq_true rfl)
  rw [lg_entry_eq]
  generalize (lg_sl ([.ref h]) ++ List.replicate (1 - (lg_sl ([.ref h])).length) Slot.unset).toArray = ls at hl ⊢
  have hl : lv_has ls 1 [(0, .ref h)] := hl
  refine g_start (A := A) hP (fun H locs hP hS => ?_)
  refine lv_aload_n hx hb dX1_strike_0 rfl (lv_at hl 0 rfl) ?_
  refine lv_lconst (v := 0) hx hb dX1_strike_1 (by decide) ?_
  refine va_put (D := (dC, dI)) (ci := 1) (v := .long 0) (ty := tyX1 16) (C := RX1) (T := TX1) (N := 19) hx hb hts iwX1 tyX1 tyX1_ok nmX1 hown hK hP hD hS 0 rfl rfl 16 (by decide) (hts (.fieldLink RX1 68 "ModulePlayer$Channel" "place" "J") (List.mem_cons_of_mem _ kw_157)) (fun _ h9 => h9) rfl (by decide +kernel) (rfl) (rfl) (Nat.le_of_ble_eq_true rfl) dX1_strike_2 (fun H locs hP hD hS => ?_)
  have hP : va_P (dC, dI) vwCl (([(h, .inr (1, [.ref bk, .ref vi, .ref tr, .int xk3, .int xk4, .int xk5, .int xk6, .int xk7, .int xk8, .int xk9, .int xk10, .int xk11, .int xk12, .int xk13, .int xk14, .int xk15, .long 0, .int xk17, .int mu])), (bk, .inr (0, [.ref sa, .ref bb, .int us])), (sa, .inl (cS, 32, .inr (.inr (.inr (.inr g)))))] : va_W) ++ famN 32 ad le tu vo sr lo fr) H := hP
  have hD : va_D A (([(h, .inr (1, [.ref bk, .ref vi, .ref tr, .int xk3, .int xk4, .int xk5, .int xk6, .int xk7, .int xk8, .int xk9, .int xk10, .int xk11, .int xk12, .int xk13, .int xk14, .int xk15, .long 0, .int xk17, .int mu])), (bk, .inr (0, [.ref sa, .ref bb, .int us])), (sa, .inl (cS, 32, .inr (.inr (.inr (.inr g)))))] : va_W) ++ famN 32 ad le tu vo sr lo fr) := hD
  refine lv_aload_n hx hb dX1_strike_5 rfl (lv_at hl 0 rfl) ?_
  refine lv_aload_n hx hb dX1_strike_6 rfl (lv_at hl 0 rfl) ?_
  refine va_get (D := (dC, dI)) (ci := 1) (v := .ref bk) (C := RX1) (T := TX1) (N := 19) hx hb hts iwX1 hown hK hP 0 rfl rfl 0 (by decide) (hts (.fieldLink RX1 21 "ModulePlayer$Channel" "bank" "LModulePlayer$Bank;") (List.mem_cons_of_mem _ kw_89)) (fun _ h9 => h9) rfl dX1_strike_7 ?_
  refine lv_aload_n hx hb dX1_strike_10 rfl (lv_at hl 0 rfl) ?_
  refine va_get (D := (dC, dI)) (ci := 1) (v := .int xk4) (C := RX1) (T := TX1) (N := 19) hx hb hts iwX1 hown hK hP 0 rfl rfl 4 (by decide) (hts (.fieldLink RX1 32 "ModulePlayer$Channel" "sample" "I") (List.mem_cons_of_mem _ kw_145)) (fun _ h9 => h9) rfl dX1_strike_11 ?_
  refine g_callqQ (X := [(h, .inr (1, [.ref bk, .ref vi, .ref tr, .int xk3, .int xk4, .int xk5, .int xk6, .int xk7, .int xk8, .int xk9, .int xk10, .int xk11, .int xk12, .int xk13, .int xk14, .int xk15, .long 0, .int xk17, .int mu])), (bk, .inr (0, [.ref sa, .ref bb, .int us])), (sa, .inl (cS, 32, .inr (.inr (.inr (.inr g)))))]) (wr := [(h, .inr (1, [.ref bk, .ref vi, .ref tr, .int xk3, .int xk4, .int xk5, .int xk6, .int xk7, .int xk8, .int xk9, .int xk10, .int xk11, .int xk12, .int xk13, .int xk14, .int xk15, .long 0, .int xk17, .int mu]))]) (va_runV (As := [.int xk4]) (rest := [.ref h]) ⟨hx, hb, hml, hown, hts⟩ (k_getA l dC dI H.size bk sa bb us ad cS g xk4 (hg)) (cwV 1 hts (gG_V kw_694 kw_405 kw_406 kw_22 kw_407) rfl rfl rfl (by decide +kernel) ⟨Nat.le_of_ble_eq_true rfl, Nat.le_of_ble_eq_true rfl⟩) (g_preV (ws := [(h, .inr (1, [.ref bk, .ref vi, .ref tr, .int xk3, .int xk4, .int xk5, .int xk6, .int xk7, .int xk8, .int xk9, .int xk10, .int xk11, .int xk12, .int xk13, .int xk14, .int xk15, .long 0, .int xk17, .int mu])), (bk, .inr (0, [.ref sa, .ref bb, .int us])), (sa, .inl (cS, 32, .inr (.inr (.inr (.inr g)))))]) (C := RX0) (T := TX0) (N := 3) hP.left hD.left hK hS hA hN hZ (q0 := 1) rfl rfl [1, 2] (by decide +kernel) rfl [0] rfl) rfl rfl hl.1 rfl (lv_room (Nat.le_of_ble_eq_true rfl)) dX1_strike_14 ⟨Nat.le_of_ble_eq_true rfl, Nat.le_of_ble_eq_true rfl⟩) hP hD hK hS hA [1, 2] [0] rfl rfl (by decide +kernel) (by decide +kernel) (fun r_14 w ty1 H locs hw_14 hP hD _ hS => ?_)
  rcases hw_14 with ⟨kf_14, hu, hr_14, hkf_14⟩
  cases hu
  have hP : va_P (dC, dI) vwCl (([(h, .inr (1, [.ref bk, .ref vi, .ref tr, .int xk3, .int xk4, .int xk5, .int xk6, .int xk7, .int xk8, .int xk9, .int xk10, .int xk11, .int xk12, .int xk13, .int xk14, .int xk15, .long 0, .int xk17, .int mu])), (bk, .inr (0, [.ref sa, .ref bb, .int us])), (sa, .inl (cS, 32, .inr (.inr (.inr (.inr g)))))] : va_W) ++ famN 32 ad le tu vo sr lo fr) H := hP
  have hD : va_D A (([(h, .inr (1, [.ref bk, .ref vi, .ref tr, .int xk3, .int xk4, .int xk5, .int xk6, .int xk7, .int xk8, .int xk9, .int xk10, .int xk11, .int xk12, .int xk13, .int xk14, .int xk15, .long 0, .int xk17, .int mu])), (bk, .inr (0, [.ref sa, .ref bb, .int us])), (sa, .inl (cS, 32, .inr (.inr (.inr (.inr g)))))] : va_W) ++ famN 32 ad le tu vo sr lo fr) := hD
  subst hr_14
  refine W.eq (g2 := F0 m 17 ls [.ref (ad kf_14), .ref h]) rfl ?_
  refine va_get (D := (dC, dI)) (ci := 5) (v := .int (le kf_14)) (C := RX5) (T := TX5) (N := 6) hx hb hts iwX5 hown hK hP _ (fam_at (k := kf_14) (hkf_14)) rfl 0 (by decide) (hts (.fieldLink RX1 137 "ModulePlayer$Sample" "length" "I") (List.mem_cons_of_mem _ kw_707)) (fun _ h9 => h9) rfl dX1_strike_17 ?_
  refine lv_topi (fun tv_17 etv_17 => ?_)
  refine lv_if_le (tgt := 27) hx hb dX1_strike_20 (by decide) (fun c_20 => ?_) (fun c_20 => ?_)
  · refine lv_iconst (v := 0) hx hb dX1_strike_27 (by decide) ?_
    refine va_put (D := (dC, dI)) (ci := 1) (v := .int 0) (ty := tyX1 17) (C := RX1) (T := TX1) (N := 19) hx hb hts iwX1 tyX1 tyX1_ok nmX1 hown hK hP hD hS 0 rfl rfl 17 (by decide) (hts (.fieldLink RX1 72 "ModulePlayer$Channel" "sounds" "Z") (List.mem_cons_of_mem _ kw_158)) (fun _ h9 => h9) rfl (by decide +kernel) (rfl) (rfl) (Nat.le_of_ble_eq_true rfl) dX1_strike_28 (fun H locs hP hD hS => ?_)
    have hP : va_P (dC, dI) vwCl (([(h, .inr (1, [.ref bk, .ref vi, .ref tr, .int xk3, .int xk4, .int xk5, .int xk6, .int xk7, .int xk8, .int xk9, .int xk10, .int xk11, .int xk12, .int xk13, .int xk14, .int xk15, .long 0, .int 0, .int mu])), (bk, .inr (0, [.ref sa, .ref bb, .int us])), (sa, .inl (cS, 32, .inr (.inr (.inr (.inr g)))))] : va_W) ++ famN 32 ad le tu vo sr lo fr) H := hP
    have hD : va_D A (([(h, .inr (1, [.ref bk, .ref vi, .ref tr, .int xk3, .int xk4, .int xk5, .int xk6, .int xk7, .int xk8, .int xk9, .int xk10, .int xk11, .int xk12, .int xk13, .int xk14, .int xk15, .long 0, .int 0, .int mu])), (bk, .inr (0, [.ref sa, .ref bb, .int us])), (sa, .inl (cS, 32, .inr (.inr (.inr (.inr g)))))] : va_W) ++ famN 32 ad le tu vo sr lo fr) := hD
    have hP9 := hP
    have hD9 := hD
    have hK9 := hK.sub (tys' := []) [] rfl
    exact W.vret hx hb hr (fun t ht hW => ⟨⟨((([(h, .inr (1, [.ref bk, .ref vi, .ref tr, .int xk3, .int xk4, .int xk5, .int xk6, .int xk7, .int xk8, .int xk9, .int xk10, .int xk11, .int xk12, .int xk13, .int xk14, .int xk15, .long 0, .int 0, .int mu])), (bk, .inr (0, [.ref sa, .ref bb, .int us])), (sa, .inl (cS, 32, .inr (.inr (.inr (.inr g)))))] : va_W) ++ famN 32 ad le tu vo sr lo fr), []), rfl, ⟨0, rfl⟩, by rw [ht]; exact hP9, va_K.moved hW.alike hK9, hD9⟩, hS.F ht⟩) hS.2.2 dX1_strike_31
  refine lv_iconst (v := 1) hx hb dX1_strike_23 (by decide) ?_
  refine lv_goto (tgt := 28) hx hb dX1_strike_24 (by decide) ?_
  refine va_put (D := (dC, dI)) (ci := 1) (v := .int 1) (ty := tyX1 17) (C := RX1) (T := TX1) (N := 19) hx hb hts iwX1 tyX1 tyX1_ok nmX1 hown hK hP hD hS 0 rfl rfl 17 (by decide) (hts (.fieldLink RX1 72 "ModulePlayer$Channel" "sounds" "Z") (List.mem_cons_of_mem _ kw_158)) (fun _ h9 => h9) rfl (by decide +kernel) (rfl) (rfl) (Nat.le_of_ble_eq_true rfl) dX1_strike_28 (fun H locs hP hD hS => ?_)
  have hP : va_P (dC, dI) vwCl (([(h, .inr (1, [.ref bk, .ref vi, .ref tr, .int xk3, .int xk4, .int xk5, .int xk6, .int xk7, .int xk8, .int xk9, .int xk10, .int xk11, .int xk12, .int xk13, .int xk14, .int xk15, .long 0, .int 1, .int mu])), (bk, .inr (0, [.ref sa, .ref bb, .int us])), (sa, .inl (cS, 32, .inr (.inr (.inr (.inr g)))))] : va_W) ++ famN 32 ad le tu vo sr lo fr) H := hP
  have hD : va_D A (([(h, .inr (1, [.ref bk, .ref vi, .ref tr, .int xk3, .int xk4, .int xk5, .int xk6, .int xk7, .int xk8, .int xk9, .int xk10, .int xk11, .int xk12, .int xk13, .int xk14, .int xk15, .long 0, .int 1, .int mu])), (bk, .inr (0, [.ref sa, .ref bb, .int us])), (sa, .inl (cS, 32, .inr (.inr (.inr (.inr g)))))] : va_W) ++ famN 32 ad le tu vo sr lo fr) := hD
  have hP9 := hP
  have hD9 := hD
  have hK9 := hK.sub (tys' := []) [] rfl
  exact W.vret hx hb hr (fun t ht hW => ⟨⟨((([(h, .inr (1, [.ref bk, .ref vi, .ref tr, .int xk3, .int xk4, .int xk5, .int xk6, .int xk7, .int xk8, .int xk9, .int xk10, .int xk11, .int xk12, .int xk13, .int xk14, .int xk15, .long 0, .int 1, .int mu])), (bk, .inr (0, [.ref sa, .ref bb, .int us])), (sa, .inl (cS, 32, .inr (.inr (.inr (.inr g)))))] : va_W) ++ famN 32 ad le tu vo sr lo fr), []), rfl, ⟨1, rfl⟩, by rw [ht]; exact hP9, va_K.moved hW.alike hK9, hD9⟩, hS.F ht⟩) hS.2.2 dX1_strike_31

set_option maxHeartbeats 400000 in
set_option maxRecDepth 100000 in
theorem k_takeNote (l : Launch) (dC : Nat → ClassId) (dI : Nat → Nat → Nat) (sz : Nat) (h bk vi tr : Nat) (xk3 xk4 xk5 xk6 xk7 xk8 xk9 xk10 xk11 xk12 xk13 xk14 xk15 xk17 mu : Int32) (xk16 : Int64) (xu0 xu1 xu2 xu3 : Int32) (xz0 xz1 xz2 xz3 : Int32) (sa bb : Nat) (us : Int32) (ad : Nat → Nat) (cS : ClassId) (g : Nat → Option Nat) (le tu vo sr lo fr : Nat → Int32) (hg : ∀ x, x < 32 → g x = some (ad x)) : Met l yX1_takeNote (wsG (.code yX1_takeNote cX1_takeNote 2 none)) ({ frames := 3, cells := 0, slots := 0, locals := 62 }) (va_Pc [.ref h] (gP (dC, dI) [(cS, .object RX5)] (([(h, .inr (1, [.ref bk, .ref vi, .ref tr, .int xk3, .int xk4, .int xk5, .int xk6, .int xk7, .int xk8, .int xk9, .int xk10, .int xk11, .int xk12, .int xk13, .int xk14, .int xk15, .long xk16, .int xk17, .int mu])), (vi, .inr (8, [.int xu0, .int xu1, .int xu2, .int xu3])), (tr, .inr (8, [.int xz0, .int xz1, .int xz2, .int xz3])), (bk, .inr (0, [.ref sa, .ref bb, .int us])), (sa, .inl (cS, 32, .inr (.inr (.inr (.inr g)))))] : va_W) ++ famN 32 ad le tu vo sr lo fr) sz)) (va_Qv (fun u : va_W × gT => ∃ (yk4 : Int32) (yk5 : Int32) (yk6 : Int32) (yk7 : Int32) (yk8 : Int32) (yk9 : Int32) (yk17 : Int32) (yk16 : Int64) (yu2 : Int32) (yz2 : Int32), u = ((([(h, .inr (1, [.ref bk, .ref vi, .ref tr, .int xk3, .int yk4, .int yk5, .int yk6, .int yk7, .int yk8, .int yk9, .int xk10, .int xk11, .int xk12, .int xk13, .int xk14, .int xk15, .long yk16, .int yk17, .int mu])), (vi, .inr (8, [.int xu0, .int xu1, .int yu2, .int xu3])), (tr, .inr (8, [.int xz0, .int xz1, .int yz2, .int xz3])), (bk, .inr (0, [.ref sa, .ref bb, .int us])), (sa, .inl (cS, 32, .inr (.inr (.inr (.inr g)))))] : va_W) ++ famN 32 ad le tu vo sr lo fr), [])) (gB (dC, dI) (va_A (([(h, .inr (1, [.ref bk, .ref vi, .ref tr, .int xk3, .int xk4, .int xk5, .int xk6, .int xk7, .int xk8, .int xk9, .int xk10, .int xk11, .int xk12, .int xk13, .int xk14, .int xk15, .long xk16, .int xk17, .int mu])), (vi, .inr (8, [.int xu0, .int xu1, .int xu2, .int xu3])), (tr, .inr (8, [.int xz0, .int xz1, .int xz2, .int xz3])), (bk, .inr (0, [.ref sa, .ref bb, .int us])), (sa, .inl (cS, 32, .inr (.inr (.inr (.inr g)))))] : va_W) ++ famN 32 ad le tu vo sr lo fr) sz)) (va_A (([(h, .inr (1, [.ref bk, .ref vi, .ref tr, .int xk3, .int xk4, .int xk5, .int xk6, .int xk7, .int xk8, .int xk9, .int xk10, .int xk11, .int xk12, .int xk13, .int xk14, .int xk15, .long xk16, .int xk17, .int mu])), (vi, .inr (8, [.int xu0, .int xu1, .int xu2, .int xu3])), (tr, .inr (8, [.int xz0, .int xz1, .int xz2, .int xz3])), (bk, .inr (0, [.ref sa, .ref bb, .int us])), (sa, .inl (cS, 32, .inr (.inr (.inr (.inr g)))))] : va_W) ++ famN 32 ad le tu vo sr lo fr) sz)) 0 0 (va_A (([(h, .inr (1, [.ref bk, .ref vi, .ref tr, .int xk3, .int xk4, .int xk5, .int xk6, .int xk7, .int xk8, .int xk9, .int xk10, .int xk11, .int xk12, .int xk13, .int xk14, .int xk15, .long xk16, .int xk17, .int mu])), (vi, .inr (8, [.int xu0, .int xu1, .int xu2, .int xu3])), (tr, .inr (8, [.int xz0, .int xz1, .int xz2, .int xz3])), (bk, .inr (0, [.ref sa, .ref bb, .int us])), (sa, .inl (cS, 32, .inr (.inr (.inr (.inr g)))))] : va_W) ++ famN 32 ad le tu vo sr lo fr) sz) := by
  refine Met.ofW (cc := cX1_takeNote) (maxL := 2) (ret := none) (by decide) rfl ?_
  intro p e s m args below meth c s₁ B hml hv
  obtain ⟨rfl, hsz, hP, hK, hD0, hN, hZ⟩ := hv
  have hx := B.exec
  have hb := B.bytes
  have hr := B.returns
  have hts := atoms_spec (ws := (wsG (.code yX1_takeNote cX1_takeNote 2 none))) B.pre
  have hown : s.vm.findClass RX1 = some m.cls := findClass_of_methodNamed B.named
  have hlocks := B.notSynchronized
  subst hsz
  have hD := hD0.self (sz := s.heap.size)
  generalize hAe : va_A (([(h, .inr (1, [.ref bk, .ref vi, .ref tr, .int xk3, .int xk4, .int xk5, .int xk6, .int xk7, .int xk8, .int xk9, .int xk10, .int xk11, .int xk12, .int xk13, .int xk14, .int xk15, .long xk16, .int xk17, .int mu])), (vi, .inr (8, [.int xu0, .int xu1, .int xu2, .int xu3])), (tr, .inr (8, [.int xz0, .int xz1, .int xz2, .int xz3])), (bk, .inr (0, [.ref sa, .ref bb, .int us])), (sa, .inl (cS, 32, .inr (.inr (.inr (.inr g)))))] : va_W) ++ famN 32 ad le tu vo sr lo fr) s.heap.size = A at hD hZ ⊢
  have hA : ∀ q : Nat, s.heap.size ≤ q → A q := fun q h => by rw [← hAe]; exact Or.inr h
  have hl := lv_entry ([.ref h]) (n := 2) (Nat.le_of_ble_eq_true rfl)
  rw [lg_entry_eq]
  generalize (lg_sl ([.ref h]) ++ List.replicate (2 - (lg_sl ([.ref h])).length) Slot.unset).toArray = ls at hl ⊢
  have hl : lv_has ls 2 [(0, .ref h)] := hl
  refine g_start (A := A) hP (fun H locs hP hS => ?_)
  refine lv_aload_n hx hb dX1_takeNote_0 rfl (lv_at hl 0 rfl) ?_
  refine va_get (D := (dC, dI)) (ci := 1) (v := .int xk3) (C := RX1) (T := TX1) (N := 19) hx hb hts iwX1 hown hK hP 0 rfl rfl 3 (by decide) (hts (.fieldLink RX1 28 "ModulePlayer$Channel" "cell" "I") (List.mem_cons_of_mem _ kw_144)) (fun _ h9 => h9) rfl dX1_takeNote_1 ?_
  refine lv_bipush (v := 12) hx hb dX1_takeNote_4 (by decide) ?_
  refine lv_ishr hx hb dX1_takeNote_6 ?_
  refine lv_topi (fun tv_6 etv_6 => ?_)
  refine lv_bipush (v := 31) hx hb dX1_takeNote_7 (by decide) ?_
  refine lv_iand hx hb dX1_takeNote_9 ?_
  refine lv_topi (fun tv_9 etv_9 => ?_)
  refine lv_istore_n (lv' := [(1, .int tv_9), (0, .ref h)]) hx hb dX1_takeNote_10 rfl hl (by decide) rfl (fun ls hl => ?_)
  have LP50 : ∀ (j50_h_4 : Int32) (j50_h_5 : Int32) (j50_h_6 : Int32) (H : Heap) (locs : List Loc), va_P (dC, dI) vwCl (([(h, .inr (1, [.ref bk, .ref vi, .ref tr, .int xk3, .int j50_h_4, .int j50_h_5, .int j50_h_6, .int xk7, .int xk8, .int xk9, .int xk10, .int xk11, .int xk12, .int xk13, .int xk14, .int xk15, .long xk16, .int xk17, .int mu])), (vi, .inr (8, [.int xu0, .int xu1, .int xu2, .int xu3])), (tr, .inr (8, [.int xz0, .int xz1, .int xz2, .int xz3])), (bk, .inr (0, [.ref sa, .ref bb, .int us])), (sa, .inl (cS, 32, .inr (.inr (.inr (.inr g)))))] : va_W) ++ famN 32 ad le tu vo sr lo fr) H → va_D A (([(h, .inr (1, [.ref bk, .ref vi, .ref tr, .int xk3, .int j50_h_4, .int j50_h_5, .int j50_h_6, .int xk7, .int xk8, .int xk9, .int xk10, .int xk11, .int xk12, .int xk13, .int xk14, .int xk15, .long xk16, .int xk17, .int mu])), (vi, .inr (8, [.int xu0, .int xu1, .int xu2, .int xu3])), (tr, .inr (8, [.int xz0, .int xz1, .int xz2, .int xz3])), (bk, .inr (0, [.ref sa, .ref bb, .int us])), (sa, .inl (cS, 32, .inr (.inr (.inr (.inr g)))))] : va_W) ++ famN 32 ad le tu vo sr lo fr) → va_S A s.heap H locs → ∀ ls : Array Slot, lv_has ls 2 [(0, .ref h)] → W p l e ({ frames := 3, cells := 0, slots := 0, locals := 62 }) s m ([.ref h] : List Value).toArray below meth c H locs (0) (0) (MQ below (va_Qv (fun u : va_W × gT => ∃ (yk4 : Int32) (yk5 : Int32) (yk6 : Int32) (yk7 : Int32) (yk8 : Int32) (yk9 : Int32) (yk17 : Int32) (yk16 : Int64) (yu2 : Int32) (yz2 : Int32), u = ((([(h, .inr (1, [.ref bk, .ref vi, .ref tr, .int xk3, .int yk4, .int yk5, .int yk6, .int yk7, .int yk8, .int yk9, .int xk10, .int xk11, .int xk12, .int xk13, .int xk14, .int xk15, .long yk16, .int yk17, .int mu])), (vi, .inr (8, [.int xu0, .int xu1, .int yu2, .int xu3])), (tr, .inr (8, [.int xz0, .int xz1, .int yz2, .int xz3])), (bk, .inr (0, [.ref sa, .ref bb, .int us])), (sa, .inl (cS, 32, .inr (.inr (.inr (.inr g)))))] : va_W) ++ famN 32 ad le tu vo sr lo fr), [])) (gB (dC, dI) A) A) ([.ref h] : List Value).toArray s 0 0 A) (F0 m 50 ls []) := by
    intro j50_h_4 j50_h_5 j50_h_6  H locs hP hD hS ls hl
    refine lv_aload_n hx hb dX1_takeNote_50 rfl (lv_at hl 0 rfl) ?_
    refine g_calliQ (X := [(h, .inr (1, [.ref bk, .ref vi, .ref tr, .int xk3, .int j50_h_4, .int j50_h_5, .int j50_h_6, .int xk7, .int xk8, .int xk9, .int xk10, .int xk11, .int xk12, .int xk13, .int xk14, .int xk15, .long xk16, .int xk17, .int mu])), (vi, .inr (8, [.int xu0, .int xu1, .int xu2, .int xu3])), (tr, .inr (8, [.int xz0, .int xz1, .int xz2, .int xz3])), (bk, .inr (0, [.ref sa, .ref bb, .int us])), (sa, .inl (cS, 32, .inr (.inr (.inr (.inr g)))))]) (wr := [(vi, .inr (8, [.int xu0, .int xu1, .int xu2, .int xu3])), (tr, .inr (8, [.int xz0, .int xz1, .int xz2, .int xz3])), (bk, .inr (0, [.ref sa, .ref bb, .int us])), (sa, .inl (cS, 32, .inr (.inr (.inr (.inr g)))))]) (va_runV (As := []) (rest := []) ⟨hx, hb, hml, hown, hts⟩ (k_cellPeriod l dC dI H.size h bk vi tr xk3 j50_h_4 j50_h_5 j50_h_6 xk7 xk8 xk9 xk10 xk11 xk12 xk13 xk14 xk15 xk17 mu xk16 ) (cwV 0 hts (gG_V kw_695 kw_696 kw_697 kw_39 kw_698) rfl rfl rfl (by decide +kernel) ⟨Nat.le_of_ble_eq_true rfl, Nat.le_of_ble_eq_true rfl⟩) (g_preV (ws := [(h, .inr (1, [.ref bk, .ref vi, .ref tr, .int xk3, .int j50_h_4, .int j50_h_5, .int j50_h_6, .int xk7, .int xk8, .int xk9, .int xk10, .int xk11, .int xk12, .int xk13, .int xk14, .int xk15, .long xk16, .int xk17, .int mu])), (vi, .inr (8, [.int xu0, .int xu1, .int xu2, .int xu3])), (tr, .inr (8, [.int xz0, .int xz1, .int xz2, .int xz3])), (bk, .inr (0, [.ref sa, .ref bb, .int us])), (sa, .inl (cS, 32, .inr (.inr (.inr (.inr g)))))]) (C := RX1) (T := TX1) (N := 19) hP.left hD.left hK hS hA hN hZ (q0 := 0) rfl rfl [0] (by decide +kernel) rfl [] rfl) rfl rfl hl.1 rfl (lv_room (Nat.le_of_ble_eq_true rfl)) dX1_takeNote_51 ⟨Nat.le_of_ble_eq_true rfl, Nat.le_of_ble_eq_true rfl⟩) hP hD hK hS hA [0] [1, 2, 3, 4] rfl rfl (by decide +kernel) (by decide +kernel) (fun r_51 w ty1 H locs hw_51 hP hD _ hS => ?_)
    rcases hw_51 with ⟨hu, hr_51⟩
    cases hu
    have hP : va_P (dC, dI) vwCl (([(vi, .inr (8, [.int xu0, .int xu1, .int xu2, .int xu3])), (tr, .inr (8, [.int xz0, .int xz1, .int xz2, .int xz3])), (bk, .inr (0, [.ref sa, .ref bb, .int us])), (sa, .inl (cS, 32, .inr (.inr (.inr (.inr g))))), (h, .inr (1, [.ref bk, .ref vi, .ref tr, .int xk3, .int j50_h_4, .int j50_h_5, .int j50_h_6, .int xk7, .int xk8, .int xk9, .int xk10, .int xk11, .int xk12, .int xk13, .int xk14, .int xk15, .long xk16, .int xk17, .int mu]))] : va_W) ++ famN 32 ad le tu vo sr lo fr) H := hP
    have hD : va_D A (([(vi, .inr (8, [.int xu0, .int xu1, .int xu2, .int xu3])), (tr, .inr (8, [.int xz0, .int xz1, .int xz2, .int xz3])), (bk, .inr (0, [.ref sa, .ref bb, .int us])), (sa, .inl (cS, 32, .inr (.inr (.inr (.inr g))))), (h, .inr (1, [.ref bk, .ref vi, .ref tr, .int xk3, .int j50_h_4, .int j50_h_5, .int j50_h_6, .int xk7, .int xk8, .int xk9, .int xk10, .int xk11, .int xk12, .int xk13, .int xk14, .int xk15, .long xk16, .int xk17, .int mu]))] : va_W) ++ famN 32 ad le tu vo sr lo fr) := hD
    refine g_topi (y := xk3 >>> (17 &&& 31)) hr_51 ?_
    refine lv_if_ne (tgt := 58) hx hb dX1_takeNote_54 (by decide) (fun c_54 => ?_) (fun c_54 => ?_)
    · refine lv_aload_n hx hb dX1_takeNote_58 rfl (lv_at hl 0 rfl) ?_
      refine g_calliQ (X := [(vi, .inr (8, [.int xu0, .int xu1, .int xu2, .int xu3])), (tr, .inr (8, [.int xz0, .int xz1, .int xz2, .int xz3])), (bk, .inr (0, [.ref sa, .ref bb, .int us])), (sa, .inl (cS, 32, .inr (.inr (.inr (.inr g))))), (h, .inr (1, [.ref bk, .ref vi, .ref tr, .int xk3, .int j50_h_4, .int j50_h_5, .int j50_h_6, .int xk7, .int xk8, .int xk9, .int xk10, .int xk11, .int xk12, .int xk13, .int xk14, .int xk15, .long xk16, .int xk17, .int mu]))]) (wr := [(vi, .inr (8, [.int xu0, .int xu1, .int xu2, .int xu3])), (tr, .inr (8, [.int xz0, .int xz1, .int xz2, .int xz3])), (bk, .inr (0, [.ref sa, .ref bb, .int us])), (sa, .inl (cS, 32, .inr (.inr (.inr (.inr g)))))]) (va_runV (As := []) (rest := []) ⟨hx, hb, hml, hown, hts⟩ (k_effect l dC dI H.size h bk vi tr xk3 j50_h_4 j50_h_5 j50_h_6 xk7 xk8 xk9 xk10 xk11 xk12 xk13 xk14 xk15 xk17 mu xk16 ) (cwV 0 hts (gG_V kw_675 kw_676 kw_677 kw_39 kw_678) rfl rfl rfl (by decide +kernel) ⟨Nat.le_of_ble_eq_true rfl, Nat.le_of_ble_eq_true rfl⟩) (g_preV (ws := [(vi, .inr (8, [.int xu0, .int xu1, .int xu2, .int xu3])), (tr, .inr (8, [.int xz0, .int xz1, .int xz2, .int xz3])), (bk, .inr (0, [.ref sa, .ref bb, .int us])), (sa, .inl (cS, 32, .inr (.inr (.inr (.inr g))))), (h, .inr (1, [.ref bk, .ref vi, .ref tr, .int xk3, .int j50_h_4, .int j50_h_5, .int j50_h_6, .int xk7, .int xk8, .int xk9, .int xk10, .int xk11, .int xk12, .int xk13, .int xk14, .int xk15, .long xk16, .int xk17, .int mu]))]) (C := RX1) (T := TX1) (N := 19) hP.left hD.left hK hS hA hN hZ (q0 := 4) rfl rfl [4] (by decide +kernel) rfl [] rfl) rfl rfl hl.1 rfl (lv_room (Nat.le_of_ble_eq_true rfl)) dX1_takeNote_59 ⟨Nat.le_of_ble_eq_true rfl, Nat.le_of_ble_eq_true rfl⟩) hP hD hK hS hA [4] [0, 1, 2, 3] rfl rfl (by decide +kernel) (by decide +kernel) (fun r_59 w ty1 H locs hw_59 hP hD _ hS => ?_)
      rcases hw_59 with ⟨hu, hr_59⟩
      cases hu
      have hP : va_P (dC, dI) vwCl (([(vi, .inr (8, [.int xu0, .int xu1, .int xu2, .int xu3])), (tr, .inr (8, [.int xz0, .int xz1, .int xz2, .int xz3])), (bk, .inr (0, [.ref sa, .ref bb, .int us])), (sa, .inl (cS, 32, .inr (.inr (.inr (.inr g))))), (h, .inr (1, [.ref bk, .ref vi, .ref tr, .int xk3, .int j50_h_4, .int j50_h_5, .int j50_h_6, .int xk7, .int xk8, .int xk9, .int xk10, .int xk11, .int xk12, .int xk13, .int xk14, .int xk15, .long xk16, .int xk17, .int mu]))] : va_W) ++ famN 32 ad le tu vo sr lo fr) H := hP
      have hD : va_D A (([(vi, .inr (8, [.int xu0, .int xu1, .int xu2, .int xu3])), (tr, .inr (8, [.int xz0, .int xz1, .int xz2, .int xz3])), (bk, .inr (0, [.ref sa, .ref bb, .int us])), (sa, .inl (cS, 32, .inr (.inr (.inr (.inr g))))), (h, .inr (1, [.ref bk, .ref vi, .ref tr, .int xk3, .int j50_h_4, .int j50_h_5, .int j50_h_6, .int xk7, .int xk8, .int xk9, .int xk10, .int xk11, .int xk12, .int xk13, .int xk14, .int xk15, .long xk16, .int xk17, .int mu]))] : va_W) ++ famN 32 ad le tu vo sr lo fr) := hD
      refine g_topi (y := (xk3 >>> (8 &&& 31)) &&& 15) hr_59 ?_
      refine lv_iconst (v := 3) hx hb dX1_takeNote_62 (by decide) ?_
      refine lv_icmp_eq (tgt := 74) hx hb dX1_takeNote_63 (by decide) (fun c_63 => ?_) (fun c_63 => ?_)
      · refine lv_aload_n hx hb dX1_takeNote_74 rfl (lv_at hl 0 rfl) ?_
        refine lv_aload_n hx hb dX1_takeNote_75 rfl (lv_at hl 0 rfl) ?_
        refine lv_aload_n hx hb dX1_takeNote_76 rfl (lv_at hl 0 rfl) ?_
        refine g_calliQ (X := [(vi, .inr (8, [.int xu0, .int xu1, .int xu2, .int xu3])), (tr, .inr (8, [.int xz0, .int xz1, .int xz2, .int xz3])), (bk, .inr (0, [.ref sa, .ref bb, .int us])), (sa, .inl (cS, 32, .inr (.inr (.inr (.inr g))))), (h, .inr (1, [.ref bk, .ref vi, .ref tr, .int xk3, .int j50_h_4, .int j50_h_5, .int j50_h_6, .int xk7, .int xk8, .int xk9, .int xk10, .int xk11, .int xk12, .int xk13, .int xk14, .int xk15, .long xk16, .int xk17, .int mu]))]) (wr := [(vi, .inr (8, [.int xu0, .int xu1, .int xu2, .int xu3])), (tr, .inr (8, [.int xz0, .int xz1, .int xz2, .int xz3])), (bk, .inr (0, [.ref sa, .ref bb, .int us])), (sa, .inl (cS, 32, .inr (.inr (.inr (.inr g)))))]) (va_runV (As := []) (rest := [.ref h, .ref h]) ⟨hx, hb, hml, hown, hts⟩ (k_cellPeriod l dC dI H.size h bk vi tr xk3 j50_h_4 j50_h_5 j50_h_6 xk7 xk8 xk9 xk10 xk11 xk12 xk13 xk14 xk15 xk17 mu xk16 ) (cwV 0 hts (gG_V kw_695 kw_696 kw_697 kw_39 kw_698) rfl rfl rfl (by decide +kernel) ⟨Nat.le_of_ble_eq_true rfl, Nat.le_of_ble_eq_true rfl⟩) (g_preV (ws := [(vi, .inr (8, [.int xu0, .int xu1, .int xu2, .int xu3])), (tr, .inr (8, [.int xz0, .int xz1, .int xz2, .int xz3])), (bk, .inr (0, [.ref sa, .ref bb, .int us])), (sa, .inl (cS, 32, .inr (.inr (.inr (.inr g))))), (h, .inr (1, [.ref bk, .ref vi, .ref tr, .int xk3, .int j50_h_4, .int j50_h_5, .int j50_h_6, .int xk7, .int xk8, .int xk9, .int xk10, .int xk11, .int xk12, .int xk13, .int xk14, .int xk15, .long xk16, .int xk17, .int mu]))]) (C := RX1) (T := TX1) (N := 19) hP.left hD.left hK hS hA hN hZ (q0 := 4) rfl rfl [4] (by decide +kernel) rfl [] rfl) rfl rfl hl.1 rfl (lv_room (Nat.le_of_ble_eq_true rfl)) dX1_takeNote_77 ⟨Nat.le_of_ble_eq_true rfl, Nat.le_of_ble_eq_true rfl⟩) hP hD hK hS hA [4] [0, 1, 2, 3] rfl rfl (by decide +kernel) (by decide +kernel) (fun r_77 w ty1 H locs hw_77 hP hD _ hS => ?_)
        rcases hw_77 with ⟨hu, hr_77⟩
        cases hu
        have hP : va_P (dC, dI) vwCl (([(vi, .inr (8, [.int xu0, .int xu1, .int xu2, .int xu3])), (tr, .inr (8, [.int xz0, .int xz1, .int xz2, .int xz3])), (bk, .inr (0, [.ref sa, .ref bb, .int us])), (sa, .inl (cS, 32, .inr (.inr (.inr (.inr g))))), (h, .inr (1, [.ref bk, .ref vi, .ref tr, .int xk3, .int j50_h_4, .int j50_h_5, .int j50_h_6, .int xk7, .int xk8, .int xk9, .int xk10, .int xk11, .int xk12, .int xk13, .int xk14, .int xk15, .long xk16, .int xk17, .int mu]))] : va_W) ++ famN 32 ad le tu vo sr lo fr) H := hP
        have hD : va_D A (([(vi, .inr (8, [.int xu0, .int xu1, .int xu2, .int xu3])), (tr, .inr (8, [.int xz0, .int xz1, .int xz2, .int xz3])), (bk, .inr (0, [.ref sa, .ref bb, .int us])), (sa, .inl (cS, 32, .inr (.inr (.inr (.inr g))))), (h, .inr (1, [.ref bk, .ref vi, .ref tr, .int xk3, .int j50_h_4, .int j50_h_5, .int j50_h_6, .int xk7, .int xk8, .int xk9, .int xk10, .int xk11, .int xk12, .int xk13, .int xk14, .int xk15, .long xk16, .int xk17, .int mu]))] : va_W) ++ famN 32 ad le tu vo sr lo fr) := hD
        refine g_topi (y := xk3 >>> (17 &&& 31)) hr_77 ?_
        refine g_calliQ (X := [(vi, .inr (8, [.int xu0, .int xu1, .int xu2, .int xu3])), (tr, .inr (8, [.int xz0, .int xz1, .int xz2, .int xz3])), (bk, .inr (0, [.ref sa, .ref bb, .int us])), (sa, .inl (cS, 32, .inr (.inr (.inr (.inr g))))), (h, .inr (1, [.ref bk, .ref vi, .ref tr, .int xk3, .int j50_h_4, .int j50_h_5, .int j50_h_6, .int xk7, .int xk8, .int xk9, .int xk10, .int xk11, .int xk12, .int xk13, .int xk14, .int xk15, .long xk16, .int xk17, .int mu]))]) (wr := [(vi, .inr (8, [.int xu0, .int xu1, .int xu2, .int xu3])), (tr, .inr (8, [.int xz0, .int xz1, .int xz2, .int xz3])), (bk, .inr (0, [.ref sa, .ref bb, .int us])), (sa, .inl (cS, 32, .inr (.inr (.inr (.inr g)))))]) (va_runV (As := [.int (xk3 >>> (17 &&& 31))]) (rest := [.ref h]) ⟨hx, hb, hml, hown, hts⟩ (k_tuned l dC dI H.size h bk vi tr xk3 j50_h_4 j50_h_5 j50_h_6 xk7 xk8 xk9 xk10 xk11 xk12 xk13 xk14 xk15 xk17 mu xk16 (xk3 >>> (17 &&& 31)) ) (cwV 1 hts (gG_V kw_699 kw_700 kw_701 kw_39 kw_702) rfl rfl rfl (by decide +kernel) ⟨Nat.le_of_ble_eq_true rfl, Nat.le_of_ble_eq_true rfl⟩) (g_preV (ws := [(vi, .inr (8, [.int xu0, .int xu1, .int xu2, .int xu3])), (tr, .inr (8, [.int xz0, .int xz1, .int xz2, .int xz3])), (bk, .inr (0, [.ref sa, .ref bb, .int us])), (sa, .inl (cS, 32, .inr (.inr (.inr (.inr g))))), (h, .inr (1, [.ref bk, .ref vi, .ref tr, .int xk3, .int j50_h_4, .int j50_h_5, .int j50_h_6, .int xk7, .int xk8, .int xk9, .int xk10, .int xk11, .int xk12, .int xk13, .int xk14, .int xk15, .long xk16, .int xk17, .int mu]))]) (C := RX1) (T := TX1) (N := 19) hP.left hD.left hK hS hA hN hZ (q0 := 4) rfl rfl [4] (by decide +kernel) rfl [] rfl) rfl rfl hl.1 rfl (lv_room (Nat.le_of_ble_eq_true rfl)) dX1_takeNote_80 ⟨Nat.le_of_ble_eq_true rfl, Nat.le_of_ble_eq_true rfl⟩) hP hD hK hS hA [4] [0, 1, 2, 3] rfl rfl (by decide +kernel) (by decide +kernel) (fun r_80 w ty1 H locs hw_80 hP hD _ hS => ?_)
        have hu := hw_80
        cases hu
        have hP : va_P (dC, dI) vwCl (([(vi, .inr (8, [.int xu0, .int xu1, .int xu2, .int xu3])), (tr, .inr (8, [.int xz0, .int xz1, .int xz2, .int xz3])), (bk, .inr (0, [.ref sa, .ref bb, .int us])), (sa, .inl (cS, 32, .inr (.inr (.inr (.inr g))))), (h, .inr (1, [.ref bk, .ref vi, .ref tr, .int xk3, .int j50_h_4, .int j50_h_5, .int j50_h_6, .int xk7, .int xk8, .int xk9, .int xk10, .int xk11, .int xk12, .int xk13, .int xk14, .int xk15, .long xk16, .int xk17, .int mu]))] : va_W) ++ famN 32 ad le tu vo sr lo fr) H := hP
        have hD : va_D A (([(vi, .inr (8, [.int xu0, .int xu1, .int xu2, .int xu3])), (tr, .inr (8, [.int xz0, .int xz1, .int xz2, .int xz3])), (bk, .inr (0, [.ref sa, .ref bb, .int us])), (sa, .inl (cS, 32, .inr (.inr (.inr (.inr g))))), (h, .inr (1, [.ref bk, .ref vi, .ref tr, .int xk3, .int j50_h_4, .int j50_h_5, .int j50_h_6, .int xk7, .int xk8, .int xk9, .int xk10, .int xk11, .int xk12, .int xk13, .int xk14, .int xk15, .long xk16, .int xk17, .int mu]))] : va_W) ++ famN 32 ad le tu vo sr lo fr) := hD
        refine va_put (D := (dC, dI)) (ci := 1) (v := .int r_80) (ty := tyX1 9) (C := RX1) (T := TX1) (N := 19) hx hb hts iwX1 tyX1 tyX1_ok nmX1 hown hK hP hD hS 4 rfl rfl 9 (by decide) (hts (.fieldLink RX1 47 "ModulePlayer$Channel" "target" "I") (List.mem_cons_of_mem _ kw_150)) (fun _ h9 => h9) rfl (by decide +kernel) (rfl) (rfl) (Nat.le_of_ble_eq_true rfl) dX1_takeNote_83 (fun H locs hP hD hS => ?_)
        have hP : va_P (dC, dI) vwCl (([(vi, .inr (8, [.int xu0, .int xu1, .int xu2, .int xu3])), (tr, .inr (8, [.int xz0, .int xz1, .int xz2, .int xz3])), (bk, .inr (0, [.ref sa, .ref bb, .int us])), (sa, .inl (cS, 32, .inr (.inr (.inr (.inr g))))), (h, .inr (1, [.ref bk, .ref vi, .ref tr, .int xk3, .int j50_h_4, .int j50_h_5, .int j50_h_6, .int xk7, .int xk8, .int r_80, .int xk10, .int xk11, .int xk12, .int xk13, .int xk14, .int xk15, .long xk16, .int xk17, .int mu]))] : va_W) ++ famN 32 ad le tu vo sr lo fr) H := hP
        have hD : va_D A (([(vi, .inr (8, [.int xu0, .int xu1, .int xu2, .int xu3])), (tr, .inr (8, [.int xz0, .int xz1, .int xz2, .int xz3])), (bk, .inr (0, [.ref sa, .ref bb, .int us])), (sa, .inl (cS, 32, .inr (.inr (.inr (.inr g))))), (h, .inr (1, [.ref bk, .ref vi, .ref tr, .int xk3, .int j50_h_4, .int j50_h_5, .int j50_h_6, .int xk7, .int xk8, .int r_80, .int xk10, .int xk11, .int xk12, .int xk13, .int xk14, .int xk15, .long xk16, .int xk17, .int mu]))] : va_W) ++ famN 32 ad le tu vo sr lo fr) := hD
        have hP9 := va_P.part (X := [(vi, .inr (8, [.int xu0, .int xu1, .int xu2, .int xu3])), (tr, .inr (8, [.int xz0, .int xz1, .int xz2, .int xz3])), (bk, .inr (0, [.ref sa, .ref bb, .int us])), (sa, .inl (cS, 32, .inr (.inr (.inr (.inr g))))), (h, .inr (1, [.ref bk, .ref vi, .ref tr, .int xk3, .int j50_h_4, .int j50_h_5, .int j50_h_6, .int xk7, .int xk8, .int r_80, .int xk10, .int xk11, .int xk12, .int xk13, .int xk14, .int xk15, .long xk16, .int xk17, .int mu]))]) (cx := [(h, .inr (1, [.ref bk, .ref vi, .ref tr, .int xk3, .int j50_h_4, .int j50_h_5, .int j50_h_6, .int xk7, .int xk8, .int r_80, .int xk10, .int xk11, .int xk12, .int xk13, .int xk14, .int xk15, .long xk16, .int xk17, .int mu])), (vi, .inr (8, [.int xu0, .int xu1, .int xu2, .int xu3])), (tr, .inr (8, [.int xz0, .int xz1, .int xz2, .int xz3])), (bk, .inr (0, [.ref sa, .ref bb, .int us])), (sa, .inl (cS, 32, .inr (.inr (.inr (.inr g)))))]) hP [4, 0, 1, 2, 3] rfl
        have hD9 := va_D.part (X := [(vi, .inr (8, [.int xu0, .int xu1, .int xu2, .int xu3])), (tr, .inr (8, [.int xz0, .int xz1, .int xz2, .int xz3])), (bk, .inr (0, [.ref sa, .ref bb, .int us])), (sa, .inl (cS, 32, .inr (.inr (.inr (.inr g))))), (h, .inr (1, [.ref bk, .ref vi, .ref tr, .int xk3, .int j50_h_4, .int j50_h_5, .int j50_h_6, .int xk7, .int xk8, .int r_80, .int xk10, .int xk11, .int xk12, .int xk13, .int xk14, .int xk15, .long xk16, .int xk17, .int mu]))]) (cx := [(h, .inr (1, [.ref bk, .ref vi, .ref tr, .int xk3, .int j50_h_4, .int j50_h_5, .int j50_h_6, .int xk7, .int xk8, .int r_80, .int xk10, .int xk11, .int xk12, .int xk13, .int xk14, .int xk15, .long xk16, .int xk17, .int mu])), (vi, .inr (8, [.int xu0, .int xu1, .int xu2, .int xu3])), (tr, .inr (8, [.int xz0, .int xz1, .int xz2, .int xz3])), (bk, .inr (0, [.ref sa, .ref bb, .int us])), (sa, .inl (cS, 32, .inr (.inr (.inr (.inr g)))))]) hD [4, 0, 1, 2, 3] (by decide +kernel) rfl
        have hK9 := hK.sub (tys' := []) [] rfl
        exact W.vret hx hb hr (fun t ht hW => ⟨⟨((([(h, .inr (1, [.ref bk, .ref vi, .ref tr, .int xk3, .int j50_h_4, .int j50_h_5, .int j50_h_6, .int xk7, .int xk8, .int r_80, .int xk10, .int xk11, .int xk12, .int xk13, .int xk14, .int xk15, .long xk16, .int xk17, .int mu])), (vi, .inr (8, [.int xu0, .int xu1, .int xu2, .int xu3])), (tr, .inr (8, [.int xz0, .int xz1, .int xz2, .int xz3])), (bk, .inr (0, [.ref sa, .ref bb, .int us])), (sa, .inl (cS, 32, .inr (.inr (.inr (.inr g)))))] : va_W) ++ famN 32 ad le tu vo sr lo fr), []), rfl, ⟨j50_h_4, j50_h_5, j50_h_6, xk7, xk8, r_80, xk17, xk16, xu2, xz2, rfl⟩, by rw [ht]; exact hP9, va_K.moved hW.alike hK9, hD9⟩, hS.F ht⟩) hS.2.2 dX1_takeNote_86
      refine lv_aload_n hx hb dX1_takeNote_66 rfl (lv_at hl 0 rfl) ?_
      refine g_calliQ (X := [(vi, .inr (8, [.int xu0, .int xu1, .int xu2, .int xu3])), (tr, .inr (8, [.int xz0, .int xz1, .int xz2, .int xz3])), (bk, .inr (0, [.ref sa, .ref bb, .int us])), (sa, .inl (cS, 32, .inr (.inr (.inr (.inr g))))), (h, .inr (1, [.ref bk, .ref vi, .ref tr, .int xk3, .int j50_h_4, .int j50_h_5, .int j50_h_6, .int xk7, .int xk8, .int xk9, .int xk10, .int xk11, .int xk12, .int xk13, .int xk14, .int xk15, .long xk16, .int xk17, .int mu]))]) (wr := [(vi, .inr (8, [.int xu0, .int xu1, .int xu2, .int xu3])), (tr, .inr (8, [.int xz0, .int xz1, .int xz2, .int xz3])), (bk, .inr (0, [.ref sa, .ref bb, .int us])), (sa, .inl (cS, 32, .inr (.inr (.inr (.inr g)))))]) (va_runV (As := []) (rest := []) ⟨hx, hb, hml, hown, hts⟩ (k_effect l dC dI H.size h bk vi tr xk3 j50_h_4 j50_h_5 j50_h_6 xk7 xk8 xk9 xk10 xk11 xk12 xk13 xk14 xk15 xk17 mu xk16 ) (cwV 0 hts (gG_V kw_675 kw_676 kw_677 kw_39 kw_678) rfl rfl rfl (by decide +kernel) ⟨Nat.le_of_ble_eq_true rfl, Nat.le_of_ble_eq_true rfl⟩) (g_preV (ws := [(vi, .inr (8, [.int xu0, .int xu1, .int xu2, .int xu3])), (tr, .inr (8, [.int xz0, .int xz1, .int xz2, .int xz3])), (bk, .inr (0, [.ref sa, .ref bb, .int us])), (sa, .inl (cS, 32, .inr (.inr (.inr (.inr g))))), (h, .inr (1, [.ref bk, .ref vi, .ref tr, .int xk3, .int j50_h_4, .int j50_h_5, .int j50_h_6, .int xk7, .int xk8, .int xk9, .int xk10, .int xk11, .int xk12, .int xk13, .int xk14, .int xk15, .long xk16, .int xk17, .int mu]))]) (C := RX1) (T := TX1) (N := 19) hP.left hD.left hK hS hA hN hZ (q0 := 4) rfl rfl [4] (by decide +kernel) rfl [] rfl) rfl rfl hl.1 rfl (lv_room (Nat.le_of_ble_eq_true rfl)) dX1_takeNote_67 ⟨Nat.le_of_ble_eq_true rfl, Nat.le_of_ble_eq_true rfl⟩) hP hD hK hS hA [4] [0, 1, 2, 3] rfl rfl (by decide +kernel) (by decide +kernel) (fun r_67 w ty1 H locs hw_67 hP hD _ hS => ?_)
      rcases hw_67 with ⟨hu, hr_67⟩
      cases hu
      have hP : va_P (dC, dI) vwCl (([(vi, .inr (8, [.int xu0, .int xu1, .int xu2, .int xu3])), (tr, .inr (8, [.int xz0, .int xz1, .int xz2, .int xz3])), (bk, .inr (0, [.ref sa, .ref bb, .int us])), (sa, .inl (cS, 32, .inr (.inr (.inr (.inr g))))), (h, .inr (1, [.ref bk, .ref vi, .ref tr, .int xk3, .int j50_h_4, .int j50_h_5, .int j50_h_6, .int xk7, .int xk8, .int xk9, .int xk10, .int xk11, .int xk12, .int xk13, .int xk14, .int xk15, .long xk16, .int xk17, .int mu]))] : va_W) ++ famN 32 ad le tu vo sr lo fr) H := hP
      have hD : va_D A (([(vi, .inr (8, [.int xu0, .int xu1, .int xu2, .int xu3])), (tr, .inr (8, [.int xz0, .int xz1, .int xz2, .int xz3])), (bk, .inr (0, [.ref sa, .ref bb, .int us])), (sa, .inl (cS, 32, .inr (.inr (.inr (.inr g))))), (h, .inr (1, [.ref bk, .ref vi, .ref tr, .int xk3, .int j50_h_4, .int j50_h_5, .int j50_h_6, .int xk7, .int xk8, .int xk9, .int xk10, .int xk11, .int xk12, .int xk13, .int xk14, .int xk15, .long xk16, .int xk17, .int mu]))] : va_W) ++ famN 32 ad le tu vo sr lo fr) := hD
      refine g_topi (y := (xk3 >>> (8 &&& 31)) &&& 15) hr_67 ?_
      refine lv_iconst (v := 5) hx hb dX1_takeNote_70 (by decide) ?_
      refine lv_icmp_ne (tgt := 87) hx hb dX1_takeNote_71 (by decide) (fun c_71 => ?_) (fun c_71 => ?_)
      · refine lv_aload_n hx hb dX1_takeNote_87 rfl (lv_at hl 0 rfl) ?_
        refine lv_aload_n hx hb dX1_takeNote_88 rfl (lv_at hl 0 rfl) ?_
        refine lv_aload_n hx hb dX1_takeNote_89 rfl (lv_at hl 0 rfl) ?_
        refine g_calliQ (X := [(vi, .inr (8, [.int xu0, .int xu1, .int xu2, .int xu3])), (tr, .inr (8, [.int xz0, .int xz1, .int xz2, .int xz3])), (bk, .inr (0, [.ref sa, .ref bb, .int us])), (sa, .inl (cS, 32, .inr (.inr (.inr (.inr g))))), (h, .inr (1, [.ref bk, .ref vi, .ref tr, .int xk3, .int j50_h_4, .int j50_h_5, .int j50_h_6, .int xk7, .int xk8, .int xk9, .int xk10, .int xk11, .int xk12, .int xk13, .int xk14, .int xk15, .long xk16, .int xk17, .int mu]))]) (wr := [(vi, .inr (8, [.int xu0, .int xu1, .int xu2, .int xu3])), (tr, .inr (8, [.int xz0, .int xz1, .int xz2, .int xz3])), (bk, .inr (0, [.ref sa, .ref bb, .int us])), (sa, .inl (cS, 32, .inr (.inr (.inr (.inr g)))))]) (va_runV (As := []) (rest := [.ref h, .ref h]) ⟨hx, hb, hml, hown, hts⟩ (k_cellPeriod l dC dI H.size h bk vi tr xk3 j50_h_4 j50_h_5 j50_h_6 xk7 xk8 xk9 xk10 xk11 xk12 xk13 xk14 xk15 xk17 mu xk16 ) (cwV 0 hts (gG_V kw_695 kw_696 kw_697 kw_39 kw_698) rfl rfl rfl (by decide +kernel) ⟨Nat.le_of_ble_eq_true rfl, Nat.le_of_ble_eq_true rfl⟩) (g_preV (ws := [(vi, .inr (8, [.int xu0, .int xu1, .int xu2, .int xu3])), (tr, .inr (8, [.int xz0, .int xz1, .int xz2, .int xz3])), (bk, .inr (0, [.ref sa, .ref bb, .int us])), (sa, .inl (cS, 32, .inr (.inr (.inr (.inr g))))), (h, .inr (1, [.ref bk, .ref vi, .ref tr, .int xk3, .int j50_h_4, .int j50_h_5, .int j50_h_6, .int xk7, .int xk8, .int xk9, .int xk10, .int xk11, .int xk12, .int xk13, .int xk14, .int xk15, .long xk16, .int xk17, .int mu]))]) (C := RX1) (T := TX1) (N := 19) hP.left hD.left hK hS hA hN hZ (q0 := 4) rfl rfl [4] (by decide +kernel) rfl [] rfl) rfl rfl hl.1 rfl (lv_room (Nat.le_of_ble_eq_true rfl)) dX1_takeNote_90 ⟨Nat.le_of_ble_eq_true rfl, Nat.le_of_ble_eq_true rfl⟩) hP hD hK hS hA [4] [0, 1, 2, 3] rfl rfl (by decide +kernel) (by decide +kernel) (fun r_90 w ty1 H locs hw_90 hP hD _ hS => ?_)
        rcases hw_90 with ⟨hu, hr_90⟩
        cases hu
        have hP : va_P (dC, dI) vwCl (([(vi, .inr (8, [.int xu0, .int xu1, .int xu2, .int xu3])), (tr, .inr (8, [.int xz0, .int xz1, .int xz2, .int xz3])), (bk, .inr (0, [.ref sa, .ref bb, .int us])), (sa, .inl (cS, 32, .inr (.inr (.inr (.inr g))))), (h, .inr (1, [.ref bk, .ref vi, .ref tr, .int xk3, .int j50_h_4, .int j50_h_5, .int j50_h_6, .int xk7, .int xk8, .int xk9, .int xk10, .int xk11, .int xk12, .int xk13, .int xk14, .int xk15, .long xk16, .int xk17, .int mu]))] : va_W) ++ famN 32 ad le tu vo sr lo fr) H := hP
        have hD : va_D A (([(vi, .inr (8, [.int xu0, .int xu1, .int xu2, .int xu3])), (tr, .inr (8, [.int xz0, .int xz1, .int xz2, .int xz3])), (bk, .inr (0, [.ref sa, .ref bb, .int us])), (sa, .inl (cS, 32, .inr (.inr (.inr (.inr g))))), (h, .inr (1, [.ref bk, .ref vi, .ref tr, .int xk3, .int j50_h_4, .int j50_h_5, .int j50_h_6, .int xk7, .int xk8, .int xk9, .int xk10, .int xk11, .int xk12, .int xk13, .int xk14, .int xk15, .long xk16, .int xk17, .int mu]))] : va_W) ++ famN 32 ad le tu vo sr lo fr) := hD
        refine g_topi (y := xk3 >>> (17 &&& 31)) hr_90 ?_
        refine g_calliQ (X := [(vi, .inr (8, [.int xu0, .int xu1, .int xu2, .int xu3])), (tr, .inr (8, [.int xz0, .int xz1, .int xz2, .int xz3])), (bk, .inr (0, [.ref sa, .ref bb, .int us])), (sa, .inl (cS, 32, .inr (.inr (.inr (.inr g))))), (h, .inr (1, [.ref bk, .ref vi, .ref tr, .int xk3, .int j50_h_4, .int j50_h_5, .int j50_h_6, .int xk7, .int xk8, .int xk9, .int xk10, .int xk11, .int xk12, .int xk13, .int xk14, .int xk15, .long xk16, .int xk17, .int mu]))]) (wr := [(vi, .inr (8, [.int xu0, .int xu1, .int xu2, .int xu3])), (tr, .inr (8, [.int xz0, .int xz1, .int xz2, .int xz3])), (bk, .inr (0, [.ref sa, .ref bb, .int us])), (sa, .inl (cS, 32, .inr (.inr (.inr (.inr g)))))]) (va_runV (As := [.int (xk3 >>> (17 &&& 31))]) (rest := [.ref h]) ⟨hx, hb, hml, hown, hts⟩ (k_tuned l dC dI H.size h bk vi tr xk3 j50_h_4 j50_h_5 j50_h_6 xk7 xk8 xk9 xk10 xk11 xk12 xk13 xk14 xk15 xk17 mu xk16 (xk3 >>> (17 &&& 31)) ) (cwV 1 hts (gG_V kw_699 kw_700 kw_701 kw_39 kw_702) rfl rfl rfl (by decide +kernel) ⟨Nat.le_of_ble_eq_true rfl, Nat.le_of_ble_eq_true rfl⟩) (g_preV (ws := [(vi, .inr (8, [.int xu0, .int xu1, .int xu2, .int xu3])), (tr, .inr (8, [.int xz0, .int xz1, .int xz2, .int xz3])), (bk, .inr (0, [.ref sa, .ref bb, .int us])), (sa, .inl (cS, 32, .inr (.inr (.inr (.inr g))))), (h, .inr (1, [.ref bk, .ref vi, .ref tr, .int xk3, .int j50_h_4, .int j50_h_5, .int j50_h_6, .int xk7, .int xk8, .int xk9, .int xk10, .int xk11, .int xk12, .int xk13, .int xk14, .int xk15, .long xk16, .int xk17, .int mu]))]) (C := RX1) (T := TX1) (N := 19) hP.left hD.left hK hS hA hN hZ (q0 := 4) rfl rfl [4] (by decide +kernel) rfl [] rfl) rfl rfl hl.1 rfl (lv_room (Nat.le_of_ble_eq_true rfl)) dX1_takeNote_93 ⟨Nat.le_of_ble_eq_true rfl, Nat.le_of_ble_eq_true rfl⟩) hP hD hK hS hA [4] [0, 1, 2, 3] rfl rfl (by decide +kernel) (by decide +kernel) (fun r_93 w ty1 H locs hw_93 hP hD _ hS => ?_)
        have hu := hw_93
        cases hu
        have hP : va_P (dC, dI) vwCl (([(vi, .inr (8, [.int xu0, .int xu1, .int xu2, .int xu3])), (tr, .inr (8, [.int xz0, .int xz1, .int xz2, .int xz3])), (bk, .inr (0, [.ref sa, .ref bb, .int us])), (sa, .inl (cS, 32, .inr (.inr (.inr (.inr g))))), (h, .inr (1, [.ref bk, .ref vi, .ref tr, .int xk3, .int j50_h_4, .int j50_h_5, .int j50_h_6, .int xk7, .int xk8, .int xk9, .int xk10, .int xk11, .int xk12, .int xk13, .int xk14, .int xk15, .long xk16, .int xk17, .int mu]))] : va_W) ++ famN 32 ad le tu vo sr lo fr) H := hP
        have hD : va_D A (([(vi, .inr (8, [.int xu0, .int xu1, .int xu2, .int xu3])), (tr, .inr (8, [.int xz0, .int xz1, .int xz2, .int xz3])), (bk, .inr (0, [.ref sa, .ref bb, .int us])), (sa, .inl (cS, 32, .inr (.inr (.inr (.inr g))))), (h, .inr (1, [.ref bk, .ref vi, .ref tr, .int xk3, .int j50_h_4, .int j50_h_5, .int j50_h_6, .int xk7, .int xk8, .int xk9, .int xk10, .int xk11, .int xk12, .int xk13, .int xk14, .int xk15, .long xk16, .int xk17, .int mu]))] : va_W) ++ famN 32 ad le tu vo sr lo fr) := hD
        refine va_put (D := (dC, dI)) (ci := 1) (v := .int r_93) (ty := tyX1 7) (C := RX1) (T := TX1) (N := 19) hx hb hts iwX1 tyX1 tyX1_ok nmX1 hown hK hP hD hS 4 rfl rfl 7 (by decide) (hts (.fieldLink RX1 41 "ModulePlayer$Channel" "period" "I") (List.mem_cons_of_mem _ kw_148)) (fun _ h9 => h9) rfl (by decide +kernel) (rfl) (rfl) (Nat.le_of_ble_eq_true rfl) dX1_takeNote_96 (fun H locs hP hD hS => ?_)
        have hP : va_P (dC, dI) vwCl (([(vi, .inr (8, [.int xu0, .int xu1, .int xu2, .int xu3])), (tr, .inr (8, [.int xz0, .int xz1, .int xz2, .int xz3])), (bk, .inr (0, [.ref sa, .ref bb, .int us])), (sa, .inl (cS, 32, .inr (.inr (.inr (.inr g))))), (h, .inr (1, [.ref bk, .ref vi, .ref tr, .int xk3, .int j50_h_4, .int j50_h_5, .int j50_h_6, .int r_93, .int xk8, .int xk9, .int xk10, .int xk11, .int xk12, .int xk13, .int xk14, .int xk15, .long xk16, .int xk17, .int mu]))] : va_W) ++ famN 32 ad le tu vo sr lo fr) H := hP
        have hD : va_D A (([(vi, .inr (8, [.int xu0, .int xu1, .int xu2, .int xu3])), (tr, .inr (8, [.int xz0, .int xz1, .int xz2, .int xz3])), (bk, .inr (0, [.ref sa, .ref bb, .int us])), (sa, .inl (cS, 32, .inr (.inr (.inr (.inr g))))), (h, .inr (1, [.ref bk, .ref vi, .ref tr, .int xk3, .int j50_h_4, .int j50_h_5, .int j50_h_6, .int r_93, .int xk8, .int xk9, .int xk10, .int xk11, .int xk12, .int xk13, .int xk14, .int xk15, .long xk16, .int xk17, .int mu]))] : va_W) ++ famN 32 ad le tu vo sr lo fr) := hD
        refine lv_aload_n hx hb dX1_takeNote_99 rfl (lv_at hl 0 rfl) ?_
        refine lv_aload_n hx hb dX1_takeNote_100 rfl (lv_at hl 0 rfl) ?_
        refine va_get (D := (dC, dI)) (ci := 1) (v := .int r_93) (C := RX1) (T := TX1) (N := 19) hx hb hts iwX1 hown hK hP 4 rfl rfl 7 (by decide) (hts (.fieldLink RX1 41 "ModulePlayer$Channel" "period" "I") (List.mem_cons_of_mem _ kw_148)) (fun _ h9 => h9) rfl dX1_takeNote_101 ?_
        refine va_put (D := (dC, dI)) (ci := 1) (v := .int r_93) (ty := tyX1 8) (C := RX1) (T := TX1) (N := 19) hx hb hts iwX1 tyX1 tyX1_ok nmX1 hown hK hP hD hS 4 rfl rfl 8 (by decide) (hts (.fieldLink RX1 44 "ModulePlayer$Channel" "notePeriod" "I") (List.mem_cons_of_mem _ kw_149)) (fun _ h9 => h9) rfl (by decide +kernel) (rfl) (rfl) (Nat.le_of_ble_eq_true rfl) dX1_takeNote_104 (fun H locs hP hD hS => ?_)
        have hP : va_P (dC, dI) vwCl (([(vi, .inr (8, [.int xu0, .int xu1, .int xu2, .int xu3])), (tr, .inr (8, [.int xz0, .int xz1, .int xz2, .int xz3])), (bk, .inr (0, [.ref sa, .ref bb, .int us])), (sa, .inl (cS, 32, .inr (.inr (.inr (.inr g))))), (h, .inr (1, [.ref bk, .ref vi, .ref tr, .int xk3, .int j50_h_4, .int j50_h_5, .int j50_h_6, .int r_93, .int r_93, .int xk9, .int xk10, .int xk11, .int xk12, .int xk13, .int xk14, .int xk15, .long xk16, .int xk17, .int mu]))] : va_W) ++ famN 32 ad le tu vo sr lo fr) H := hP
        have hD : va_D A (([(vi, .inr (8, [.int xu0, .int xu1, .int xu2, .int xu3])), (tr, .inr (8, [.int xz0, .int xz1, .int xz2, .int xz3])), (bk, .inr (0, [.ref sa, .ref bb, .int us])), (sa, .inl (cS, 32, .inr (.inr (.inr (.inr g))))), (h, .inr (1, [.ref bk, .ref vi, .ref tr, .int xk3, .int j50_h_4, .int j50_h_5, .int j50_h_6, .int r_93, .int r_93, .int xk9, .int xk10, .int xk11, .int xk12, .int xk13, .int xk14, .int xk15, .long xk16, .int xk17, .int mu]))] : va_W) ++ famN 32 ad le tu vo sr lo fr) := hD
        refine lv_aload_n hx hb dX1_takeNote_107 rfl (lv_at hl 0 rfl) ?_
        refine g_callvP (X := [(vi, .inr (8, [.int xu0, .int xu1, .int xu2, .int xu3])), (tr, .inr (8, [.int xz0, .int xz1, .int xz2, .int xz3])), (bk, .inr (0, [.ref sa, .ref bb, .int us])), (sa, .inl (cS, 32, .inr (.inr (.inr (.inr g))))), (h, .inr (1, [.ref bk, .ref vi, .ref tr, .int xk3, .int j50_h_4, .int j50_h_5, .int j50_h_6, .int r_93, .int r_93, .int xk9, .int xk10, .int xk11, .int xk12, .int xk13, .int xk14, .int xk15, .long xk16, .int xk17, .int mu]))]) (wr := [(vi, .inr (8, [.int xu0, .int xu1, .int xu2, .int xu3])), (tr, .inr (8, [.int xz0, .int xz1, .int xz2, .int xz3]))]) (va_runV (As := []) (rest := []) ⟨hx, hb, hml, hown, hts⟩ (k_strike l dC dI H.size h bk vi tr xk3 j50_h_4 j50_h_5 j50_h_6 r_93 r_93 xk9 xk10 xk11 xk12 xk13 xk14 xk15 xk17 mu xk16 sa bb us ad cS g le tu vo sr lo fr (hg)) (cwV 0 hts (gG_V kw_703 kw_704 kw_705 kw_39 kw_706) rfl rfl rfl (by decide +kernel) ⟨Nat.le_of_ble_eq_true rfl, Nat.le_of_ble_eq_true rfl⟩) (g_preVP (X := [(vi, .inr (8, [.int xu0, .int xu1, .int xu2, .int xu3])), (tr, .inr (8, [.int xz0, .int xz1, .int xz2, .int xz3])), (bk, .inr (0, [.ref sa, .ref bb, .int us])), (sa, .inl (cS, 32, .inr (.inr (.inr (.inr g))))), (h, .inr (1, [.ref bk, .ref vi, .ref tr, .int xk3, .int j50_h_4, .int j50_h_5, .int j50_h_6, .int r_93, .int r_93, .int xk9, .int xk10, .int xk11, .int xk12, .int xk13, .int xk14, .int xk15, .long xk16, .int xk17, .int mu]))]) (C := RX1) (T := TX1) (N := 19) hP hD hK hS hA hN hZ (q0 := 4) rfl rfl [4, 2, 3] (by decide +kernel) rfl [0] rfl) rfl rfl hl.1 rfl (lv_room (Nat.le_of_ble_eq_true rfl)) dX1_takeNote_108 ⟨Nat.le_of_ble_eq_true rfl, Nat.le_of_ble_eq_true rfl⟩) hP hD hK hS hA [4, 2, 3] [0, 1] rfl rfl (by decide +kernel) (by decide +kernel) (fun w ty1 H locs hw_108 hJ _ hS => ?_)
        rcases hw_108 with ⟨yk17_108, hu⟩
        cases hu
        obtain ⟨hP, hD⟩ := hJ _ _ rfl
        have hP : va_P (dC, dI) vwCl (([(vi, .inr (8, [.int xu0, .int xu1, .int xu2, .int xu3])), (tr, .inr (8, [.int xz0, .int xz1, .int xz2, .int xz3])), (h, .inr (1, [.ref bk, .ref vi, .ref tr, .int xk3, .int j50_h_4, .int j50_h_5, .int j50_h_6, .int r_93, .int r_93, .int xk9, .int xk10, .int xk11, .int xk12, .int xk13, .int xk14, .int xk15, .long 0, .int yk17_108, .int mu])), (bk, .inr (0, [.ref sa, .ref bb, .int us])), (sa, .inl (cS, 32, .inr (.inr (.inr (.inr g)))))] : va_W) ++ famN 32 ad le tu vo sr lo fr) H := hP
        have hD : va_D A (([(vi, .inr (8, [.int xu0, .int xu1, .int xu2, .int xu3])), (tr, .inr (8, [.int xz0, .int xz1, .int xz2, .int xz3])), (h, .inr (1, [.ref bk, .ref vi, .ref tr, .int xk3, .int j50_h_4, .int j50_h_5, .int j50_h_6, .int r_93, .int r_93, .int xk9, .int xk10, .int xk11, .int xk12, .int xk13, .int xk14, .int xk15, .long 0, .int yk17_108, .int mu])), (bk, .inr (0, [.ref sa, .ref bb, .int us])), (sa, .inl (cS, 32, .inr (.inr (.inr (.inr g)))))] : va_W) ++ famN 32 ad le tu vo sr lo fr) := hD
        refine lv_aload_n hx hb dX1_takeNote_111 rfl (lv_at hl 0 rfl) ?_
        refine va_get (D := (dC, dI)) (ci := 1) (v := .ref vi) (C := RX1) (T := TX1) (N := 19) hx hb hts iwX1 hown hK hP 2 rfl rfl 1 (by decide) (hts (.fieldLink RX1 12 "ModulePlayer$Channel" "vibrato" "LModulePlayer$Wobble;") (List.mem_cons_of_mem _ kw_87)) (fun _ h9 => h9) rfl dX1_takeNote_112 ?_
        refine lv_iconst (v := 0) hx hb dX1_takeNote_115 (by decide) ?_
        refine va_put (D := (dC, dI)) (ci := 8) (v := .int 0) (ty := tyX8 2) (C := RX8) (T := TX8) (N := 4) hx hb hts iwX8 tyX8 tyX8_ok nmX8 hown hK hP hD hS 0 rfl rfl 2 (by decide) (hts (.fieldLink RX1 131 "ModulePlayer$Wobble" "place" "I") (List.mem_cons_of_mem _ kw_693)) (fun _ h9 => h9) rfl (by decide +kernel) (rfl) (rfl) (Nat.le_of_ble_eq_true rfl) dX1_takeNote_116 (fun H locs hP hD hS => ?_)
        have hP : va_P (dC, dI) vwCl (([(vi, .inr (8, [.int xu0, .int xu1, .int 0, .int xu3])), (tr, .inr (8, [.int xz0, .int xz1, .int xz2, .int xz3])), (h, .inr (1, [.ref bk, .ref vi, .ref tr, .int xk3, .int j50_h_4, .int j50_h_5, .int j50_h_6, .int r_93, .int r_93, .int xk9, .int xk10, .int xk11, .int xk12, .int xk13, .int xk14, .int xk15, .long 0, .int yk17_108, .int mu])), (bk, .inr (0, [.ref sa, .ref bb, .int us])), (sa, .inl (cS, 32, .inr (.inr (.inr (.inr g)))))] : va_W) ++ famN 32 ad le tu vo sr lo fr) H := hP
        have hD : va_D A (([(vi, .inr (8, [.int xu0, .int xu1, .int 0, .int xu3])), (tr, .inr (8, [.int xz0, .int xz1, .int xz2, .int xz3])), (h, .inr (1, [.ref bk, .ref vi, .ref tr, .int xk3, .int j50_h_4, .int j50_h_5, .int j50_h_6, .int r_93, .int r_93, .int xk9, .int xk10, .int xk11, .int xk12, .int xk13, .int xk14, .int xk15, .long 0, .int yk17_108, .int mu])), (bk, .inr (0, [.ref sa, .ref bb, .int us])), (sa, .inl (cS, 32, .inr (.inr (.inr (.inr g)))))] : va_W) ++ famN 32 ad le tu vo sr lo fr) := hD
        refine lv_aload_n hx hb dX1_takeNote_119 rfl (lv_at hl 0 rfl) ?_
        refine va_get (D := (dC, dI)) (ci := 1) (v := .ref tr) (C := RX1) (T := TX1) (N := 19) hx hb hts iwX1 hown hK hP 2 rfl rfl 2 (by decide) (hts (.fieldLink RX1 18 "ModulePlayer$Channel" "tremolo" "LModulePlayer$Wobble;") (List.mem_cons_of_mem _ kw_88)) (fun _ h9 => h9) rfl dX1_takeNote_120 ?_
        refine lv_iconst (v := 0) hx hb dX1_takeNote_123 (by decide) ?_
        refine va_put (D := (dC, dI)) (ci := 8) (v := .int 0) (ty := tyX8 2) (C := RX8) (T := TX8) (N := 4) hx hb hts iwX8 tyX8 tyX8_ok nmX8 hown hK hP hD hS 1 rfl rfl 2 (by decide) (hts (.fieldLink RX1 131 "ModulePlayer$Wobble" "place" "I") (List.mem_cons_of_mem _ kw_693)) (fun _ h9 => h9) rfl (by decide +kernel) (rfl) (rfl) (Nat.le_of_ble_eq_true rfl) dX1_takeNote_124 (fun H locs hP hD hS => ?_)
        have hP : va_P (dC, dI) vwCl (([(vi, .inr (8, [.int xu0, .int xu1, .int 0, .int xu3])), (tr, .inr (8, [.int xz0, .int xz1, .int 0, .int xz3])), (h, .inr (1, [.ref bk, .ref vi, .ref tr, .int xk3, .int j50_h_4, .int j50_h_5, .int j50_h_6, .int r_93, .int r_93, .int xk9, .int xk10, .int xk11, .int xk12, .int xk13, .int xk14, .int xk15, .long 0, .int yk17_108, .int mu])), (bk, .inr (0, [.ref sa, .ref bb, .int us])), (sa, .inl (cS, 32, .inr (.inr (.inr (.inr g)))))] : va_W) ++ famN 32 ad le tu vo sr lo fr) H := hP
        have hD : va_D A (([(vi, .inr (8, [.int xu0, .int xu1, .int 0, .int xu3])), (tr, .inr (8, [.int xz0, .int xz1, .int 0, .int xz3])), (h, .inr (1, [.ref bk, .ref vi, .ref tr, .int xk3, .int j50_h_4, .int j50_h_5, .int j50_h_6, .int r_93, .int r_93, .int xk9, .int xk10, .int xk11, .int xk12, .int xk13, .int xk14, .int xk15, .long 0, .int yk17_108, .int mu])), (bk, .inr (0, [.ref sa, .ref bb, .int us])), (sa, .inl (cS, 32, .inr (.inr (.inr (.inr g)))))] : va_W) ++ famN 32 ad le tu vo sr lo fr) := hD
        have hP9 := va_P.part (X := [(vi, .inr (8, [.int xu0, .int xu1, .int 0, .int xu3])), (tr, .inr (8, [.int xz0, .int xz1, .int 0, .int xz3])), (h, .inr (1, [.ref bk, .ref vi, .ref tr, .int xk3, .int j50_h_4, .int j50_h_5, .int j50_h_6, .int r_93, .int r_93, .int xk9, .int xk10, .int xk11, .int xk12, .int xk13, .int xk14, .int xk15, .long 0, .int yk17_108, .int mu])), (bk, .inr (0, [.ref sa, .ref bb, .int us])), (sa, .inl (cS, 32, .inr (.inr (.inr (.inr g)))))]) (cx := [(h, .inr (1, [.ref bk, .ref vi, .ref tr, .int xk3, .int j50_h_4, .int j50_h_5, .int j50_h_6, .int r_93, .int r_93, .int xk9, .int xk10, .int xk11, .int xk12, .int xk13, .int xk14, .int xk15, .long 0, .int yk17_108, .int mu])), (vi, .inr (8, [.int xu0, .int xu1, .int 0, .int xu3])), (tr, .inr (8, [.int xz0, .int xz1, .int 0, .int xz3])), (bk, .inr (0, [.ref sa, .ref bb, .int us])), (sa, .inl (cS, 32, .inr (.inr (.inr (.inr g)))))]) hP [2, 0, 1, 3, 4] rfl
        have hD9 := va_D.part (X := [(vi, .inr (8, [.int xu0, .int xu1, .int 0, .int xu3])), (tr, .inr (8, [.int xz0, .int xz1, .int 0, .int xz3])), (h, .inr (1, [.ref bk, .ref vi, .ref tr, .int xk3, .int j50_h_4, .int j50_h_5, .int j50_h_6, .int r_93, .int r_93, .int xk9, .int xk10, .int xk11, .int xk12, .int xk13, .int xk14, .int xk15, .long 0, .int yk17_108, .int mu])), (bk, .inr (0, [.ref sa, .ref bb, .int us])), (sa, .inl (cS, 32, .inr (.inr (.inr (.inr g)))))]) (cx := [(h, .inr (1, [.ref bk, .ref vi, .ref tr, .int xk3, .int j50_h_4, .int j50_h_5, .int j50_h_6, .int r_93, .int r_93, .int xk9, .int xk10, .int xk11, .int xk12, .int xk13, .int xk14, .int xk15, .long 0, .int yk17_108, .int mu])), (vi, .inr (8, [.int xu0, .int xu1, .int 0, .int xu3])), (tr, .inr (8, [.int xz0, .int xz1, .int 0, .int xz3])), (bk, .inr (0, [.ref sa, .ref bb, .int us])), (sa, .inl (cS, 32, .inr (.inr (.inr (.inr g)))))]) hD [2, 0, 1, 3, 4] (by decide +kernel) rfl
        have hK9 := hK.sub (tys' := []) [] rfl
        exact W.vret hx hb hr (fun t ht hW => ⟨⟨((([(h, .inr (1, [.ref bk, .ref vi, .ref tr, .int xk3, .int j50_h_4, .int j50_h_5, .int j50_h_6, .int r_93, .int r_93, .int xk9, .int xk10, .int xk11, .int xk12, .int xk13, .int xk14, .int xk15, .long 0, .int yk17_108, .int mu])), (vi, .inr (8, [.int xu0, .int xu1, .int 0, .int xu3])), (tr, .inr (8, [.int xz0, .int xz1, .int 0, .int xz3])), (bk, .inr (0, [.ref sa, .ref bb, .int us])), (sa, .inl (cS, 32, .inr (.inr (.inr (.inr g)))))] : va_W) ++ famN 32 ad le tu vo sr lo fr), []), rfl, ⟨j50_h_4, j50_h_5, j50_h_6, r_93, r_93, xk9, yk17_108, 0, 0, 0, rfl⟩, by rw [ht]; exact hP9, va_K.moved hW.alike hK9, hD9⟩, hS.F ht⟩) hS.2.2 dX1_takeNote_127
      refine lv_aload_n hx hb dX1_takeNote_74 rfl (lv_at hl 0 rfl) ?_
      refine lv_aload_n hx hb dX1_takeNote_75 rfl (lv_at hl 0 rfl) ?_
      refine lv_aload_n hx hb dX1_takeNote_76 rfl (lv_at hl 0 rfl) ?_
      refine g_calliQ (X := [(vi, .inr (8, [.int xu0, .int xu1, .int xu2, .int xu3])), (tr, .inr (8, [.int xz0, .int xz1, .int xz2, .int xz3])), (bk, .inr (0, [.ref sa, .ref bb, .int us])), (sa, .inl (cS, 32, .inr (.inr (.inr (.inr g))))), (h, .inr (1, [.ref bk, .ref vi, .ref tr, .int xk3, .int j50_h_4, .int j50_h_5, .int j50_h_6, .int xk7, .int xk8, .int xk9, .int xk10, .int xk11, .int xk12, .int xk13, .int xk14, .int xk15, .long xk16, .int xk17, .int mu]))]) (wr := [(vi, .inr (8, [.int xu0, .int xu1, .int xu2, .int xu3])), (tr, .inr (8, [.int xz0, .int xz1, .int xz2, .int xz3])), (bk, .inr (0, [.ref sa, .ref bb, .int us])), (sa, .inl (cS, 32, .inr (.inr (.inr (.inr g)))))]) (va_runV (As := []) (rest := [.ref h, .ref h]) ⟨hx, hb, hml, hown, hts⟩ (k_cellPeriod l dC dI H.size h bk vi tr xk3 j50_h_4 j50_h_5 j50_h_6 xk7 xk8 xk9 xk10 xk11 xk12 xk13 xk14 xk15 xk17 mu xk16 ) (cwV 0 hts (gG_V kw_695 kw_696 kw_697 kw_39 kw_698) rfl rfl rfl (by decide +kernel) ⟨Nat.le_of_ble_eq_true rfl, Nat.le_of_ble_eq_true rfl⟩) (g_preV (ws := [(vi, .inr (8, [.int xu0, .int xu1, .int xu2, .int xu3])), (tr, .inr (8, [.int xz0, .int xz1, .int xz2, .int xz3])), (bk, .inr (0, [.ref sa, .ref bb, .int us])), (sa, .inl (cS, 32, .inr (.inr (.inr (.inr g))))), (h, .inr (1, [.ref bk, .ref vi, .ref tr, .int xk3, .int j50_h_4, .int j50_h_5, .int j50_h_6, .int xk7, .int xk8, .int xk9, .int xk10, .int xk11, .int xk12, .int xk13, .int xk14, .int xk15, .long xk16, .int xk17, .int mu]))]) (C := RX1) (T := TX1) (N := 19) hP.left hD.left hK hS hA hN hZ (q0 := 4) rfl rfl [4] (by decide +kernel) rfl [] rfl) rfl rfl hl.1 rfl (lv_room (Nat.le_of_ble_eq_true rfl)) dX1_takeNote_77 ⟨Nat.le_of_ble_eq_true rfl, Nat.le_of_ble_eq_true rfl⟩) hP hD hK hS hA [4] [0, 1, 2, 3] rfl rfl (by decide +kernel) (by decide +kernel) (fun r_77 w ty1 H locs hw_77 hP hD _ hS => ?_)
      rcases hw_77 with ⟨hu, hr_77⟩
      cases hu
      have hP : va_P (dC, dI) vwCl (([(vi, .inr (8, [.int xu0, .int xu1, .int xu2, .int xu3])), (tr, .inr (8, [.int xz0, .int xz1, .int xz2, .int xz3])), (bk, .inr (0, [.ref sa, .ref bb, .int us])), (sa, .inl (cS, 32, .inr (.inr (.inr (.inr g))))), (h, .inr (1, [.ref bk, .ref vi, .ref tr, .int xk3, .int j50_h_4, .int j50_h_5, .int j50_h_6, .int xk7, .int xk8, .int xk9, .int xk10, .int xk11, .int xk12, .int xk13, .int xk14, .int xk15, .long xk16, .int xk17, .int mu]))] : va_W) ++ famN 32 ad le tu vo sr lo fr) H := hP
      have hD : va_D A (([(vi, .inr (8, [.int xu0, .int xu1, .int xu2, .int xu3])), (tr, .inr (8, [.int xz0, .int xz1, .int xz2, .int xz3])), (bk, .inr (0, [.ref sa, .ref bb, .int us])), (sa, .inl (cS, 32, .inr (.inr (.inr (.inr g))))), (h, .inr (1, [.ref bk, .ref vi, .ref tr, .int xk3, .int j50_h_4, .int j50_h_5, .int j50_h_6, .int xk7, .int xk8, .int xk9, .int xk10, .int xk11, .int xk12, .int xk13, .int xk14, .int xk15, .long xk16, .int xk17, .int mu]))] : va_W) ++ famN 32 ad le tu vo sr lo fr) := hD
      refine g_topi (y := xk3 >>> (17 &&& 31)) hr_77 ?_
      refine g_calliQ (X := [(vi, .inr (8, [.int xu0, .int xu1, .int xu2, .int xu3])), (tr, .inr (8, [.int xz0, .int xz1, .int xz2, .int xz3])), (bk, .inr (0, [.ref sa, .ref bb, .int us])), (sa, .inl (cS, 32, .inr (.inr (.inr (.inr g))))), (h, .inr (1, [.ref bk, .ref vi, .ref tr, .int xk3, .int j50_h_4, .int j50_h_5, .int j50_h_6, .int xk7, .int xk8, .int xk9, .int xk10, .int xk11, .int xk12, .int xk13, .int xk14, .int xk15, .long xk16, .int xk17, .int mu]))]) (wr := [(vi, .inr (8, [.int xu0, .int xu1, .int xu2, .int xu3])), (tr, .inr (8, [.int xz0, .int xz1, .int xz2, .int xz3])), (bk, .inr (0, [.ref sa, .ref bb, .int us])), (sa, .inl (cS, 32, .inr (.inr (.inr (.inr g)))))]) (va_runV (As := [.int (xk3 >>> (17 &&& 31))]) (rest := [.ref h]) ⟨hx, hb, hml, hown, hts⟩ (k_tuned l dC dI H.size h bk vi tr xk3 j50_h_4 j50_h_5 j50_h_6 xk7 xk8 xk9 xk10 xk11 xk12 xk13 xk14 xk15 xk17 mu xk16 (xk3 >>> (17 &&& 31)) ) (cwV 1 hts (gG_V kw_699 kw_700 kw_701 kw_39 kw_702) rfl rfl rfl (by decide +kernel) ⟨Nat.le_of_ble_eq_true rfl, Nat.le_of_ble_eq_true rfl⟩) (g_preV (ws := [(vi, .inr (8, [.int xu0, .int xu1, .int xu2, .int xu3])), (tr, .inr (8, [.int xz0, .int xz1, .int xz2, .int xz3])), (bk, .inr (0, [.ref sa, .ref bb, .int us])), (sa, .inl (cS, 32, .inr (.inr (.inr (.inr g))))), (h, .inr (1, [.ref bk, .ref vi, .ref tr, .int xk3, .int j50_h_4, .int j50_h_5, .int j50_h_6, .int xk7, .int xk8, .int xk9, .int xk10, .int xk11, .int xk12, .int xk13, .int xk14, .int xk15, .long xk16, .int xk17, .int mu]))]) (C := RX1) (T := TX1) (N := 19) hP.left hD.left hK hS hA hN hZ (q0 := 4) rfl rfl [4] (by decide +kernel) rfl [] rfl) rfl rfl hl.1 rfl (lv_room (Nat.le_of_ble_eq_true rfl)) dX1_takeNote_80 ⟨Nat.le_of_ble_eq_true rfl, Nat.le_of_ble_eq_true rfl⟩) hP hD hK hS hA [4] [0, 1, 2, 3] rfl rfl (by decide +kernel) (by decide +kernel) (fun r_80 w ty1 H locs hw_80 hP hD _ hS => ?_)
      have hu := hw_80
      cases hu
      have hP : va_P (dC, dI) vwCl (([(vi, .inr (8, [.int xu0, .int xu1, .int xu2, .int xu3])), (tr, .inr (8, [.int xz0, .int xz1, .int xz2, .int xz3])), (bk, .inr (0, [.ref sa, .ref bb, .int us])), (sa, .inl (cS, 32, .inr (.inr (.inr (.inr g))))), (h, .inr (1, [.ref bk, .ref vi, .ref tr, .int xk3, .int j50_h_4, .int j50_h_5, .int j50_h_6, .int xk7, .int xk8, .int xk9, .int xk10, .int xk11, .int xk12, .int xk13, .int xk14, .int xk15, .long xk16, .int xk17, .int mu]))] : va_W) ++ famN 32 ad le tu vo sr lo fr) H := hP
      have hD : va_D A (([(vi, .inr (8, [.int xu0, .int xu1, .int xu2, .int xu3])), (tr, .inr (8, [.int xz0, .int xz1, .int xz2, .int xz3])), (bk, .inr (0, [.ref sa, .ref bb, .int us])), (sa, .inl (cS, 32, .inr (.inr (.inr (.inr g))))), (h, .inr (1, [.ref bk, .ref vi, .ref tr, .int xk3, .int j50_h_4, .int j50_h_5, .int j50_h_6, .int xk7, .int xk8, .int xk9, .int xk10, .int xk11, .int xk12, .int xk13, .int xk14, .int xk15, .long xk16, .int xk17, .int mu]))] : va_W) ++ famN 32 ad le tu vo sr lo fr) := hD
      refine va_put (D := (dC, dI)) (ci := 1) (v := .int r_80) (ty := tyX1 9) (C := RX1) (T := TX1) (N := 19) hx hb hts iwX1 tyX1 tyX1_ok nmX1 hown hK hP hD hS 4 rfl rfl 9 (by decide) (hts (.fieldLink RX1 47 "ModulePlayer$Channel" "target" "I") (List.mem_cons_of_mem _ kw_150)) (fun _ h9 => h9) rfl (by decide +kernel) (rfl) (rfl) (Nat.le_of_ble_eq_true rfl) dX1_takeNote_83 (fun H locs hP hD hS => ?_)
      have hP : va_P (dC, dI) vwCl (([(vi, .inr (8, [.int xu0, .int xu1, .int xu2, .int xu3])), (tr, .inr (8, [.int xz0, .int xz1, .int xz2, .int xz3])), (bk, .inr (0, [.ref sa, .ref bb, .int us])), (sa, .inl (cS, 32, .inr (.inr (.inr (.inr g))))), (h, .inr (1, [.ref bk, .ref vi, .ref tr, .int xk3, .int j50_h_4, .int j50_h_5, .int j50_h_6, .int xk7, .int xk8, .int r_80, .int xk10, .int xk11, .int xk12, .int xk13, .int xk14, .int xk15, .long xk16, .int xk17, .int mu]))] : va_W) ++ famN 32 ad le tu vo sr lo fr) H := hP
      have hD : va_D A (([(vi, .inr (8, [.int xu0, .int xu1, .int xu2, .int xu3])), (tr, .inr (8, [.int xz0, .int xz1, .int xz2, .int xz3])), (bk, .inr (0, [.ref sa, .ref bb, .int us])), (sa, .inl (cS, 32, .inr (.inr (.inr (.inr g))))), (h, .inr (1, [.ref bk, .ref vi, .ref tr, .int xk3, .int j50_h_4, .int j50_h_5, .int j50_h_6, .int xk7, .int xk8, .int r_80, .int xk10, .int xk11, .int xk12, .int xk13, .int xk14, .int xk15, .long xk16, .int xk17, .int mu]))] : va_W) ++ famN 32 ad le tu vo sr lo fr) := hD
      have hP9 := va_P.part (X := [(vi, .inr (8, [.int xu0, .int xu1, .int xu2, .int xu3])), (tr, .inr (8, [.int xz0, .int xz1, .int xz2, .int xz3])), (bk, .inr (0, [.ref sa, .ref bb, .int us])), (sa, .inl (cS, 32, .inr (.inr (.inr (.inr g))))), (h, .inr (1, [.ref bk, .ref vi, .ref tr, .int xk3, .int j50_h_4, .int j50_h_5, .int j50_h_6, .int xk7, .int xk8, .int r_80, .int xk10, .int xk11, .int xk12, .int xk13, .int xk14, .int xk15, .long xk16, .int xk17, .int mu]))]) (cx := [(h, .inr (1, [.ref bk, .ref vi, .ref tr, .int xk3, .int j50_h_4, .int j50_h_5, .int j50_h_6, .int xk7, .int xk8, .int r_80, .int xk10, .int xk11, .int xk12, .int xk13, .int xk14, .int xk15, .long xk16, .int xk17, .int mu])), (vi, .inr (8, [.int xu0, .int xu1, .int xu2, .int xu3])), (tr, .inr (8, [.int xz0, .int xz1, .int xz2, .int xz3])), (bk, .inr (0, [.ref sa, .ref bb, .int us])), (sa, .inl (cS, 32, .inr (.inr (.inr (.inr g)))))]) hP [4, 0, 1, 2, 3] rfl
      have hD9 := va_D.part (X := [(vi, .inr (8, [.int xu0, .int xu1, .int xu2, .int xu3])), (tr, .inr (8, [.int xz0, .int xz1, .int xz2, .int xz3])), (bk, .inr (0, [.ref sa, .ref bb, .int us])), (sa, .inl (cS, 32, .inr (.inr (.inr (.inr g))))), (h, .inr (1, [.ref bk, .ref vi, .ref tr, .int xk3, .int j50_h_4, .int j50_h_5, .int j50_h_6, .int xk7, .int xk8, .int r_80, .int xk10, .int xk11, .int xk12, .int xk13, .int xk14, .int xk15, .long xk16, .int xk17, .int mu]))]) (cx := [(h, .inr (1, [.ref bk, .ref vi, .ref tr, .int xk3, .int j50_h_4, .int j50_h_5, .int j50_h_6, .int xk7, .int xk8, .int r_80, .int xk10, .int xk11, .int xk12, .int xk13, .int xk14, .int xk15, .long xk16, .int xk17, .int mu])), (vi, .inr (8, [.int xu0, .int xu1, .int xu2, .int xu3])), (tr, .inr (8, [.int xz0, .int xz1, .int xz2, .int xz3])), (bk, .inr (0, [.ref sa, .ref bb, .int us])), (sa, .inl (cS, 32, .inr (.inr (.inr (.inr g)))))]) hD [4, 0, 1, 2, 3] (by decide +kernel) rfl
      have hK9 := hK.sub (tys' := []) [] rfl
      exact W.vret hx hb hr (fun t ht hW => ⟨⟨((([(h, .inr (1, [.ref bk, .ref vi, .ref tr, .int xk3, .int j50_h_4, .int j50_h_5, .int j50_h_6, .int xk7, .int xk8, .int r_80, .int xk10, .int xk11, .int xk12, .int xk13, .int xk14, .int xk15, .long xk16, .int xk17, .int mu])), (vi, .inr (8, [.int xu0, .int xu1, .int xu2, .int xu3])), (tr, .inr (8, [.int xz0, .int xz1, .int xz2, .int xz3])), (bk, .inr (0, [.ref sa, .ref bb, .int us])), (sa, .inl (cS, 32, .inr (.inr (.inr (.inr g)))))] : va_W) ++ famN 32 ad le tu vo sr lo fr), []), rfl, ⟨j50_h_4, j50_h_5, j50_h_6, xk7, xk8, r_80, xk17, xk16, xu2, xz2, rfl⟩, by rw [ht]; exact hP9, va_K.moved hW.alike hK9, hD9⟩, hS.F ht⟩) hS.2.2 dX1_takeNote_86
    have hP9 := va_P.part (X := [(vi, .inr (8, [.int xu0, .int xu1, .int xu2, .int xu3])), (tr, .inr (8, [.int xz0, .int xz1, .int xz2, .int xz3])), (bk, .inr (0, [.ref sa, .ref bb, .int us])), (sa, .inl (cS, 32, .inr (.inr (.inr (.inr g))))), (h, .inr (1, [.ref bk, .ref vi, .ref tr, .int xk3, .int j50_h_4, .int j50_h_5, .int j50_h_6, .int xk7, .int xk8, .int xk9, .int xk10, .int xk11, .int xk12, .int xk13, .int xk14, .int xk15, .long xk16, .int xk17, .int mu]))]) (cx := [(h, .inr (1, [.ref bk, .ref vi, .ref tr, .int xk3, .int j50_h_4, .int j50_h_5, .int j50_h_6, .int xk7, .int xk8, .int xk9, .int xk10, .int xk11, .int xk12, .int xk13, .int xk14, .int xk15, .long xk16, .int xk17, .int mu])), (vi, .inr (8, [.int xu0, .int xu1, .int xu2, .int xu3])), (tr, .inr (8, [.int xz0, .int xz1, .int xz2, .int xz3])), (bk, .inr (0, [.ref sa, .ref bb, .int us])), (sa, .inl (cS, 32, .inr (.inr (.inr (.inr g)))))]) hP [4, 0, 1, 2, 3] rfl
    have hD9 := va_D.part (X := [(vi, .inr (8, [.int xu0, .int xu1, .int xu2, .int xu3])), (tr, .inr (8, [.int xz0, .int xz1, .int xz2, .int xz3])), (bk, .inr (0, [.ref sa, .ref bb, .int us])), (sa, .inl (cS, 32, .inr (.inr (.inr (.inr g))))), (h, .inr (1, [.ref bk, .ref vi, .ref tr, .int xk3, .int j50_h_4, .int j50_h_5, .int j50_h_6, .int xk7, .int xk8, .int xk9, .int xk10, .int xk11, .int xk12, .int xk13, .int xk14, .int xk15, .long xk16, .int xk17, .int mu]))]) (cx := [(h, .inr (1, [.ref bk, .ref vi, .ref tr, .int xk3, .int j50_h_4, .int j50_h_5, .int j50_h_6, .int xk7, .int xk8, .int xk9, .int xk10, .int xk11, .int xk12, .int xk13, .int xk14, .int xk15, .long xk16, .int xk17, .int mu])), (vi, .inr (8, [.int xu0, .int xu1, .int xu2, .int xu3])), (tr, .inr (8, [.int xz0, .int xz1, .int xz2, .int xz3])), (bk, .inr (0, [.ref sa, .ref bb, .int us])), (sa, .inl (cS, 32, .inr (.inr (.inr (.inr g)))))]) hD [4, 0, 1, 2, 3] (by decide +kernel) rfl
    have hK9 := hK.sub (tys' := []) [] rfl
    exact W.vret hx hb hr (fun t ht hW => ⟨⟨((([(h, .inr (1, [.ref bk, .ref vi, .ref tr, .int xk3, .int j50_h_4, .int j50_h_5, .int j50_h_6, .int xk7, .int xk8, .int xk9, .int xk10, .int xk11, .int xk12, .int xk13, .int xk14, .int xk15, .long xk16, .int xk17, .int mu])), (vi, .inr (8, [.int xu0, .int xu1, .int xu2, .int xu3])), (tr, .inr (8, [.int xz0, .int xz1, .int xz2, .int xz3])), (bk, .inr (0, [.ref sa, .ref bb, .int us])), (sa, .inl (cS, 32, .inr (.inr (.inr (.inr g)))))] : va_W) ++ famN 32 ad le tu vo sr lo fr), []), rfl, ⟨j50_h_4, j50_h_5, j50_h_6, xk7, xk8, xk9, xk17, xk16, xu2, xz2, rfl⟩, by rw [ht]; exact hP9, va_K.moved hW.alike hK9, hD9⟩, hS.F ht⟩) hS.2.2 dX1_takeNote_57
  refine lv_iload_n hx hb dX1_takeNote_11 rfl (lv_at hl 0 rfl) ?_
  refine lv_if_le (tgt := 50) hx hb dX1_takeNote_12 (by decide) (fun c_12 => ?_) (fun c_12 => ?_)
  · exact LP50 xk4 xk5 xk6  _ _ hP hD hS _ (lv_sub hl [1] rfl)
  refine lv_aload_n hx hb dX1_takeNote_15 rfl (lv_at hl 1 rfl) ?_
  refine lv_iload_n hx hb dX1_takeNote_16 rfl (lv_at hl 0 rfl) ?_
  refine va_put (D := (dC, dI)) (ci := 1) (v := .int tv_9) (ty := tyX1 4) (C := RX1) (T := TX1) (N := 19) hx hb hts iwX1 tyX1 tyX1_ok nmX1 hown hK hP hD hS 0 rfl rfl 4 (by decide) (hts (.fieldLink RX1 32 "ModulePlayer$Channel" "sample" "I") (List.mem_cons_of_mem _ kw_145)) (fun _ h9 => h9) rfl (by decide +kernel) (rfl) (rfl) (Nat.le_of_ble_eq_true rfl) dX1_takeNote_17 (fun H locs hP hD hS => ?_)
  have hP : va_P (dC, dI) vwCl (([(h, .inr (1, [.ref bk, .ref vi, .ref tr, .int xk3, .int tv_9, .int xk5, .int xk6, .int xk7, .int xk8, .int xk9, .int xk10, .int xk11, .int xk12, .int xk13, .int xk14, .int xk15, .long xk16, .int xk17, .int mu])), (vi, .inr (8, [.int xu0, .int xu1, .int xu2, .int xu3])), (tr, .inr (8, [.int xz0, .int xz1, .int xz2, .int xz3])), (bk, .inr (0, [.ref sa, .ref bb, .int us])), (sa, .inl (cS, 32, .inr (.inr (.inr (.inr g)))))] : va_W) ++ famN 32 ad le tu vo sr lo fr) H := hP
  have hD : va_D A (([(h, .inr (1, [.ref bk, .ref vi, .ref tr, .int xk3, .int tv_9, .int xk5, .int xk6, .int xk7, .int xk8, .int xk9, .int xk10, .int xk11, .int xk12, .int xk13, .int xk14, .int xk15, .long xk16, .int xk17, .int mu])), (vi, .inr (8, [.int xu0, .int xu1, .int xu2, .int xu3])), (tr, .inr (8, [.int xz0, .int xz1, .int xz2, .int xz3])), (bk, .inr (0, [.ref sa, .ref bb, .int us])), (sa, .inl (cS, 32, .inr (.inr (.inr (.inr g)))))] : va_W) ++ famN 32 ad le tu vo sr lo fr) := hD
  refine lv_aload_n hx hb dX1_takeNote_20 rfl (lv_at hl 1 rfl) ?_
  refine lv_aload_n hx hb dX1_takeNote_21 rfl (lv_at hl 1 rfl) ?_
  refine va_get (D := (dC, dI)) (ci := 1) (v := .ref bk) (C := RX1) (T := TX1) (N := 19) hx hb hts iwX1 hown hK hP 0 rfl rfl 0 (by decide) (hts (.fieldLink RX1 21 "ModulePlayer$Channel" "bank" "LModulePlayer$Bank;") (List.mem_cons_of_mem _ kw_89)) (fun _ h9 => h9) rfl dX1_takeNote_22 ?_
  refine lv_iload_n hx hb dX1_takeNote_25 rfl (lv_at hl 0 rfl) ?_
  refine g_callqQ (X := [(h, .inr (1, [.ref bk, .ref vi, .ref tr, .int xk3, .int tv_9, .int xk5, .int xk6, .int xk7, .int xk8, .int xk9, .int xk10, .int xk11, .int xk12, .int xk13, .int xk14, .int xk15, .long xk16, .int xk17, .int mu])), (vi, .inr (8, [.int xu0, .int xu1, .int xu2, .int xu3])), (tr, .inr (8, [.int xz0, .int xz1, .int xz2, .int xz3])), (bk, .inr (0, [.ref sa, .ref bb, .int us])), (sa, .inl (cS, 32, .inr (.inr (.inr (.inr g)))))]) (wr := [(h, .inr (1, [.ref bk, .ref vi, .ref tr, .int xk3, .int tv_9, .int xk5, .int xk6, .int xk7, .int xk8, .int xk9, .int xk10, .int xk11, .int xk12, .int xk13, .int xk14, .int xk15, .long xk16, .int xk17, .int mu])), (vi, .inr (8, [.int xu0, .int xu1, .int xu2, .int xu3])), (tr, .inr (8, [.int xz0, .int xz1, .int xz2, .int xz3]))]) (va_runV (As := [.int tv_9]) (rest := [.ref h]) ⟨hx, hb, hml, hown, hts⟩ (k_getA l dC dI H.size bk sa bb us ad cS g tv_9 (hg)) (cwV 1 hts (gG_V kw_694 kw_405 kw_406 kw_22 kw_407) rfl rfl rfl (by decide +kernel) ⟨Nat.le_of_ble_eq_true rfl, Nat.le_of_ble_eq_true rfl⟩) (g_preV (ws := [(h, .inr (1, [.ref bk, .ref vi, .ref tr, .int xk3, .int tv_9, .int xk5, .int xk6, .int xk7, .int xk8, .int xk9, .int xk10, .int xk11, .int xk12, .int xk13, .int xk14, .int xk15, .long xk16, .int xk17, .int mu])), (vi, .inr (8, [.int xu0, .int xu1, .int xu2, .int xu3])), (tr, .inr (8, [.int xz0, .int xz1, .int xz2, .int xz3])), (bk, .inr (0, [.ref sa, .ref bb, .int us])), (sa, .inl (cS, 32, .inr (.inr (.inr (.inr g)))))]) (C := RX0) (T := TX0) (N := 3) hP.left hD.left hK hS hA hN hZ (q0 := 3) rfl rfl [3, 4] (by decide +kernel) rfl [0] rfl) rfl rfl hl.1 rfl (lv_room (Nat.le_of_ble_eq_true rfl)) dX1_takeNote_26 ⟨Nat.le_of_ble_eq_true rfl, Nat.le_of_ble_eq_true rfl⟩) hP hD hK hS hA [3, 4] [0, 1, 2] rfl rfl (by decide +kernel) (by decide +kernel) (fun r_26 w ty1 H locs hw_26 hP hD _ hS => ?_)
  rcases hw_26 with ⟨kf_26, hu, hr_26, hkf_26⟩
  cases hu
  have hP : va_P (dC, dI) vwCl (([(h, .inr (1, [.ref bk, .ref vi, .ref tr, .int xk3, .int tv_9, .int xk5, .int xk6, .int xk7, .int xk8, .int xk9, .int xk10, .int xk11, .int xk12, .int xk13, .int xk14, .int xk15, .long xk16, .int xk17, .int mu])), (vi, .inr (8, [.int xu0, .int xu1, .int xu2, .int xu3])), (tr, .inr (8, [.int xz0, .int xz1, .int xz2, .int xz3])), (bk, .inr (0, [.ref sa, .ref bb, .int us])), (sa, .inl (cS, 32, .inr (.inr (.inr (.inr g)))))] : va_W) ++ famN 32 ad le tu vo sr lo fr) H := hP
  have hD : va_D A (([(h, .inr (1, [.ref bk, .ref vi, .ref tr, .int xk3, .int tv_9, .int xk5, .int xk6, .int xk7, .int xk8, .int xk9, .int xk10, .int xk11, .int xk12, .int xk13, .int xk14, .int xk15, .long xk16, .int xk17, .int mu])), (vi, .inr (8, [.int xu0, .int xu1, .int xu2, .int xu3])), (tr, .inr (8, [.int xz0, .int xz1, .int xz2, .int xz3])), (bk, .inr (0, [.ref sa, .ref bb, .int us])), (sa, .inl (cS, 32, .inr (.inr (.inr (.inr g)))))] : va_W) ++ famN 32 ad le tu vo sr lo fr) := hD
  subst hr_26
  refine W.eq (g2 := F0 m 29 ls [.ref (ad kf_26), .ref h]) rfl ?_
  refine va_get (D := (dC, dI)) (ci := 5) (v := .int (vo kf_26)) (C := RX5) (T := TX5) (N := 6) hx hb hts iwX5 hown hK hP _ (fam_at (k := kf_26) (hkf_26)) rfl 2 (by decide) (hts (.fieldLink RX1 117 "ModulePlayer$Sample" "volume" "I") (List.mem_cons_of_mem _ kw_691)) (fun _ h9 => h9) rfl dX1_takeNote_29 ?_
  refine lv_topi (fun tv_29 etv_29 => ?_)
  refine va_put (D := (dC, dI)) (ci := 1) (v := .int tv_29) (ty := tyX1 5) (C := RX1) (T := TX1) (N := 19) hx hb hts iwX1 tyX1 tyX1_ok nmX1 hown hK hP hD hS 0 rfl rfl 5 (by decide) (hts (.fieldLink RX1 35 "ModulePlayer$Channel" "volume" "I") (List.mem_cons_of_mem _ kw_146)) (fun _ h9 => h9) rfl (by decide +kernel) (rfl) (rfl) (Nat.le_of_ble_eq_true rfl) dX1_takeNote_32 (fun H locs hP hD hS => ?_)
  have hP : va_P (dC, dI) vwCl (([(h, .inr (1, [.ref bk, .ref vi, .ref tr, .int xk3, .int tv_9, .int tv_29, .int xk6, .int xk7, .int xk8, .int xk9, .int xk10, .int xk11, .int xk12, .int xk13, .int xk14, .int xk15, .long xk16, .int xk17, .int mu])), (vi, .inr (8, [.int xu0, .int xu1, .int xu2, .int xu3])), (tr, .inr (8, [.int xz0, .int xz1, .int xz2, .int xz3])), (bk, .inr (0, [.ref sa, .ref bb, .int us])), (sa, .inl (cS, 32, .inr (.inr (.inr (.inr g)))))] : va_W) ++ famN 32 ad le tu vo sr lo fr) H := hP
  have hD : va_D A (([(h, .inr (1, [.ref bk, .ref vi, .ref tr, .int xk3, .int tv_9, .int tv_29, .int xk6, .int xk7, .int xk8, .int xk9, .int xk10, .int xk11, .int xk12, .int xk13, .int xk14, .int xk15, .long xk16, .int xk17, .int mu])), (vi, .inr (8, [.int xu0, .int xu1, .int xu2, .int xu3])), (tr, .inr (8, [.int xz0, .int xz1, .int xz2, .int xz3])), (bk, .inr (0, [.ref sa, .ref bb, .int us])), (sa, .inl (cS, 32, .inr (.inr (.inr (.inr g)))))] : va_W) ++ famN 32 ad le tu vo sr lo fr) := hD
  refine lv_aload_n hx hb dX1_takeNote_35 rfl (lv_at hl 1 rfl) ?_
  refine lv_aload_n hx hb dX1_takeNote_36 rfl (lv_at hl 1 rfl) ?_
  refine va_get (D := (dC, dI)) (ci := 1) (v := .ref bk) (C := RX1) (T := TX1) (N := 19) hx hb hts iwX1 hown hK hP 0 rfl rfl 0 (by decide) (hts (.fieldLink RX1 21 "ModulePlayer$Channel" "bank" "LModulePlayer$Bank;") (List.mem_cons_of_mem _ kw_89)) (fun _ h9 => h9) rfl dX1_takeNote_37 ?_
  refine lv_iload_n hx hb dX1_takeNote_40 rfl (lv_at hl 0 rfl) ?_
  refine g_callqQ (X := [(h, .inr (1, [.ref bk, .ref vi, .ref tr, .int xk3, .int tv_9, .int tv_29, .int xk6, .int xk7, .int xk8, .int xk9, .int xk10, .int xk11, .int xk12, .int xk13, .int xk14, .int xk15, .long xk16, .int xk17, .int mu])), (vi, .inr (8, [.int xu0, .int xu1, .int xu2, .int xu3])), (tr, .inr (8, [.int xz0, .int xz1, .int xz2, .int xz3])), (bk, .inr (0, [.ref sa, .ref bb, .int us])), (sa, .inl (cS, 32, .inr (.inr (.inr (.inr g)))))]) (wr := [(h, .inr (1, [.ref bk, .ref vi, .ref tr, .int xk3, .int tv_9, .int tv_29, .int xk6, .int xk7, .int xk8, .int xk9, .int xk10, .int xk11, .int xk12, .int xk13, .int xk14, .int xk15, .long xk16, .int xk17, .int mu])), (vi, .inr (8, [.int xu0, .int xu1, .int xu2, .int xu3])), (tr, .inr (8, [.int xz0, .int xz1, .int xz2, .int xz3]))]) (va_runV (As := [.int tv_9]) (rest := [.ref h]) ⟨hx, hb, hml, hown, hts⟩ (k_getA l dC dI H.size bk sa bb us ad cS g tv_9 (hg)) (cwV 1 hts (gG_V kw_694 kw_405 kw_406 kw_22 kw_407) rfl rfl rfl (by decide +kernel) ⟨Nat.le_of_ble_eq_true rfl, Nat.le_of_ble_eq_true rfl⟩) (g_preV (ws := [(h, .inr (1, [.ref bk, .ref vi, .ref tr, .int xk3, .int tv_9, .int tv_29, .int xk6, .int xk7, .int xk8, .int xk9, .int xk10, .int xk11, .int xk12, .int xk13, .int xk14, .int xk15, .long xk16, .int xk17, .int mu])), (vi, .inr (8, [.int xu0, .int xu1, .int xu2, .int xu3])), (tr, .inr (8, [.int xz0, .int xz1, .int xz2, .int xz3])), (bk, .inr (0, [.ref sa, .ref bb, .int us])), (sa, .inl (cS, 32, .inr (.inr (.inr (.inr g)))))]) (C := RX0) (T := TX0) (N := 3) hP.left hD.left hK hS hA hN hZ (q0 := 3) rfl rfl [3, 4] (by decide +kernel) rfl [0] rfl) rfl rfl hl.1 rfl (lv_room (Nat.le_of_ble_eq_true rfl)) dX1_takeNote_41 ⟨Nat.le_of_ble_eq_true rfl, Nat.le_of_ble_eq_true rfl⟩) hP hD hK hS hA [3, 4] [0, 1, 2] rfl rfl (by decide +kernel) (by decide +kernel) (fun r_41 w ty1 H locs hw_41 hP hD _ hS => ?_)
  rcases hw_41 with ⟨kf_41, hu, hr_41, hkf_41⟩
  cases hu
  have hP : va_P (dC, dI) vwCl (([(h, .inr (1, [.ref bk, .ref vi, .ref tr, .int xk3, .int tv_9, .int tv_29, .int xk6, .int xk7, .int xk8, .int xk9, .int xk10, .int xk11, .int xk12, .int xk13, .int xk14, .int xk15, .long xk16, .int xk17, .int mu])), (vi, .inr (8, [.int xu0, .int xu1, .int xu2, .int xu3])), (tr, .inr (8, [.int xz0, .int xz1, .int xz2, .int xz3])), (bk, .inr (0, [.ref sa, .ref bb, .int us])), (sa, .inl (cS, 32, .inr (.inr (.inr (.inr g)))))] : va_W) ++ famN 32 ad le tu vo sr lo fr) H := hP
  have hD : va_D A (([(h, .inr (1, [.ref bk, .ref vi, .ref tr, .int xk3, .int tv_9, .int tv_29, .int xk6, .int xk7, .int xk8, .int xk9, .int xk10, .int xk11, .int xk12, .int xk13, .int xk14, .int xk15, .long xk16, .int xk17, .int mu])), (vi, .inr (8, [.int xu0, .int xu1, .int xu2, .int xu3])), (tr, .inr (8, [.int xz0, .int xz1, .int xz2, .int xz3])), (bk, .inr (0, [.ref sa, .ref bb, .int us])), (sa, .inl (cS, 32, .inr (.inr (.inr (.inr g)))))] : va_W) ++ famN 32 ad le tu vo sr lo fr) := hD
  subst hr_41
  refine W.eq (g2 := F0 m 44 ls [.ref (ad kf_41), .ref h]) rfl ?_
  refine va_get (D := (dC, dI)) (ci := 5) (v := .int (tu kf_41)) (C := RX5) (T := TX5) (N := 6) hx hb hts iwX5 hown hK hP _ (fam_at (k := kf_41) (hkf_41)) rfl 1 (by decide) (hts (.fieldLink RX1 120 "ModulePlayer$Sample" "tune" "I") (List.mem_cons_of_mem _ kw_692)) (fun _ h9 => h9) rfl dX1_takeNote_44 ?_
  refine lv_topi (fun tv_44 etv_44 => ?_)
  refine va_put (D := (dC, dI)) (ci := 1) (v := .int tv_44) (ty := tyX1 6) (C := RX1) (T := TX1) (N := 19) hx hb hts iwX1 tyX1 tyX1_ok nmX1 hown hK hP hD hS 0 rfl rfl 6 (by decide) (hts (.fieldLink RX1 38 "ModulePlayer$Channel" "tune" "I") (List.mem_cons_of_mem _ kw_147)) (fun _ h9 => h9) rfl (by decide +kernel) (rfl) (rfl) (Nat.le_of_ble_eq_true rfl) dX1_takeNote_47 (fun H locs hP hD hS => ?_)
  have hP : va_P (dC, dI) vwCl (([(h, .inr (1, [.ref bk, .ref vi, .ref tr, .int xk3, .int tv_9, .int tv_29, .int tv_44, .int xk7, .int xk8, .int xk9, .int xk10, .int xk11, .int xk12, .int xk13, .int xk14, .int xk15, .long xk16, .int xk17, .int mu])), (vi, .inr (8, [.int xu0, .int xu1, .int xu2, .int xu3])), (tr, .inr (8, [.int xz0, .int xz1, .int xz2, .int xz3])), (bk, .inr (0, [.ref sa, .ref bb, .int us])), (sa, .inl (cS, 32, .inr (.inr (.inr (.inr g)))))] : va_W) ++ famN 32 ad le tu vo sr lo fr) H := hP
  have hD : va_D A (([(h, .inr (1, [.ref bk, .ref vi, .ref tr, .int xk3, .int tv_9, .int tv_29, .int tv_44, .int xk7, .int xk8, .int xk9, .int xk10, .int xk11, .int xk12, .int xk13, .int xk14, .int xk15, .long xk16, .int xk17, .int mu])), (vi, .inr (8, [.int xu0, .int xu1, .int xu2, .int xu3])), (tr, .inr (8, [.int xz0, .int xz1, .int xz2, .int xz3])), (bk, .inr (0, [.ref sa, .ref bb, .int us])), (sa, .inl (cS, 32, .inr (.inr (.inr (.inr g)))))] : va_W) ++ famN 32 ad le tu vo sr lo fr) := hD
  exact LP50 tv_9 tv_29 tv_44  _ _ hP hD hS _ (lv_sub hl [1] rfl)

set_option maxHeartbeats 400000 in
set_option maxRecDepth 100000 in
theorem k_slidePeriod (l : Launch) (dC : Nat → ClassId) (dI : Nat → Nat → Nat) (sz : Nat) (h bk vi tr : Nat) (xk3 xk4 xk5 xk6 xk7 xk8 xk9 xk10 xk11 xk12 xk13 xk14 xk15 xk17 mu : Int32) (xk16 : Int64) (v : Int32) : Met l yX1_slidePeriod (wsG (.code yX1_slidePeriod cX1_slidePeriod 2 none)) ({ frames := 1, cells := 0, slots := 0, locals := 22 }) (va_Pc [.ref h, .int v] (gP (dC, dI) [] [(h, .inr (1, [.ref bk, .ref vi, .ref tr, .int xk3, .int xk4, .int xk5, .int xk6, .int xk7, .int xk8, .int xk9, .int xk10, .int xk11, .int xk12, .int xk13, .int xk14, .int xk15, .long xk16, .int xk17, .int mu]))] sz)) (va_Qv (fun u : va_W × gT => ∃ (yk7 : Int32), u = ([(h, .inr (1, [.ref bk, .ref vi, .ref tr, .int xk3, .int xk4, .int xk5, .int xk6, .int yk7, .int xk8, .int xk9, .int xk10, .int xk11, .int xk12, .int xk13, .int xk14, .int xk15, .long xk16, .int xk17, .int mu]))], [])) (gB (dC, dI) (va_A [(h, .inr (1, [.ref bk, .ref vi, .ref tr, .int xk3, .int xk4, .int xk5, .int xk6, .int xk7, .int xk8, .int xk9, .int xk10, .int xk11, .int xk12, .int xk13, .int xk14, .int xk15, .long xk16, .int xk17, .int mu]))] sz)) (va_A [(h, .inr (1, [.ref bk, .ref vi, .ref tr, .int xk3, .int xk4, .int xk5, .int xk6, .int xk7, .int xk8, .int xk9, .int xk10, .int xk11, .int xk12, .int xk13, .int xk14, .int xk15, .long xk16, .int xk17, .int mu]))] sz)) 0 0 (va_A [(h, .inr (1, [.ref bk, .ref vi, .ref tr, .int xk3, .int xk4, .int xk5, .int xk6, .int xk7, .int xk8, .int xk9, .int xk10, .int xk11, .int xk12, .int xk13, .int xk14, .int xk15, .long xk16, .int xk17, .int mu]))] sz) := by
  refine Met.ofW (cc := cX1_slidePeriod) (maxL := 2) (ret := none) (by decide) rfl ?_
  intro p e s m args below meth c s₁ B hml hv
  obtain ⟨rfl, hsz, hP, hK, hD0, hN, hZ⟩ := hv
  have hx := B.exec
  have hb := B.bytes
  have hr := B.returns
  have hts := atoms_spec (ws := (wsG (.code yX1_slidePeriod cX1_slidePeriod 2 none))) B.pre
  have hown : s.vm.findClass RX1 = some m.cls := findClass_of_methodNamed B.named
  have hlocks := B.notSynchronized
  subst hsz
  have hD := hD0.self (sz := s.heap.size)
  generalize hAe : va_A [(h, .inr (1, [.ref bk, .ref vi, .ref tr, .int xk3, .int xk4, .int xk5, .int xk6, .int xk7, .int xk8, .int xk9, .int xk10, .int xk11, .int xk12, .int xk13, .int xk14, .int xk15, .long xk16, .int xk17, .int mu]))] s.heap.size = A at hD hZ ⊢
  have hA : ∀ q : Nat, s.heap.size ≤ q → A q := fun q h => by rw [← hAe]; exact Or.inr h
  have hl := lv_entry ([.ref h, .int v]) (n := 2) (Nat.le_of_ble_eq_true rfl)
  rw [lg_entry_eq]
  generalize (lg_sl ([.ref h, .int v]) ++ List.replicate (2 - (lg_sl ([.ref h, .int v])).length) Slot.unset).toArray = ls at hl ⊢
  have hl : lv_has ls 2 [(0, .ref h), (1, .int v)] := hl
  refine g_start (A := A) hP (fun H locs hP hS => ?_)
  refine lv_aload_n hx hb dX1_slidePeriod_0 rfl (lv_at hl 0 rfl) ?_
  refine va_get (D := (dC, dI)) (ci := 1) (v := .int xk7) (C := RX1) (T := TX1) (N := 19) hx hb hts iwX1 hown hK hP 0 rfl rfl 7 (by decide) (hts (.fieldLink RX1 41 "ModulePlayer$Channel" "period" "I") (List.mem_cons_of_mem _ kw_148)) (fun _ h9 => h9) rfl dX1_slidePeriod_1 ?_
  refine lv_if_eq (tgt := 25) hx hb dX1_slidePeriod_4 (by decide) (fun c_4 => ?_) (fun c_4 => ?_)
  · have hP9 := hP
    have hD9 := hD
    have hK9 := hK.sub (tys' := []) [] rfl
    exact W.vret hx hb hr (fun t ht hW => ⟨⟨([(h, .inr (1, [.ref bk, .ref vi, .ref tr, .int xk3, .int xk4, .int xk5, .int xk6, .int xk7, .int xk8, .int xk9, .int xk10, .int xk11, .int xk12, .int xk13, .int xk14, .int xk15, .long xk16, .int xk17, .int mu]))], []), rfl, ⟨xk7, rfl⟩, by rw [ht]; exact hP9, va_K.moved hW.alike hK9, hD9⟩, hS.F ht⟩) hS.2.2 dX1_slidePeriod_25
  refine lv_aload_n hx hb dX1_slidePeriod_7 rfl (lv_at hl 0 rfl) ?_
  refine lv_aload_n hx hb dX1_slidePeriod_8 rfl (lv_at hl 0 rfl) ?_
  refine va_get (D := (dC, dI)) (ci := 1) (v := .int xk7) (C := RX1) (T := TX1) (N := 19) hx hb hts iwX1 hown hK hP 0 rfl rfl 7 (by decide) (hts (.fieldLink RX1 41 "ModulePlayer$Channel" "period" "I") (List.mem_cons_of_mem _ kw_148)) (fun _ h9 => h9) rfl dX1_slidePeriod_9 ?_
  refine lv_iload_n hx hb dX1_slidePeriod_12 rfl (lv_at hl 1 rfl) ?_
  refine lv_iadd hx hb dX1_slidePeriod_13 ?_
  refine lv_topi (fun tv_13 etv_13 => ?_)
  refine lv_bipush (v := 113) hx hb dX1_slidePeriod_14 (by decide) ?_
  refine lv_sipush (v := 856) hx hb dX1_slidePeriod_16 (by decide) ?_
  refine g_calli (wr := [(h, .inr (1, [.ref bk, .ref vi, .ref tr, .int xk3, .int xk4, .int xk5, .int xk6, .int xk7, .int xk8, .int xk9, .int xk10, .int xk11, .int xk12, .int xk13, .int xk14, .int xk15, .long xk16, .int xk17, .int mu]))]) (va_runSN (As := [.int tv_13, .int 113, .int 856]) (rest := [.ref h]) ⟨hx, hb, hml, hown, hts⟩ (c_limit l dC dI H.size tv_13 113 856 ) ⟨va_cnB 3 hts (wsG_good kw_95) rfl rfl rfl (hN.1 (.methodLinkNest RX1 133 yX10_limit RX10) (by decide +kernel)) (hts (.initialized RX10) (List.mem_cons_of_mem _ kw_2)) (by decide +kernel) ⟨Nat.le_of_ble_eq_true rfl, Nat.le_of_ble_eq_true rfl⟩, (hts (.static yX10_limit) (List.mem_cons_of_mem _ kw_94)), trivial⟩ (g_preS hP hD hK hS hA hN hZ [] (by decide) rfl [] rfl) rfl rfl hl.1 rfl (lv_room (Nat.le_of_ble_eq_true rfl)) dX1_slidePeriod_19 ⟨Nat.le_of_ble_eq_true rfl, Nat.le_of_ble_eq_true rfl⟩) hP hD hK hS hA [] [0] rfl rfl (by decide +kernel) (by decide +kernel) (fun r_19 w ty1 H locs hw_19 hP hD _ hS => ?_)
  rcases hw_19 with ⟨hu, hr_19⟩
  cases hu
  have hP : va_P (dC, dI) vwCl [(h, .inr (1, [.ref bk, .ref vi, .ref tr, .int xk3, .int xk4, .int xk5, .int xk6, .int xk7, .int xk8, .int xk9, .int xk10, .int xk11, .int xk12, .int xk13, .int xk14, .int xk15, .long xk16, .int xk17, .int mu]))] H := hP
  have hD : va_D A [(h, .inr (1, [.ref bk, .ref vi, .ref tr, .int xk3, .int xk4, .int xk5, .int xk6, .int xk7, .int xk8, .int xk9, .int xk10, .int xk11, .int xk12, .int xk13, .int xk14, .int xk15, .long xk16, .int xk17, .int mu]))] := hD
  refine g_topi (y := limF tv_13 113 856) hr_19 ?_
  refine va_put (D := (dC, dI)) (ci := 1) (v := .int (limF tv_13 113 856)) (ty := tyX1 7) (C := RX1) (T := TX1) (N := 19) hx hb hts iwX1 tyX1 tyX1_ok nmX1 hown hK hP hD hS 0 rfl rfl 7 (by decide) (hts (.fieldLink RX1 41 "ModulePlayer$Channel" "period" "I") (List.mem_cons_of_mem _ kw_148)) (fun _ h9 => h9) rfl (by decide +kernel) (rfl) (rfl) (Nat.le_of_ble_eq_true rfl) dX1_slidePeriod_22 (fun H locs hP hD hS => ?_)
  have hP : va_P (dC, dI) vwCl [(h, .inr (1, [.ref bk, .ref vi, .ref tr, .int xk3, .int xk4, .int xk5, .int xk6, .int (limF tv_13 113 856), .int xk8, .int xk9, .int xk10, .int xk11, .int xk12, .int xk13, .int xk14, .int xk15, .long xk16, .int xk17, .int mu]))] H := hP
  have hD : va_D A [(h, .inr (1, [.ref bk, .ref vi, .ref tr, .int xk3, .int xk4, .int xk5, .int xk6, .int (limF tv_13 113 856), .int xk8, .int xk9, .int xk10, .int xk11, .int xk12, .int xk13, .int xk14, .int xk15, .long xk16, .int xk17, .int mu]))] := hD
  have hP9 := hP
  have hD9 := hD
  have hK9 := hK.sub (tys' := []) [] rfl
  exact W.vret hx hb hr (fun t ht hW => ⟨⟨([(h, .inr (1, [.ref bk, .ref vi, .ref tr, .int xk3, .int xk4, .int xk5, .int xk6, .int (limF tv_13 113 856), .int xk8, .int xk9, .int xk10, .int xk11, .int xk12, .int xk13, .int xk14, .int xk15, .long xk16, .int xk17, .int mu]))], []), rfl, ⟨(limF tv_13 113 856), rfl⟩, by rw [ht]; exact hP9, va_K.moved hW.alike hK9, hD9⟩, hS.F ht⟩) hS.2.2 dX1_slidePeriod_25

set_option maxHeartbeats 400000 in
set_option maxRecDepth 100000 in
theorem k_slideVolume (l : Launch) (dC : Nat → ClassId) (dI : Nat → Nat → Nat) (sz : Nat) (h bk vi tr : Nat) (xk3 xk4 xk5 xk6 xk7 xk8 xk9 xk10 xk11 xk12 xk13 xk14 xk15 xk17 mu : Int32) (xk16 : Int64) (v : Int32) : Met l yX1_slideVolume (wsG (.code yX1_slideVolume cX1_slideVolume 2 none)) ({ frames := 1, cells := 0, slots := 0, locals := 22 }) (va_Pc [.ref h, .int v] (gP (dC, dI) [] [(h, .inr (1, [.ref bk, .ref vi, .ref tr, .int xk3, .int xk4, .int xk5, .int xk6, .int xk7, .int xk8, .int xk9, .int xk10, .int xk11, .int xk12, .int xk13, .int xk14, .int xk15, .long xk16, .int xk17, .int mu]))] sz)) (va_Qv (fun u : va_W × gT => ∃ (yk5 : Int32), u = ([(h, .inr (1, [.ref bk, .ref vi, .ref tr, .int xk3, .int xk4, .int yk5, .int xk6, .int xk7, .int xk8, .int xk9, .int xk10, .int xk11, .int xk12, .int xk13, .int xk14, .int xk15, .long xk16, .int xk17, .int mu]))], [])) (gB (dC, dI) (va_A [(h, .inr (1, [.ref bk, .ref vi, .ref tr, .int xk3, .int xk4, .int xk5, .int xk6, .int xk7, .int xk8, .int xk9, .int xk10, .int xk11, .int xk12, .int xk13, .int xk14, .int xk15, .long xk16, .int xk17, .int mu]))] sz)) (va_A [(h, .inr (1, [.ref bk, .ref vi, .ref tr, .int xk3, .int xk4, .int xk5, .int xk6, .int xk7, .int xk8, .int xk9, .int xk10, .int xk11, .int xk12, .int xk13, .int xk14, .int xk15, .long xk16, .int xk17, .int mu]))] sz)) 0 0 (va_A [(h, .inr (1, [.ref bk, .ref vi, .ref tr, .int xk3, .int xk4, .int xk5, .int xk6, .int xk7, .int xk8, .int xk9, .int xk10, .int xk11, .int xk12, .int xk13, .int xk14, .int xk15, .long xk16, .int xk17, .int mu]))] sz) := by
  refine Met.ofW (cc := cX1_slideVolume) (maxL := 2) (ret := none) (by decide) rfl ?_
  intro p e s m args below meth c s₁ B hml hv
  obtain ⟨rfl, hsz, hP, hK, hD0, hN, hZ⟩ := hv
  have hx := B.exec
  have hb := B.bytes
  have hr := B.returns
  have hts := atoms_spec (ws := (wsG (.code yX1_slideVolume cX1_slideVolume 2 none))) B.pre
  have hown : s.vm.findClass RX1 = some m.cls := findClass_of_methodNamed B.named
  have hlocks := B.notSynchronized
  subst hsz
  have hD := hD0.self (sz := s.heap.size)
  generalize hAe : va_A [(h, .inr (1, [.ref bk, .ref vi, .ref tr, .int xk3, .int xk4, .int xk5, .int xk6, .int xk7, .int xk8, .int xk9, .int xk10, .int xk11, .int xk12, .int xk13, .int xk14, .int xk15, .long xk16, .int xk17, .int mu]))] s.heap.size = A at hD hZ ⊢
  have hA : ∀ q : Nat, s.heap.size ≤ q → A q := fun q h => by rw [← hAe]; exact Or.inr h
  have hl := lv_entry ([.ref h, .int v]) (n := 2) (Nat.le_of_ble_eq_true rfl)
  rw [lg_entry_eq]
  generalize (lg_sl ([.ref h, .int v]) ++ List.replicate (2 - (lg_sl ([.ref h, .int v])).length) Slot.unset).toArray = ls at hl ⊢
  have hl : lv_has ls 2 [(0, .ref h), (1, .int v)] := hl
  refine g_start (A := A) hP (fun H locs hP hS => ?_)
  refine lv_aload_n hx hb dX1_slideVolume_0 rfl (lv_at hl 0 rfl) ?_
  refine lv_aload_n hx hb dX1_slideVolume_1 rfl (lv_at hl 0 rfl) ?_
  refine va_get (D := (dC, dI)) (ci := 1) (v := .int xk5) (C := RX1) (T := TX1) (N := 19) hx hb hts iwX1 hown hK hP 0 rfl rfl 5 (by decide) (hts (.fieldLink RX1 35 "ModulePlayer$Channel" "volume" "I") (List.mem_cons_of_mem _ kw_146)) (fun _ h9 => h9) rfl dX1_slideVolume_2 ?_
  refine lv_iload_n hx hb dX1_slideVolume_5 rfl (lv_at hl 1 rfl) ?_
  refine lv_iadd hx hb dX1_slideVolume_6 ?_
  refine lv_topi (fun tv_6 etv_6 => ?_)
  refine lv_iconst (v := 0) hx hb dX1_slideVolume_7 (by decide) ?_
  refine lv_bipush (v := 64) hx hb dX1_slideVolume_8 (by decide) ?_
  refine g_calli (wr := [(h, .inr (1, [.ref bk, .ref vi, .ref tr, .int xk3, .int xk4, .int xk5, .int xk6, .int xk7, .int xk8, .int xk9, .int xk10, .int xk11, .int xk12, .int xk13, .int xk14, .int xk15, .long xk16, .int xk17, .int mu]))]) (va_runSN (As := [.int tv_6, .int 0, .int 64]) (rest := [.ref h]) ⟨hx, hb, hml, hown, hts⟩ (c_limit l dC dI H.size tv_6 0 64 ) ⟨va_cnB 3 hts (wsG_good kw_95) rfl rfl rfl (hN.1 (.methodLinkNest RX1 133 yX10_limit RX10) (by decide +kernel)) (hts (.initialized RX10) (List.mem_cons_of_mem _ kw_2)) (by decide +kernel) ⟨Nat.le_of_ble_eq_true rfl, Nat.le_of_ble_eq_true rfl⟩, (hts (.static yX10_limit) (List.mem_cons_of_mem _ kw_94)), trivial⟩ (g_preS hP hD hK hS hA hN hZ [] (by decide) rfl [] rfl) rfl rfl hl.1 rfl (lv_room (Nat.le_of_ble_eq_true rfl)) dX1_slideVolume_10 ⟨Nat.le_of_ble_eq_true rfl, Nat.le_of_ble_eq_true rfl⟩) hP hD hK hS hA [] [0] rfl rfl (by decide +kernel) (by decide +kernel) (fun r_10 w ty1 H locs hw_10 hP hD _ hS => ?_)
  rcases hw_10 with ⟨hu, hr_10⟩
  cases hu
  have hP : va_P (dC, dI) vwCl [(h, .inr (1, [.ref bk, .ref vi, .ref tr, .int xk3, .int xk4, .int xk5, .int xk6, .int xk7, .int xk8, .int xk9, .int xk10, .int xk11, .int xk12, .int xk13, .int xk14, .int xk15, .long xk16, .int xk17, .int mu]))] H := hP
  have hD : va_D A [(h, .inr (1, [.ref bk, .ref vi, .ref tr, .int xk3, .int xk4, .int xk5, .int xk6, .int xk7, .int xk8, .int xk9, .int xk10, .int xk11, .int xk12, .int xk13, .int xk14, .int xk15, .long xk16, .int xk17, .int mu]))] := hD
  refine g_topi (y := limF tv_6 0 64) hr_10 ?_
  refine va_put (D := (dC, dI)) (ci := 1) (v := .int (limF tv_6 0 64)) (ty := tyX1 5) (C := RX1) (T := TX1) (N := 19) hx hb hts iwX1 tyX1 tyX1_ok nmX1 hown hK hP hD hS 0 rfl rfl 5 (by decide) (hts (.fieldLink RX1 35 "ModulePlayer$Channel" "volume" "I") (List.mem_cons_of_mem _ kw_146)) (fun _ h9 => h9) rfl (by decide +kernel) (rfl) (rfl) (Nat.le_of_ble_eq_true rfl) dX1_slideVolume_13 (fun H locs hP hD hS => ?_)
  have hP : va_P (dC, dI) vwCl [(h, .inr (1, [.ref bk, .ref vi, .ref tr, .int xk3, .int xk4, .int (limF tv_6 0 64), .int xk6, .int xk7, .int xk8, .int xk9, .int xk10, .int xk11, .int xk12, .int xk13, .int xk14, .int xk15, .long xk16, .int xk17, .int mu]))] H := hP
  have hD : va_D A [(h, .inr (1, [.ref bk, .ref vi, .ref tr, .int xk3, .int xk4, .int (limF tv_6 0 64), .int xk6, .int xk7, .int xk8, .int xk9, .int xk10, .int xk11, .int xk12, .int xk13, .int xk14, .int xk15, .long xk16, .int xk17, .int mu]))] := hD
  have hP9 := hP
  have hD9 := hD
  have hK9 := hK.sub (tys' := []) [] rfl
  exact W.vret hx hb hr (fun t ht hW => ⟨⟨([(h, .inr (1, [.ref bk, .ref vi, .ref tr, .int xk3, .int xk4, .int (limF tv_6 0 64), .int xk6, .int xk7, .int xk8, .int xk9, .int xk10, .int xk11, .int xk12, .int xk13, .int xk14, .int xk15, .long xk16, .int xk17, .int mu]))], []), rfl, ⟨(limF tv_6 0 64), rfl⟩, by rw [ht]; exact hP9, va_K.moved hW.alike hK9, hD9⟩, hS.F ht⟩) hS.2.2 dX1_slideVolume_16

set_option maxHeartbeats 400000 in
set_option maxRecDepth 100000 in
theorem k_goToTarget (l : Launch) (dC : Nat → ClassId) (dI : Nat → Nat → Nat) (sz : Nat) (h bk vi tr : Nat) (xk3 xk4 xk5 xk6 xk7 xk8 xk9 xk10 xk11 xk12 xk13 xk14 xk15 xk17 mu : Int32) (xk16 : Int64) : Met l yX1_goToTarget (wsG (.code yX1_goToTarget cX1_goToTarget 1 none)) ({ frames := 2, cells := 0, slots := 0, locals := 43 }) (va_Pc [.ref h] (gP (dC, dI) [] [(h, .inr (1, [.ref bk, .ref vi, .ref tr, .int xk3, .int xk4, .int xk5, .int xk6, .int xk7, .int xk8, .int xk9, .int xk10, .int xk11, .int xk12, .int xk13, .int xk14, .int xk15, .long xk16, .int xk17, .int mu]))] sz)) (va_Qv (fun u : va_W × gT => ∃ (yk7 : Int32), u = ([(h, .inr (1, [.ref bk, .ref vi, .ref tr, .int xk3, .int xk4, .int xk5, .int xk6, .int yk7, .int xk8, .int xk9, .int xk10, .int xk11, .int xk12, .int xk13, .int xk14, .int xk15, .long xk16, .int xk17, .int mu]))], [])) (gB (dC, dI) (va_A [(h, .inr (1, [.ref bk, .ref vi, .ref tr, .int xk3, .int xk4, .int xk5, .int xk6, .int xk7, .int xk8, .int xk9, .int xk10, .int xk11, .int xk12, .int xk13, .int xk14, .int xk15, .long xk16, .int xk17, .int mu]))] sz)) (va_A [(h, .inr (1, [.ref bk, .ref vi, .ref tr, .int xk3, .int xk4, .int xk5, .int xk6, .int xk7, .int xk8, .int xk9, .int xk10, .int xk11, .int xk12, .int xk13, .int xk14, .int xk15, .long xk16, .int xk17, .int mu]))] sz)) 0 0 (va_A [(h, .inr (1, [.ref bk, .ref vi, .ref tr, .int xk3, .int xk4, .int xk5, .int xk6, .int xk7, .int xk8, .int xk9, .int xk10, .int xk11, .int xk12, .int xk13, .int xk14, .int xk15, .long xk16, .int xk17, .int mu]))] sz) := by
  refine Met.ofW (cc := cX1_goToTarget) (maxL := 1) (ret := none) (by decide) rfl ?_
  intro p e s m args below meth c s₁ B hml hv
  obtain ⟨rfl, hsz, hP, hK, hD0, hN, hZ⟩ := hv
  have hx := B.exec
  have hb := B.bytes
  have hr := B.returns
  have hts := atoms_spec (ws := (wsG (.code yX1_goToTarget cX1_goToTarget 1 none))) B.pre
  have hown : s.vm.findClass RX1 = some m.cls := findClass_of_methodNamed B.named
  have hlocks := B.notSynchronized
  subst hsz
  have hD := hD0.self (sz := s.heap.size)
  generalize hAe : va_A [(h, .inr (1, [.ref bk, .ref vi, .ref tr, .int xk3, .int xk4, .int xk5, .int xk6, .int xk7, .int xk8, .int xk9, .int xk10, .int xk11, .int xk12, .int xk13, .int xk14, .int xk15, .long xk16, .int xk17, .int mu]))] s.heap.size = A at hD hZ ⊢
  have hA : ∀ q : Nat, s.heap.size ≤ q → A q := fun q h => by rw [← hAe]; exact Or.inr h
  have hl := lv_entry ([.ref h]) (n := 1) (Nat.le_of_ble_eq_true rfl)
  rw [lg_entry_eq]
  generalize (lg_sl ([.ref h]) ++ List.replicate (1 - (lg_sl ([.ref h])).length) Slot.unset).toArray = ls at hl ⊢
  have hl : lv_has ls 1 [(0, .ref h)] := hl
  refine g_start (A := A) hP (fun H locs hP hS => ?_)
  refine lv_aload_n hx hb dX1_goToTarget_0 rfl (lv_at hl 0 rfl) ?_
  refine va_get (D := (dC, dI)) (ci := 1) (v := .int xk9) (C := RX1) (T := TX1) (N := 19) hx hb hts iwX1 hown hK hP 0 rfl rfl 9 (by decide) (hts (.fieldLink RX1 47 "ModulePlayer$Channel" "target" "I") (List.mem_cons_of_mem _ kw_150)) (fun _ h9 => h9) rfl dX1_goToTarget_1 ?_
  refine lv_if_eq (tgt := 32) hx hb dX1_goToTarget_4 (by decide) (fun c_4 => ?_) (fun c_4 => ?_)
  · have hP9 := hP
    have hD9 := hD
    have hK9 := hK.sub (tys' := []) [] rfl
    exact W.vret hx hb hr (fun t ht hW => ⟨⟨([(h, .inr (1, [.ref bk, .ref vi, .ref tr, .int xk3, .int xk4, .int xk5, .int xk6, .int xk7, .int xk8, .int xk9, .int xk10, .int xk11, .int xk12, .int xk13, .int xk14, .int xk15, .long xk16, .int xk17, .int mu]))], []), rfl, ⟨xk7, rfl⟩, by rw [ht]; exact hP9, va_K.moved hW.alike hK9, hD9⟩, hS.F ht⟩) hS.2.2 dX1_goToTarget_32
  refine lv_aload_n hx hb dX1_goToTarget_7 rfl (lv_at hl 0 rfl) ?_
  refine lv_aload_n hx hb dX1_goToTarget_8 rfl (lv_at hl 0 rfl) ?_
  refine va_get (D := (dC, dI)) (ci := 1) (v := .int xk9) (C := RX1) (T := TX1) (N := 19) hx hb hts iwX1 hown hK hP 0 rfl rfl 9 (by decide) (hts (.fieldLink RX1 47 "ModulePlayer$Channel" "target" "I") (List.mem_cons_of_mem _ kw_150)) (fun _ h9 => h9) rfl dX1_goToTarget_9 ?_
  refine lv_aload_n hx hb dX1_goToTarget_12 rfl (lv_at hl 0 rfl) ?_
  refine va_get (D := (dC, dI)) (ci := 1) (v := .int xk7) (C := RX1) (T := TX1) (N := 19) hx hb hts iwX1 hown hK hP 0 rfl rfl 7 (by decide) (hts (.fieldLink RX1 41 "ModulePlayer$Channel" "period" "I") (List.mem_cons_of_mem _ kw_148)) (fun _ h9 => h9) rfl dX1_goToTarget_13 ?_
  refine lv_isub hx hb dX1_goToTarget_16 ?_
  refine lv_topi (fun tv_16 etv_16 => ?_)
  refine lv_aload_n hx hb dX1_goToTarget_17 rfl (lv_at hl 0 rfl) ?_
  refine va_get (D := (dC, dI)) (ci := 1) (v := .int xk10) (C := RX1) (T := TX1) (N := 19) hx hb hts iwX1 hown hK hP 0 rfl rfl 10 (by decide) (hts (.fieldLink RX1 50 "ModulePlayer$Channel" "porta" "I") (List.mem_cons_of_mem _ kw_151)) (fun _ h9 => h9) rfl dX1_goToTarget_18 ?_
  refine lv_ineg hx hb dX1_goToTarget_21 ?_
  refine lv_topi (fun tv_21 etv_21 => ?_)
  refine lv_aload_n hx hb dX1_goToTarget_22 rfl (lv_at hl 0 rfl) ?_
  refine va_get (D := (dC, dI)) (ci := 1) (v := .int xk10) (C := RX1) (T := TX1) (N := 19) hx hb hts iwX1 hown hK hP 0 rfl rfl 10 (by decide) (hts (.fieldLink RX1 50 "ModulePlayer$Channel" "porta" "I") (List.mem_cons_of_mem _ kw_151)) (fun _ h9 => h9) rfl dX1_goToTarget_23 ?_
  refine g_calli (wr := [(h, .inr (1, [.ref bk, .ref vi, .ref tr, .int xk3, .int xk4, .int xk5, .int xk6, .int xk7, .int xk8, .int xk9, .int xk10, .int xk11, .int xk12, .int xk13, .int xk14, .int xk15, .long xk16, .int xk17, .int mu]))]) (va_runSN (As := [.int tv_16, .int tv_21, .int xk10]) (rest := [.ref h]) ⟨hx, hb, hml, hown, hts⟩ (c_limit l dC dI H.size tv_16 tv_21 xk10 ) ⟨va_cnB 3 hts (wsG_good kw_95) rfl rfl rfl (hN.1 (.methodLinkNest RX1 133 yX10_limit RX10) (by decide +kernel)) (hts (.initialized RX10) (List.mem_cons_of_mem _ kw_2)) (by decide +kernel) ⟨Nat.le_of_ble_eq_true rfl, Nat.le_of_ble_eq_true rfl⟩, (hts (.static yX10_limit) (List.mem_cons_of_mem _ kw_94)), trivial⟩ (g_preS hP hD hK hS hA hN hZ [] (by decide) rfl [] rfl) rfl rfl hl.1 rfl (lv_room (Nat.le_of_ble_eq_true rfl)) dX1_goToTarget_26 ⟨Nat.le_of_ble_eq_true rfl, Nat.le_of_ble_eq_true rfl⟩) hP hD hK hS hA [] [0] rfl rfl (by decide +kernel) (by decide +kernel) (fun r_26 w ty1 H locs hw_26 hP hD _ hS => ?_)
  rcases hw_26 with ⟨hu, hr_26⟩
  cases hu
  have hP : va_P (dC, dI) vwCl [(h, .inr (1, [.ref bk, .ref vi, .ref tr, .int xk3, .int xk4, .int xk5, .int xk6, .int xk7, .int xk8, .int xk9, .int xk10, .int xk11, .int xk12, .int xk13, .int xk14, .int xk15, .long xk16, .int xk17, .int mu]))] H := hP
  have hD : va_D A [(h, .inr (1, [.ref bk, .ref vi, .ref tr, .int xk3, .int xk4, .int xk5, .int xk6, .int xk7, .int xk8, .int xk9, .int xk10, .int xk11, .int xk12, .int xk13, .int xk14, .int xk15, .long xk16, .int xk17, .int mu]))] := hD
  refine g_topi (y := limF tv_16 tv_21 xk10) hr_26 ?_
  refine g_callv (wr := []) (va_runV (As := [.int (limF tv_16 tv_21 xk10)]) (rest := []) ⟨hx, hb, hml, hown, hts⟩ (k_slidePeriod l dC dI H.size h bk vi tr xk3 xk4 xk5 xk6 xk7 xk8 xk9 xk10 xk11 xk12 xk13 xk14 xk15 xk17 mu xk16 (limF tv_16 tv_21 xk10) ) (cwV 1 hts (gG_V kw_739 kw_740 kw_741 kw_39 kw_742) rfl rfl rfl (by decide +kernel) ⟨Nat.le_of_ble_eq_true rfl, Nat.le_of_ble_eq_true rfl⟩) (g_preV (C := RX1) (T := TX1) (N := 19) hP hD hK hS hA hN hZ (q0 := 0) rfl rfl [0] (by decide +kernel) rfl [] rfl) rfl rfl hl.1 rfl (lv_room (Nat.le_of_ble_eq_true rfl)) dX1_goToTarget_29 ⟨Nat.le_of_ble_eq_true rfl, Nat.le_of_ble_eq_true rfl⟩) hP hD hK hS hA [0] [] rfl rfl (by decide +kernel) (by decide +kernel) (fun w ty1 H locs hw_29 hP hD _ hS => ?_)
  rcases hw_29 with ⟨yk7_29, hu⟩
  cases hu
  have hP : va_P (dC, dI) vwCl [(h, .inr (1, [.ref bk, .ref vi, .ref tr, .int xk3, .int xk4, .int xk5, .int xk6, .int yk7_29, .int xk8, .int xk9, .int xk10, .int xk11, .int xk12, .int xk13, .int xk14, .int xk15, .long xk16, .int xk17, .int mu]))] H := hP
  have hD : va_D A [(h, .inr (1, [.ref bk, .ref vi, .ref tr, .int xk3, .int xk4, .int xk5, .int xk6, .int yk7_29, .int xk8, .int xk9, .int xk10, .int xk11, .int xk12, .int xk13, .int xk14, .int xk15, .long xk16, .int xk17, .int mu]))] := hD
  have hP9 := hP
  have hD9 := hD
  have hK9 := hK.sub (tys' := []) [] rfl
  exact W.vret hx hb hr (fun t ht hW => ⟨⟨([(h, .inr (1, [.ref bk, .ref vi, .ref tr, .int xk3, .int xk4, .int xk5, .int xk6, .int yk7_29, .int xk8, .int xk9, .int xk10, .int xk11, .int xk12, .int xk13, .int xk14, .int xk15, .long xk16, .int xk17, .int mu]))], []), rfl, ⟨yk7_29, rfl⟩, by rw [ht]; exact hP9, va_K.moved hW.alike hK9, hD9⟩, hS.F ht⟩) hS.2.2 dX1_goToTarget_32

set_option maxHeartbeats 400000 in
set_option maxRecDepth 100000 in
theorem k_slideVBN (l : Launch) (dC : Nat → ClassId) (dI : Nat → Nat → Nat) (sz : Nat) (h bk vi tr : Nat) (xk3 xk4 xk5 xk6 xk7 xk8 xk9 xk10 xk11 xk12 xk13 xk14 xk15 xk17 mu : Int32) (xk16 : Int64) : Met l yX1_slideVolumeByNumber (wsG (.code yX1_slideVolumeByNumber cX1_slideVolumeByNumber 1 none)) ({ frames := 2, cells := 0, slots := 0, locals := 43 }) (va_Pc [.ref h] (gP (dC, dI) [] [(h, .inr (1, [.ref bk, .ref vi, .ref tr, .int xk3, .int xk4, .int xk5, .int xk6, .int xk7, .int xk8, .int xk9, .int xk10, .int xk11, .int xk12, .int xk13, .int xk14, .int xk15, .long xk16, .int xk17, .int mu]))] sz)) (va_Qv (fun u : va_W × gT => ∃ (yk5 : Int32), u = ([(h, .inr (1, [.ref bk, .ref vi, .ref tr, .int xk3, .int xk4, .int yk5, .int xk6, .int xk7, .int xk8, .int xk9, .int xk10, .int xk11, .int xk12, .int xk13, .int xk14, .int xk15, .long xk16, .int xk17, .int mu]))], [])) (gB (dC, dI) (va_A [(h, .inr (1, [.ref bk, .ref vi, .ref tr, .int xk3, .int xk4, .int xk5, .int xk6, .int xk7, .int xk8, .int xk9, .int xk10, .int xk11, .int xk12, .int xk13, .int xk14, .int xk15, .long xk16, .int xk17, .int mu]))] sz)) (va_A [(h, .inr (1, [.ref bk, .ref vi, .ref tr, .int xk3, .int xk4, .int xk5, .int xk6, .int xk7, .int xk8, .int xk9, .int xk10, .int xk11, .int xk12, .int xk13, .int xk14, .int xk15, .long xk16, .int xk17, .int mu]))] sz)) 0 0 (va_A [(h, .inr (1, [.ref bk, .ref vi, .ref tr, .int xk3, .int xk4, .int xk5, .int xk6, .int xk7, .int xk8, .int xk9, .int xk10, .int xk11, .int xk12, .int xk13, .int xk14, .int xk15, .long xk16, .int xk17, .int mu]))] sz) := by
  refine Met.ofW (cc := cX1_slideVolumeByNumber) (maxL := 1) (ret := none) (by decide) rfl ?_
  intro p e s m args below meth c s₁ B hml hv
  obtain ⟨rfl, hsz, hP, hK, hD0, hN, hZ⟩ := hv
  have hx := B.exec
  have hb := B.bytes
  have hr := B.returns
  have hts := atoms_spec (ws := (wsG (.code yX1_slideVolumeByNumber cX1_slideVolumeByNumber 1 none))) B.pre
  have hown : s.vm.findClass RX1 = some m.cls := findClass_of_methodNamed B.named
  have hlocks := B.notSynchronized
  subst hsz
  have hD := hD0.self (sz := s.heap.size)
  generalize hAe : va_A [(h, .inr (1, [.ref bk, .ref vi, .ref tr, .int xk3, .int xk4, .int xk5, .int xk6, .int xk7, .int xk8, .int xk9, .int xk10, .int xk11, .int xk12, .int xk13, .int xk14, .int xk15, .long xk16, .int xk17, .int mu]))] s.heap.size = A at hD hZ ⊢
  have hA : ∀ q : Nat, s.heap.size ≤ q → A q := fun q h => by rw [← hAe]; exact Or.inr h
  have hl := lv_entry ([.ref h]) (n := 1) (Nat.le_of_ble_eq_true rfl)
  rw [lg_entry_eq]
  generalize (lg_sl ([.ref h]) ++ List.replicate (1 - (lg_sl ([.ref h])).length) Slot.unset).toArray = ls at hl ⊢
  have hl : lv_has ls 1 [(0, .ref h)] := hl
  refine g_start (A := A) hP (fun H locs hP hS => ?_)
  refine lv_aload_n hx hb dX1_slideVolumeByNumber_0 rfl (lv_at hl 0 rfl) ?_
  refine lv_aload_n hx hb dX1_slideVolumeByNumber_1 rfl (lv_at hl 0 rfl) ?_
  refine g_calli (wr := []) (va_runV (As := []) (rest := [.ref h]) ⟨hx, hb, hml, hown, hts⟩ (k_x l dC dI H.size h bk vi tr xk3 xk4 xk5 xk6 xk7 xk8 xk9 xk10 xk11 xk12 xk13 xk14 xk15 xk17 mu xk16 ) (cwV 0 hts (gG_V kw_679 kw_680 kw_681 kw_39 kw_682) rfl rfl rfl (by decide +kernel) ⟨Nat.le_of_ble_eq_true rfl, Nat.le_of_ble_eq_true rfl⟩) (g_preV (C := RX1) (T := TX1) (N := 19) hP hD hK hS hA hN hZ (q0 := 0) rfl rfl [0] (by decide +kernel) rfl [] rfl) rfl rfl hl.1 rfl (lv_room (Nat.le_of_ble_eq_true rfl)) dX1_slideVolumeByNumber_2 ⟨Nat.le_of_ble_eq_true rfl, Nat.le_of_ble_eq_true rfl⟩) hP hD hK hS hA [0] [] rfl rfl (by decide +kernel) (by decide +kernel) (fun r_2 w ty1 H locs hw_2 hP hD _ hS => ?_)
  rcases hw_2 with ⟨hu, hr_2⟩
  cases hu
  have hP : va_P (dC, dI) vwCl [(h, .inr (1, [.ref bk, .ref vi, .ref tr, .int xk3, .int xk4, .int xk5, .int xk6, .int xk7, .int xk8, .int xk9, .int xk10, .int xk11, .int xk12, .int xk13, .int xk14, .int xk15, .long xk16, .int xk17, .int mu]))] H := hP
  have hD : va_D A [(h, .inr (1, [.ref bk, .ref vi, .ref tr, .int xk3, .int xk4, .int xk5, .int xk6, .int xk7, .int xk8, .int xk9, .int xk10, .int xk11, .int xk12, .int xk13, .int xk14, .int xk15, .long xk16, .int xk17, .int mu]))] := hD
  refine g_topi (y := (xk3 >>> (4 &&& 31)) &&& 15) hr_2 ?_
  refine lv_if_eq (tgt := 15) hx hb dX1_slideVolumeByNumber_5 (by decide) (fun c_5 => ?_) (fun c_5 => ?_)
  · refine lv_aload_n hx hb dX1_slideVolumeByNumber_15 rfl (lv_at hl 0 rfl) ?_
    refine g_calli (wr := []) (va_runV (As := []) (rest := [.ref h]) ⟨hx, hb, hml, hown, hts⟩ (k_y l dC dI H.size h bk vi tr xk3 xk4 xk5 xk6 xk7 xk8 xk9 xk10 xk11 xk12 xk13 xk14 xk15 xk17 mu xk16 ) (cwV 0 hts (gG_V kw_683 kw_684 kw_685 kw_39 kw_686) rfl rfl rfl (by decide +kernel) ⟨Nat.le_of_ble_eq_true rfl, Nat.le_of_ble_eq_true rfl⟩) (g_preV (C := RX1) (T := TX1) (N := 19) hP hD hK hS hA hN hZ (q0 := 0) rfl rfl [0] (by decide +kernel) rfl [] rfl) rfl rfl hl.1 rfl (lv_room (Nat.le_of_ble_eq_true rfl)) dX1_slideVolumeByNumber_16 ⟨Nat.le_of_ble_eq_true rfl, Nat.le_of_ble_eq_true rfl⟩) hP hD hK hS hA [0] [] rfl rfl (by decide +kernel) (by decide +kernel) (fun r_16 w ty1 H locs hw_16 hP hD _ hS => ?_)
    rcases hw_16 with ⟨hu, hr_16⟩
    cases hu
    have hP : va_P (dC, dI) vwCl [(h, .inr (1, [.ref bk, .ref vi, .ref tr, .int xk3, .int xk4, .int xk5, .int xk6, .int xk7, .int xk8, .int xk9, .int xk10, .int xk11, .int xk12, .int xk13, .int xk14, .int xk15, .long xk16, .int xk17, .int mu]))] H := hP
    have hD : va_D A [(h, .inr (1, [.ref bk, .ref vi, .ref tr, .int xk3, .int xk4, .int xk5, .int xk6, .int xk7, .int xk8, .int xk9, .int xk10, .int xk11, .int xk12, .int xk13, .int xk14, .int xk15, .long xk16, .int xk17, .int mu]))] := hD
    refine g_topi (y := xk3 &&& 15) hr_16 ?_
    refine lv_ineg hx hb dX1_slideVolumeByNumber_19 ?_
    refine lv_topi (fun tv_19 etv_19 => ?_)
    refine g_callv (wr := []) (va_runV (As := [.int tv_19]) (rest := []) ⟨hx, hb, hml, hown, hts⟩ (k_slideVolume l dC dI H.size h bk vi tr xk3 xk4 xk5 xk6 xk7 xk8 xk9 xk10 xk11 xk12 xk13 xk14 xk15 xk17 mu xk16 tv_19 ) (cwV 1 hts (gG_V kw_749 kw_750 kw_751 kw_39 kw_752) rfl rfl rfl (by decide +kernel) ⟨Nat.le_of_ble_eq_true rfl, Nat.le_of_ble_eq_true rfl⟩) (g_preV (C := RX1) (T := TX1) (N := 19) hP hD hK hS hA hN hZ (q0 := 0) rfl rfl [0] (by decide +kernel) rfl [] rfl) rfl rfl hl.1 rfl (lv_room (Nat.le_of_ble_eq_true rfl)) dX1_slideVolumeByNumber_20 ⟨Nat.le_of_ble_eq_true rfl, Nat.le_of_ble_eq_true rfl⟩) hP hD hK hS hA [0] [] rfl rfl (by decide +kernel) (by decide +kernel) (fun w ty1 H locs hw_20 hP hD _ hS => ?_)
    rcases hw_20 with ⟨yk5_20, hu⟩
    cases hu
    have hP : va_P (dC, dI) vwCl [(h, .inr (1, [.ref bk, .ref vi, .ref tr, .int xk3, .int xk4, .int yk5_20, .int xk6, .int xk7, .int xk8, .int xk9, .int xk10, .int xk11, .int xk12, .int xk13, .int xk14, .int xk15, .long xk16, .int xk17, .int mu]))] H := hP
    have hD : va_D A [(h, .inr (1, [.ref bk, .ref vi, .ref tr, .int xk3, .int xk4, .int yk5_20, .int xk6, .int xk7, .int xk8, .int xk9, .int xk10, .int xk11, .int xk12, .int xk13, .int xk14, .int xk15, .long xk16, .int xk17, .int mu]))] := hD
    have hP9 := hP
    have hD9 := hD
    have hK9 := hK.sub (tys' := []) [] rfl
    exact W.vret hx hb hr (fun t ht hW => ⟨⟨([(h, .inr (1, [.ref bk, .ref vi, .ref tr, .int xk3, .int xk4, .int yk5_20, .int xk6, .int xk7, .int xk8, .int xk9, .int xk10, .int xk11, .int xk12, .int xk13, .int xk14, .int xk15, .long xk16, .int xk17, .int mu]))], []), rfl, ⟨yk5_20, rfl⟩, by rw [ht]; exact hP9, va_K.moved hW.alike hK9, hD9⟩, hS.F ht⟩) hS.2.2 dX1_slideVolumeByNumber_23
  refine lv_aload_n hx hb dX1_slideVolumeByNumber_8 rfl (lv_at hl 0 rfl) ?_
  refine g_calli (wr := []) (va_runV (As := []) (rest := [.ref h]) ⟨hx, hb, hml, hown, hts⟩ (k_x l dC dI H.size h bk vi tr xk3 xk4 xk5 xk6 xk7 xk8 xk9 xk10 xk11 xk12 xk13 xk14 xk15 xk17 mu xk16 ) (cwV 0 hts (gG_V kw_679 kw_680 kw_681 kw_39 kw_682) rfl rfl rfl (by decide +kernel) ⟨Nat.le_of_ble_eq_true rfl, Nat.le_of_ble_eq_true rfl⟩) (g_preV (C := RX1) (T := TX1) (N := 19) hP hD hK hS hA hN hZ (q0 := 0) rfl rfl [0] (by decide +kernel) rfl [] rfl) rfl rfl hl.1 rfl (lv_room (Nat.le_of_ble_eq_true rfl)) dX1_slideVolumeByNumber_9 ⟨Nat.le_of_ble_eq_true rfl, Nat.le_of_ble_eq_true rfl⟩) hP hD hK hS hA [0] [] rfl rfl (by decide +kernel) (by decide +kernel) (fun r_9 w ty1 H locs hw_9 hP hD _ hS => ?_)
  rcases hw_9 with ⟨hu, hr_9⟩
  cases hu
  have hP : va_P (dC, dI) vwCl [(h, .inr (1, [.ref bk, .ref vi, .ref tr, .int xk3, .int xk4, .int xk5, .int xk6, .int xk7, .int xk8, .int xk9, .int xk10, .int xk11, .int xk12, .int xk13, .int xk14, .int xk15, .long xk16, .int xk17, .int mu]))] H := hP
  have hD : va_D A [(h, .inr (1, [.ref bk, .ref vi, .ref tr, .int xk3, .int xk4, .int xk5, .int xk6, .int xk7, .int xk8, .int xk9, .int xk10, .int xk11, .int xk12, .int xk13, .int xk14, .int xk15, .long xk16, .int xk17, .int mu]))] := hD
  refine g_topi (y := (xk3 >>> (4 &&& 31)) &&& 15) hr_9 ?_
  refine lv_goto (tgt := 20) hx hb dX1_slideVolumeByNumber_12 (by decide) ?_
  refine g_callv (wr := []) (va_runV (As := [.int ((xk3 >>> (4 &&& 31)) &&& 15)]) (rest := []) ⟨hx, hb, hml, hown, hts⟩ (k_slideVolume l dC dI H.size h bk vi tr xk3 xk4 xk5 xk6 xk7 xk8 xk9 xk10 xk11 xk12 xk13 xk14 xk15 xk17 mu xk16 ((xk3 >>> (4 &&& 31)) &&& 15) ) (cwV 1 hts (gG_V kw_749 kw_750 kw_751 kw_39 kw_752) rfl rfl rfl (by decide +kernel) ⟨Nat.le_of_ble_eq_true rfl, Nat.le_of_ble_eq_true rfl⟩) (g_preV (C := RX1) (T := TX1) (N := 19) hP hD hK hS hA hN hZ (q0 := 0) rfl rfl [0] (by decide +kernel) rfl [] rfl) rfl rfl hl.1 rfl (lv_room (Nat.le_of_ble_eq_true rfl)) dX1_slideVolumeByNumber_20 ⟨Nat.le_of_ble_eq_true rfl, Nat.le_of_ble_eq_true rfl⟩) hP hD hK hS hA [0] [] rfl rfl (by decide +kernel) (by decide +kernel) (fun w ty1 H locs hw_20 hP hD _ hS => ?_)
  rcases hw_20 with ⟨yk5_20, hu⟩
  cases hu
  have hP : va_P (dC, dI) vwCl [(h, .inr (1, [.ref bk, .ref vi, .ref tr, .int xk3, .int xk4, .int yk5_20, .int xk6, .int xk7, .int xk8, .int xk9, .int xk10, .int xk11, .int xk12, .int xk13, .int xk14, .int xk15, .long xk16, .int xk17, .int mu]))] H := hP
  have hD : va_D A [(h, .inr (1, [.ref bk, .ref vi, .ref tr, .int xk3, .int xk4, .int yk5_20, .int xk6, .int xk7, .int xk8, .int xk9, .int xk10, .int xk11, .int xk12, .int xk13, .int xk14, .int xk15, .long xk16, .int xk17, .int mu]))] := hD
  have hP9 := hP
  have hD9 := hD
  have hK9 := hK.sub (tys' := []) [] rfl
  exact W.vret hx hb hr (fun t ht hW => ⟨⟨([(h, .inr (1, [.ref bk, .ref vi, .ref tr, .int xk3, .int xk4, .int yk5_20, .int xk6, .int xk7, .int xk8, .int xk9, .int xk10, .int xk11, .int xk12, .int xk13, .int xk14, .int xk15, .long xk16, .int xk17, .int mu]))], []), rfl, ⟨yk5_20, rfl⟩, by rw [ht]; exact hP9, va_K.moved hW.alike hK9, hD9⟩, hS.F ht⟩) hS.2.2 dX1_slideVolumeByNumber_23

set_option maxHeartbeats 400000 in
set_option maxRecDepth 100000 in
theorem k_actLater (l : Launch) (dC : Nat → ClassId) (dI : Nat → Nat → Nat) (sz : Nat) (h bk vi tr : Nat) (xk3 xk4 xk5 xk6 xk7 xk8 xk9 xk10 xk11 xk12 xk13 xk14 xk15 xk17 mu : Int32) (xk16 : Int64) : Met l yX1_actLater (wsG (.code yX1_actLater cX1_actLater 1 none)) ({ frames := 3, cells := 0, slots := 0, locals := 63 }) (va_Pc [.ref h] (gP (dC, dI) [] [(h, .inr (1, [.ref bk, .ref vi, .ref tr, .int xk3, .int xk4, .int xk5, .int xk6, .int xk7, .int xk8, .int xk9, .int xk10, .int xk11, .int xk12, .int xk13, .int xk14, .int xk15, .long xk16, .int xk17, .int mu]))] sz)) (va_Qv (fun u : va_W × gT => ∃ (yk5 : Int32) (yk7 : Int32), u = ([(h, .inr (1, [.ref bk, .ref vi, .ref tr, .int xk3, .int xk4, .int yk5, .int xk6, .int yk7, .int xk8, .int xk9, .int xk10, .int xk11, .int xk12, .int xk13, .int xk14, .int xk15, .long xk16, .int xk17, .int mu]))], [])) (gB (dC, dI) (va_A [(h, .inr (1, [.ref bk, .ref vi, .ref tr, .int xk3, .int xk4, .int xk5, .int xk6, .int xk7, .int xk8, .int xk9, .int xk10, .int xk11, .int xk12, .int xk13, .int xk14, .int xk15, .long xk16, .int xk17, .int mu]))] sz)) (va_A [(h, .inr (1, [.ref bk, .ref vi, .ref tr, .int xk3, .int xk4, .int xk5, .int xk6, .int xk7, .int xk8, .int xk9, .int xk10, .int xk11, .int xk12, .int xk13, .int xk14, .int xk15, .long xk16, .int xk17, .int mu]))] sz)) 0 0 (va_A [(h, .inr (1, [.ref bk, .ref vi, .ref tr, .int xk3, .int xk4, .int xk5, .int xk6, .int xk7, .int xk8, .int xk9, .int xk10, .int xk11, .int xk12, .int xk13, .int xk14, .int xk15, .long xk16, .int xk17, .int mu]))] sz) := by
  refine Met.ofW (cc := cX1_actLater) (maxL := 1) (ret := none) (by decide) rfl ?_
  intro p e s m args below meth c s₁ B hml hv
  obtain ⟨rfl, hsz, hP, hK, hD0, hN, hZ⟩ := hv
  have hx := B.exec
  have hb := B.bytes
  have hr := B.returns
  have hts := atoms_spec (ws := (wsG (.code yX1_actLater cX1_actLater 1 none))) B.pre
  have hown : s.vm.findClass RX1 = some m.cls := findClass_of_methodNamed B.named
  have hlocks := B.notSynchronized
  subst hsz
  have hD := hD0.self (sz := s.heap.size)
  generalize hAe : va_A [(h, .inr (1, [.ref bk, .ref vi, .ref tr, .int xk3, .int xk4, .int xk5, .int xk6, .int xk7, .int xk8, .int xk9, .int xk10, .int xk11, .int xk12, .int xk13, .int xk14, .int xk15, .long xk16, .int xk17, .int mu]))] s.heap.size = A at hD hZ ⊢
  have hA : ∀ q : Nat, s.heap.size ≤ q → A q := fun q h => by rw [← hAe]; exact Or.inr h
  have hl := lv_entry ([.ref h]) (n := 1) (Nat.le_of_ble_eq_true rfl)
  rw [lg_entry_eq]
  generalize (lg_sl ([.ref h]) ++ List.replicate (1 - (lg_sl ([.ref h])).length) Slot.unset).toArray = ls at hl ⊢
  have hl : lv_has ls 1 [(0, .ref h)] := hl
  refine g_start (A := A) hP (fun H locs hP hS => ?_)
  refine lv_aload_n hx hb dX1_actLater_0 rfl (lv_at hl 0 rfl) ?_
  refine g_calli (wr := []) (va_runV (As := []) (rest := []) ⟨hx, hb, hml, hown, hts⟩ (k_effect l dC dI H.size h bk vi tr xk3 xk4 xk5 xk6 xk7 xk8 xk9 xk10 xk11 xk12 xk13 xk14 xk15 xk17 mu xk16 ) (cwV 0 hts (gG_V kw_675 kw_676 kw_677 kw_39 kw_678) rfl rfl rfl (by decide +kernel) ⟨Nat.le_of_ble_eq_true rfl, Nat.le_of_ble_eq_true rfl⟩) (g_preV (C := RX1) (T := TX1) (N := 19) hP hD hK hS hA hN hZ (q0 := 0) rfl rfl [0] (by decide +kernel) rfl [] rfl) rfl rfl hl.1 rfl (lv_room (Nat.le_of_ble_eq_true rfl)) dX1_actLater_1 ⟨Nat.le_of_ble_eq_true rfl, Nat.le_of_ble_eq_true rfl⟩) hP hD hK hS hA [0] [] rfl rfl (by decide +kernel) (by decide +kernel) (fun r_1 w ty1 H locs hw_1 hP hD _ hS => ?_)
  rcases hw_1 with ⟨hu, hr_1⟩
  cases hu
  have hP : va_P (dC, dI) vwCl [(h, .inr (1, [.ref bk, .ref vi, .ref tr, .int xk3, .int xk4, .int xk5, .int xk6, .int xk7, .int xk8, .int xk9, .int xk10, .int xk11, .int xk12, .int xk13, .int xk14, .int xk15, .long xk16, .int xk17, .int mu]))] H := hP
  have hD : va_D A [(h, .inr (1, [.ref bk, .ref vi, .ref tr, .int xk3, .int xk4, .int xk5, .int xk6, .int xk7, .int xk8, .int xk9, .int xk10, .int xk11, .int xk12, .int xk13, .int xk14, .int xk15, .long xk16, .int xk17, .int mu]))] := hD
  refine g_topi (y := (xk3 >>> (8 &&& 31)) &&& 15) hr_1 ?_
  by_cases hlo_4 : ((xk3 >>> (8 &&& 31)) &&& 15).toInt < 1
  · refine lv_tableOut (tgt := 115) hx hb dX1_actLater_4 (Or.inl hlo_4) (by decide) ?_
    have hP9 := hP
    have hD9 := hD
    have hK9 := hK.sub (tys' := []) [] rfl
    exact W.vret hx hb hr (fun t ht hW => ⟨⟨([(h, .inr (1, [.ref bk, .ref vi, .ref tr, .int xk3, .int xk4, .int xk5, .int xk6, .int xk7, .int xk8, .int xk9, .int xk10, .int xk11, .int xk12, .int xk13, .int xk14, .int xk15, .long xk16, .int xk17, .int mu]))], []), rfl, ⟨xk5, xk7, rfl⟩, by rw [ht]; exact hP9, va_K.moved hW.alike hK9, hD9⟩, hS.F ht⟩) hS.2.2 dX1_actLater_115
  by_cases hhi_4 : 10 < ((xk3 >>> (8 &&& 31)) &&& 15).toInt
  · refine lv_tableOut (tgt := 115) hx hb dX1_actLater_4 (Or.inr hhi_4) (by decide) ?_
    have hP9 := hP
    have hD9 := hD
    have hK9 := hK.sub (tys' := []) [] rfl
    exact W.vret hx hb hr (fun t ht hW => ⟨⟨([(h, .inr (1, [.ref bk, .ref vi, .ref tr, .int xk3, .int xk4, .int xk5, .int xk6, .int xk7, .int xk8, .int xk9, .int xk10, .int xk11, .int xk12, .int xk13, .int xk14, .int xk15, .long xk16, .int xk17, .int mu]))], []), rfl, ⟨xk5, xk7, rfl⟩, by rw [ht]; exact hP9, va_K.moved hW.alike hK9, hD9⟩, hS.F ht⟩) hS.2.2 dX1_actLater_115
  have hsw_4 : (xk3 >>> (8 &&& 31)) &&& 15 = 1 ∨ (xk3 >>> (8 &&& 31)) &&& 15 = 2 ∨ (xk3 >>> (8 &&& 31)) &&& 15 = 3 ∨ (xk3 >>> (8 &&& 31)) &&& 15 = 4 ∨ (xk3 >>> (8 &&& 31)) &&& 15 = 5 ∨ (xk3 >>> (8 &&& 31)) &&& 15 = 6 ∨ (xk3 >>> (8 &&& 31)) &&& 15 = 7 ∨ (xk3 >>> (8 &&& 31)) &&& 15 = 8 ∨ (xk3 >>> (8 &&& 31)) &&& 15 = 9 ∨ (xk3 >>> (8 &&& 31)) &&& 15 = 10 := by
    have h1 : ((xk3 >>> (8 &&& 31)) &&& 15).toInt = 1 ∨ ((xk3 >>> (8 &&& 31)) &&& 15).toInt = 2 ∨ ((xk3 >>> (8 &&& 31)) &&& 15).toInt = 3 ∨ ((xk3 >>> (8 &&& 31)) &&& 15).toInt = 4 ∨ ((xk3 >>> (8 &&& 31)) &&& 15).toInt = 5 ∨ ((xk3 >>> (8 &&& 31)) &&& 15).toInt = 6 ∨ ((xk3 >>> (8 &&& 31)) &&& 15).toInt = 7 ∨ ((xk3 >>> (8 &&& 31)) &&& 15).toInt = 8 ∨ ((xk3 >>> (8 &&& 31)) &&& 15).toInt = 9 ∨ ((xk3 >>> (8 &&& 31)) &&& 15).toInt = 10 := by omega
    rcases h1 with h1 | h1 | h1 | h1 | h1 | h1 | h1 | h1 | h1 | h1 <;> simp only [i_eq, h1] <;> decide
  rcases hsw_4 with hq | hq | hq | hq | hq | hq | hq | hq | hq | hq
  · refine lv_tableIn (off := 56) (tgt := 60) hx hb dX1_actLater_4 (by rw [hq]; decide) (by rw [hq]; decide) (by rw [hq]; decide) (by decide) ?_
    refine lv_aload_n hx hb dX1_actLater_60 rfl (lv_at hl 0 rfl) ?_
    refine lv_aload_n hx hb dX1_actLater_61 rfl (lv_at hl 0 rfl) ?_
    refine g_calli (wr := []) (va_runV (As := []) (rest := [.ref h]) ⟨hx, hb, hml, hown, hts⟩ (k_number l dC dI H.size h bk vi tr xk3 xk4 xk5 xk6 xk7 xk8 xk9 xk10 xk11 xk12 xk13 xk14 xk15 xk17 mu xk16 ) (cwV 0 hts (gG_V kw_715 kw_716 kw_717 kw_39 kw_718) rfl rfl rfl (by decide +kernel) ⟨Nat.le_of_ble_eq_true rfl, Nat.le_of_ble_eq_true rfl⟩) (g_preV (C := RX1) (T := TX1) (N := 19) hP hD hK hS hA hN hZ (q0 := 0) rfl rfl [0] (by decide +kernel) rfl [] rfl) rfl rfl hl.1 rfl (lv_room (Nat.le_of_ble_eq_true rfl)) dX1_actLater_62 ⟨Nat.le_of_ble_eq_true rfl, Nat.le_of_ble_eq_true rfl⟩) hP hD hK hS hA [0] [] rfl rfl (by decide +kernel) (by decide +kernel) (fun r_62 w ty1 H locs hw_62 hP hD _ hS => ?_)
    rcases hw_62 with ⟨hu, hr_62⟩
    cases hu
    have hP : va_P (dC, dI) vwCl [(h, .inr (1, [.ref bk, .ref vi, .ref tr, .int xk3, .int xk4, .int xk5, .int xk6, .int xk7, .int xk8, .int xk9, .int xk10, .int xk11, .int xk12, .int xk13, .int xk14, .int xk15, .long xk16, .int xk17, .int mu]))] H := hP
    have hD : va_D A [(h, .inr (1, [.ref bk, .ref vi, .ref tr, .int xk3, .int xk4, .int xk5, .int xk6, .int xk7, .int xk8, .int xk9, .int xk10, .int xk11, .int xk12, .int xk13, .int xk14, .int xk15, .long xk16, .int xk17, .int mu]))] := hD
    refine g_topi (y := xk3 &&& 255) hr_62 ?_
    refine lv_ineg hx hb dX1_actLater_65 ?_
    refine lv_topi (fun tv_65 etv_65 => ?_)
    refine g_callv (wr := []) (va_runV (As := [.int tv_65]) (rest := []) ⟨hx, hb, hml, hown, hts⟩ (k_slidePeriod l dC dI H.size h bk vi tr xk3 xk4 xk5 xk6 xk7 xk8 xk9 xk10 xk11 xk12 xk13 xk14 xk15 xk17 mu xk16 tv_65 ) (cwV 1 hts (gG_V kw_739 kw_740 kw_741 kw_39 kw_742) rfl rfl rfl (by decide +kernel) ⟨Nat.le_of_ble_eq_true rfl, Nat.le_of_ble_eq_true rfl⟩) (g_preV (C := RX1) (T := TX1) (N := 19) hP hD hK hS hA hN hZ (q0 := 0) rfl rfl [0] (by decide +kernel) rfl [] rfl) rfl rfl hl.1 rfl (lv_room (Nat.le_of_ble_eq_true rfl)) dX1_actLater_66 ⟨Nat.le_of_ble_eq_true rfl, Nat.le_of_ble_eq_true rfl⟩) hP hD hK hS hA [0] [] rfl rfl (by decide +kernel) (by decide +kernel) (fun w ty1 H locs hw_66 hP hD _ hS => ?_)
    rcases hw_66 with ⟨yk7_66, hu⟩
    cases hu
    have hP : va_P (dC, dI) vwCl [(h, .inr (1, [.ref bk, .ref vi, .ref tr, .int xk3, .int xk4, .int xk5, .int xk6, .int yk7_66, .int xk8, .int xk9, .int xk10, .int xk11, .int xk12, .int xk13, .int xk14, .int xk15, .long xk16, .int xk17, .int mu]))] H := hP
    have hD : va_D A [(h, .inr (1, [.ref bk, .ref vi, .ref tr, .int xk3, .int xk4, .int xk5, .int xk6, .int yk7_66, .int xk8, .int xk9, .int xk10, .int xk11, .int xk12, .int xk13, .int xk14, .int xk15, .long xk16, .int xk17, .int mu]))] := hD
    refine lv_goto (tgt := 115) hx hb dX1_actLater_69 (by decide) ?_
    have hP9 := hP
    have hD9 := hD
    have hK9 := hK.sub (tys' := []) [] rfl
    exact W.vret hx hb hr (fun t ht hW => ⟨⟨([(h, .inr (1, [.ref bk, .ref vi, .ref tr, .int xk3, .int xk4, .int xk5, .int xk6, .int yk7_66, .int xk8, .int xk9, .int xk10, .int xk11, .int xk12, .int xk13, .int xk14, .int xk15, .long xk16, .int xk17, .int mu]))], []), rfl, ⟨xk5, yk7_66, rfl⟩, by rw [ht]; exact hP9, va_K.moved hW.alike hK9, hD9⟩, hS.F ht⟩) hS.2.2 dX1_actLater_115
  · refine lv_tableIn (off := 68) (tgt := 72) hx hb dX1_actLater_4 (by rw [hq]; decide) (by rw [hq]; decide) (by rw [hq]; decide) (by decide) ?_
    refine lv_aload_n hx hb dX1_actLater_72 rfl (lv_at hl 0 rfl) ?_
    refine lv_aload_n hx hb dX1_actLater_73 rfl (lv_at hl 0 rfl) ?_
    refine g_calli (wr := []) (va_runV (As := []) (rest := [.ref h]) ⟨hx, hb, hml, hown, hts⟩ (k_number l dC dI H.size h bk vi tr xk3 xk4 xk5 xk6 xk7 xk8 xk9 xk10 xk11 xk12 xk13 xk14 xk15 xk17 mu xk16 ) (cwV 0 hts (gG_V kw_715 kw_716 kw_717 kw_39 kw_718) rfl rfl rfl (by decide +kernel) ⟨Nat.le_of_ble_eq_true rfl, Nat.le_of_ble_eq_true rfl⟩) (g_preV (C := RX1) (T := TX1) (N := 19) hP hD hK hS hA hN hZ (q0 := 0) rfl rfl [0] (by decide +kernel) rfl [] rfl) rfl rfl hl.1 rfl (lv_room (Nat.le_of_ble_eq_true rfl)) dX1_actLater_74 ⟨Nat.le_of_ble_eq_true rfl, Nat.le_of_ble_eq_true rfl⟩) hP hD hK hS hA [0] [] rfl rfl (by decide +kernel) (by decide +kernel) (fun r_74 w ty1 H locs hw_74 hP hD _ hS => ?_)
    rcases hw_74 with ⟨hu, hr_74⟩
    cases hu
    have hP : va_P (dC, dI) vwCl [(h, .inr (1, [.ref bk, .ref vi, .ref tr, .int xk3, .int xk4, .int xk5, .int xk6, .int xk7, .int xk8, .int xk9, .int xk10, .int xk11, .int xk12, .int xk13, .int xk14, .int xk15, .long xk16, .int xk17, .int mu]))] H := hP
    have hD : va_D A [(h, .inr (1, [.ref bk, .ref vi, .ref tr, .int xk3, .int xk4, .int xk5, .int xk6, .int xk7, .int xk8, .int xk9, .int xk10, .int xk11, .int xk12, .int xk13, .int xk14, .int xk15, .long xk16, .int xk17, .int mu]))] := hD
    refine g_topi (y := xk3 &&& 255) hr_74 ?_
    refine g_callv (wr := []) (va_runV (As := [.int (xk3 &&& 255)]) (rest := []) ⟨hx, hb, hml, hown, hts⟩ (k_slidePeriod l dC dI H.size h bk vi tr xk3 xk4 xk5 xk6 xk7 xk8 xk9 xk10 xk11 xk12 xk13 xk14 xk15 xk17 mu xk16 (xk3 &&& 255) ) (cwV 1 hts (gG_V kw_739 kw_740 kw_741 kw_39 kw_742) rfl rfl rfl (by decide +kernel) ⟨Nat.le_of_ble_eq_true rfl, Nat.le_of_ble_eq_true rfl⟩) (g_preV (C := RX1) (T := TX1) (N := 19) hP hD hK hS hA hN hZ (q0 := 0) rfl rfl [0] (by decide +kernel) rfl [] rfl) rfl rfl hl.1 rfl (lv_room (Nat.le_of_ble_eq_true rfl)) dX1_actLater_77 ⟨Nat.le_of_ble_eq_true rfl, Nat.le_of_ble_eq_true rfl⟩) hP hD hK hS hA [0] [] rfl rfl (by decide +kernel) (by decide +kernel) (fun w ty1 H locs hw_77 hP hD _ hS => ?_)
    rcases hw_77 with ⟨yk7_77, hu⟩
    cases hu
    have hP : va_P (dC, dI) vwCl [(h, .inr (1, [.ref bk, .ref vi, .ref tr, .int xk3, .int xk4, .int xk5, .int xk6, .int yk7_77, .int xk8, .int xk9, .int xk10, .int xk11, .int xk12, .int xk13, .int xk14, .int xk15, .long xk16, .int xk17, .int mu]))] H := hP
    have hD : va_D A [(h, .inr (1, [.ref bk, .ref vi, .ref tr, .int xk3, .int xk4, .int xk5, .int xk6, .int yk7_77, .int xk8, .int xk9, .int xk10, .int xk11, .int xk12, .int xk13, .int xk14, .int xk15, .long xk16, .int xk17, .int mu]))] := hD
    refine lv_goto (tgt := 115) hx hb dX1_actLater_80 (by decide) ?_
    have hP9 := hP
    have hD9 := hD
    have hK9 := hK.sub (tys' := []) [] rfl
    exact W.vret hx hb hr (fun t ht hW => ⟨⟨([(h, .inr (1, [.ref bk, .ref vi, .ref tr, .int xk3, .int xk4, .int xk5, .int xk6, .int yk7_77, .int xk8, .int xk9, .int xk10, .int xk11, .int xk12, .int xk13, .int xk14, .int xk15, .long xk16, .int xk17, .int mu]))], []), rfl, ⟨xk5, yk7_77, rfl⟩, by rw [ht]; exact hP9, va_K.moved hW.alike hK9, hD9⟩, hS.F ht⟩) hS.2.2 dX1_actLater_115
  · refine lv_tableIn (off := 79) (tgt := 83) hx hb dX1_actLater_4 (by rw [hq]; decide) (by rw [hq]; decide) (by rw [hq]; decide) (by decide) ?_
    refine lv_aload_n hx hb dX1_actLater_83 rfl (lv_at hl 0 rfl) ?_
    refine g_callv (wr := []) (va_runV (As := []) (rest := []) ⟨hx, hb, hml, hown, hts⟩ (k_goToTarget l dC dI H.size h bk vi tr xk3 xk4 xk5 xk6 xk7 xk8 xk9 xk10 xk11 xk12 xk13 xk14 xk15 xk17 mu xk16 ) (cwV 0 hts (gG_V kw_763 kw_764 kw_765 kw_39 kw_766) rfl rfl rfl (by decide +kernel) ⟨Nat.le_of_ble_eq_true rfl, Nat.le_of_ble_eq_true rfl⟩) (g_preV (C := RX1) (T := TX1) (N := 19) hP hD hK hS hA hN hZ (q0 := 0) rfl rfl [0] (by decide +kernel) rfl [] rfl) rfl rfl hl.1 rfl (lv_room (Nat.le_of_ble_eq_true rfl)) dX1_actLater_84 ⟨Nat.le_of_ble_eq_true rfl, Nat.le_of_ble_eq_true rfl⟩) hP hD hK hS hA [0] [] rfl rfl (by decide +kernel) (by decide +kernel) (fun w ty1 H locs hw_84 hP hD _ hS => ?_)
    rcases hw_84 with ⟨yk7_84, hu⟩
    cases hu
    have hP : va_P (dC, dI) vwCl [(h, .inr (1, [.ref bk, .ref vi, .ref tr, .int xk3, .int xk4, .int xk5, .int xk6, .int yk7_84, .int xk8, .int xk9, .int xk10, .int xk11, .int xk12, .int xk13, .int xk14, .int xk15, .long xk16, .int xk17, .int mu]))] H := hP
    have hD : va_D A [(h, .inr (1, [.ref bk, .ref vi, .ref tr, .int xk3, .int xk4, .int xk5, .int xk6, .int yk7_84, .int xk8, .int xk9, .int xk10, .int xk11, .int xk12, .int xk13, .int xk14, .int xk15, .long xk16, .int xk17, .int mu]))] := hD
    refine lv_goto (tgt := 115) hx hb dX1_actLater_87 (by decide) ?_
    have hP9 := hP
    have hD9 := hD
    have hK9 := hK.sub (tys' := []) [] rfl
    exact W.vret hx hb hr (fun t ht hW => ⟨⟨([(h, .inr (1, [.ref bk, .ref vi, .ref tr, .int xk3, .int xk4, .int xk5, .int xk6, .int yk7_84, .int xk8, .int xk9, .int xk10, .int xk11, .int xk12, .int xk13, .int xk14, .int xk15, .long xk16, .int xk17, .int mu]))], []), rfl, ⟨xk5, yk7_84, rfl⟩, by rw [ht]; exact hP9, va_K.moved hW.alike hK9, hD9⟩, hS.F ht⟩) hS.2.2 dX1_actLater_115
  · refine lv_tableIn (off := 111) (tgt := 115) hx hb dX1_actLater_4 (by rw [hq]; decide) (by rw [hq]; decide) (by rw [hq]; decide) (by decide) ?_
    have hP9 := hP
    have hD9 := hD
    have hK9 := hK.sub (tys' := []) [] rfl
    exact W.vret hx hb hr (fun t ht hW => ⟨⟨([(h, .inr (1, [.ref bk, .ref vi, .ref tr, .int xk3, .int xk4, .int xk5, .int xk6, .int xk7, .int xk8, .int xk9, .int xk10, .int xk11, .int xk12, .int xk13, .int xk14, .int xk15, .long xk16, .int xk17, .int mu]))], []), rfl, ⟨xk5, xk7, rfl⟩, by rw [ht]; exact hP9, va_K.moved hW.alike hK9, hD9⟩, hS.F ht⟩) hS.2.2 dX1_actLater_115
  · refine lv_tableIn (off := 86) (tgt := 90) hx hb dX1_actLater_4 (by rw [hq]; decide) (by rw [hq]; decide) (by rw [hq]; decide) (by decide) ?_
    refine lv_aload_n hx hb dX1_actLater_90 rfl (lv_at hl 0 rfl) ?_
    refine g_callv (wr := []) (va_runV (As := []) (rest := []) ⟨hx, hb, hml, hown, hts⟩ (k_goToTarget l dC dI H.size h bk vi tr xk3 xk4 xk5 xk6 xk7 xk8 xk9 xk10 xk11 xk12 xk13 xk14 xk15 xk17 mu xk16 ) (cwV 0 hts (gG_V kw_763 kw_764 kw_765 kw_39 kw_766) rfl rfl rfl (by decide +kernel) ⟨Nat.le_of_ble_eq_true rfl, Nat.le_of_ble_eq_true rfl⟩) (g_preV (C := RX1) (T := TX1) (N := 19) hP hD hK hS hA hN hZ (q0 := 0) rfl rfl [0] (by decide +kernel) rfl [] rfl) rfl rfl hl.1 rfl (lv_room (Nat.le_of_ble_eq_true rfl)) dX1_actLater_91 ⟨Nat.le_of_ble_eq_true rfl, Nat.le_of_ble_eq_true rfl⟩) hP hD hK hS hA [0] [] rfl rfl (by decide +kernel) (by decide +kernel) (fun w ty1 H locs hw_91 hP hD _ hS => ?_)
    rcases hw_91 with ⟨yk7_91, hu⟩
    cases hu
    have hP : va_P (dC, dI) vwCl [(h, .inr (1, [.ref bk, .ref vi, .ref tr, .int xk3, .int xk4, .int xk5, .int xk6, .int yk7_91, .int xk8, .int xk9, .int xk10, .int xk11, .int xk12, .int xk13, .int xk14, .int xk15, .long xk16, .int xk17, .int mu]))] H := hP
    have hD : va_D A [(h, .inr (1, [.ref bk, .ref vi, .ref tr, .int xk3, .int xk4, .int xk5, .int xk6, .int yk7_91, .int xk8, .int xk9, .int xk10, .int xk11, .int xk12, .int xk13, .int xk14, .int xk15, .long xk16, .int xk17, .int mu]))] := hD
    refine lv_aload_n hx hb dX1_actLater_94 rfl (lv_at hl 0 rfl) ?_
    refine g_callv (wr := []) (va_runV (As := []) (rest := []) ⟨hx, hb, hml, hown, hts⟩ (k_slideVBN l dC dI H.size h bk vi tr xk3 xk4 xk5 xk6 yk7_91 xk8 xk9 xk10 xk11 xk12 xk13 xk14 xk15 xk17 mu xk16 ) (cwV 0 hts (gG_V kw_767 kw_768 kw_769 kw_39 kw_770) rfl rfl rfl (by decide +kernel) ⟨Nat.le_of_ble_eq_true rfl, Nat.le_of_ble_eq_true rfl⟩) (g_preV (C := RX1) (T := TX1) (N := 19) hP hD hK hS hA hN hZ (q0 := 0) rfl rfl [0] (by decide +kernel) rfl [] rfl) rfl rfl hl.1 rfl (lv_room (Nat.le_of_ble_eq_true rfl)) dX1_actLater_95 ⟨Nat.le_of_ble_eq_true rfl, Nat.le_of_ble_eq_true rfl⟩) hP hD hK hS hA [0] [] rfl rfl (by decide +kernel) (by decide +kernel) (fun w ty1 H locs hw_95 hP hD _ hS => ?_)
    rcases hw_95 with ⟨yk5_95, hu⟩
    cases hu
    have hP : va_P (dC, dI) vwCl [(h, .inr (1, [.ref bk, .ref vi, .ref tr, .int xk3, .int xk4, .int yk5_95, .int xk6, .int yk7_91, .int xk8, .int xk9, .int xk10, .int xk11, .int xk12, .int xk13, .int xk14, .int xk15, .long xk16, .int xk17, .int mu]))] H := hP
    have hD : va_D A [(h, .inr (1, [.ref bk, .ref vi, .ref tr, .int xk3, .int xk4, .int yk5_95, .int xk6, .int yk7_91, .int xk8, .int xk9, .int xk10, .int xk11, .int xk12, .int xk13, .int xk14, .int xk15, .long xk16, .int xk17, .int mu]))] := hD
    refine lv_goto (tgt := 115) hx hb dX1_actLater_98 (by decide) ?_
    have hP9 := hP
    have hD9 := hD
    have hK9 := hK.sub (tys' := []) [] rfl
    exact W.vret hx hb hr (fun t ht hW => ⟨⟨([(h, .inr (1, [.ref bk, .ref vi, .ref tr, .int xk3, .int xk4, .int yk5_95, .int xk6, .int yk7_91, .int xk8, .int xk9, .int xk10, .int xk11, .int xk12, .int xk13, .int xk14, .int xk15, .long xk16, .int xk17, .int mu]))], []), rfl, ⟨yk5_95, yk7_91, rfl⟩, by rw [ht]; exact hP9, va_K.moved hW.alike hK9, hD9⟩, hS.F ht⟩) hS.2.2 dX1_actLater_115
  · refine lv_tableIn (off := 97) (tgt := 101) hx hb dX1_actLater_4 (by rw [hq]; decide) (by rw [hq]; decide) (by rw [hq]; decide) (by decide) ?_
    refine lv_aload_n hx hb dX1_actLater_101 rfl (lv_at hl 0 rfl) ?_
    refine g_callv (wr := []) (va_runV (As := []) (rest := []) ⟨hx, hb, hml, hown, hts⟩ (k_slideVBN l dC dI H.size h bk vi tr xk3 xk4 xk5 xk6 xk7 xk8 xk9 xk10 xk11 xk12 xk13 xk14 xk15 xk17 mu xk16 ) (cwV 0 hts (gG_V kw_767 kw_768 kw_769 kw_39 kw_770) rfl rfl rfl (by decide +kernel) ⟨Nat.le_of_ble_eq_true rfl, Nat.le_of_ble_eq_true rfl⟩) (g_preV (C := RX1) (T := TX1) (N := 19) hP hD hK hS hA hN hZ (q0 := 0) rfl rfl [0] (by decide +kernel) rfl [] rfl) rfl rfl hl.1 rfl (lv_room (Nat.le_of_ble_eq_true rfl)) dX1_actLater_102 ⟨Nat.le_of_ble_eq_true rfl, Nat.le_of_ble_eq_true rfl⟩) hP hD hK hS hA [0] [] rfl rfl (by decide +kernel) (by decide +kernel) (fun w ty1 H locs hw_102 hP hD _ hS => ?_)
    rcases hw_102 with ⟨yk5_102, hu⟩
    cases hu
    have hP : va_P (dC, dI) vwCl [(h, .inr (1, [.ref bk, .ref vi, .ref tr, .int xk3, .int xk4, .int yk5_102, .int xk6, .int xk7, .int xk8, .int xk9, .int xk10, .int xk11, .int xk12, .int xk13, .int xk14, .int xk15, .long xk16, .int xk17, .int mu]))] H := hP
    have hD : va_D A [(h, .inr (1, [.ref bk, .ref vi, .ref tr, .int xk3, .int xk4, .int yk5_102, .int xk6, .int xk7, .int xk8, .int xk9, .int xk10, .int xk11, .int xk12, .int xk13, .int xk14, .int xk15, .long xk16, .int xk17, .int mu]))] := hD
    refine lv_goto (tgt := 115) hx hb dX1_actLater_105 (by decide) ?_
    have hP9 := hP
    have hD9 := hD
    have hK9 := hK.sub (tys' := []) [] rfl
    exact W.vret hx hb hr (fun t ht hW => ⟨⟨([(h, .inr (1, [.ref bk, .ref vi, .ref tr, .int xk3, .int xk4, .int yk5_102, .int xk6, .int xk7, .int xk8, .int xk9, .int xk10, .int xk11, .int xk12, .int xk13, .int xk14, .int xk15, .long xk16, .int xk17, .int mu]))], []), rfl, ⟨yk5_102, xk7, rfl⟩, by rw [ht]; exact hP9, va_K.moved hW.alike hK9, hD9⟩, hS.F ht⟩) hS.2.2 dX1_actLater_115
  · refine lv_tableIn (off := 111) (tgt := 115) hx hb dX1_actLater_4 (by rw [hq]; decide) (by rw [hq]; decide) (by rw [hq]; decide) (by decide) ?_
    have hP9 := hP
    have hD9 := hD
    have hK9 := hK.sub (tys' := []) [] rfl
    exact W.vret hx hb hr (fun t ht hW => ⟨⟨([(h, .inr (1, [.ref bk, .ref vi, .ref tr, .int xk3, .int xk4, .int xk5, .int xk6, .int xk7, .int xk8, .int xk9, .int xk10, .int xk11, .int xk12, .int xk13, .int xk14, .int xk15, .long xk16, .int xk17, .int mu]))], []), rfl, ⟨xk5, xk7, rfl⟩, by rw [ht]; exact hP9, va_K.moved hW.alike hK9, hD9⟩, hS.F ht⟩) hS.2.2 dX1_actLater_115
  · refine lv_tableIn (off := 111) (tgt := 115) hx hb dX1_actLater_4 (by rw [hq]; decide) (by rw [hq]; decide) (by rw [hq]; decide) (by decide) ?_
    have hP9 := hP
    have hD9 := hD
    have hK9 := hK.sub (tys' := []) [] rfl
    exact W.vret hx hb hr (fun t ht hW => ⟨⟨([(h, .inr (1, [.ref bk, .ref vi, .ref tr, .int xk3, .int xk4, .int xk5, .int xk6, .int xk7, .int xk8, .int xk9, .int xk10, .int xk11, .int xk12, .int xk13, .int xk14, .int xk15, .long xk16, .int xk17, .int mu]))], []), rfl, ⟨xk5, xk7, rfl⟩, by rw [ht]; exact hP9, va_K.moved hW.alike hK9, hD9⟩, hS.F ht⟩) hS.2.2 dX1_actLater_115
  · refine lv_tableIn (off := 111) (tgt := 115) hx hb dX1_actLater_4 (by rw [hq]; decide) (by rw [hq]; decide) (by rw [hq]; decide) (by decide) ?_
    have hP9 := hP
    have hD9 := hD
    have hK9 := hK.sub (tys' := []) [] rfl
    exact W.vret hx hb hr (fun t ht hW => ⟨⟨([(h, .inr (1, [.ref bk, .ref vi, .ref tr, .int xk3, .int xk4, .int xk5, .int xk6, .int xk7, .int xk8, .int xk9, .int xk10, .int xk11, .int xk12, .int xk13, .int xk14, .int xk15, .long xk16, .int xk17, .int mu]))], []), rfl, ⟨xk5, xk7, rfl⟩, by rw [ht]; exact hP9, va_K.moved hW.alike hK9, hD9⟩, hS.F ht⟩) hS.2.2 dX1_actLater_115
  · refine lv_tableIn (off := 104) (tgt := 108) hx hb dX1_actLater_4 (by rw [hq]; decide) (by rw [hq]; decide) (by rw [hq]; decide) (by decide) ?_
    refine lv_aload_n hx hb dX1_actLater_108 rfl (lv_at hl 0 rfl) ?_
    refine g_callv (wr := []) (va_runV (As := []) (rest := []) ⟨hx, hb, hml, hown, hts⟩ (k_slideVBN l dC dI H.size h bk vi tr xk3 xk4 xk5 xk6 xk7 xk8 xk9 xk10 xk11 xk12 xk13 xk14 xk15 xk17 mu xk16 ) (cwV 0 hts (gG_V kw_767 kw_768 kw_769 kw_39 kw_770) rfl rfl rfl (by decide +kernel) ⟨Nat.le_of_ble_eq_true rfl, Nat.le_of_ble_eq_true rfl⟩) (g_preV (C := RX1) (T := TX1) (N := 19) hP hD hK hS hA hN hZ (q0 := 0) rfl rfl [0] (by decide +kernel) rfl [] rfl) rfl rfl hl.1 rfl (lv_room (Nat.le_of_ble_eq_true rfl)) dX1_actLater_109 ⟨Nat.le_of_ble_eq_true rfl, Nat.le_of_ble_eq_true rfl⟩) hP hD hK hS hA [0] [] rfl rfl (by decide +kernel) (by decide +kernel) (fun w ty1 H locs hw_109 hP hD _ hS => ?_)
    rcases hw_109 with ⟨yk5_109, hu⟩
    cases hu
    have hP : va_P (dC, dI) vwCl [(h, .inr (1, [.ref bk, .ref vi, .ref tr, .int xk3, .int xk4, .int yk5_109, .int xk6, .int xk7, .int xk8, .int xk9, .int xk10, .int xk11, .int xk12, .int xk13, .int xk14, .int xk15, .long xk16, .int xk17, .int mu]))] H := hP
    have hD : va_D A [(h, .inr (1, [.ref bk, .ref vi, .ref tr, .int xk3, .int xk4, .int yk5_109, .int xk6, .int xk7, .int xk8, .int xk9, .int xk10, .int xk11, .int xk12, .int xk13, .int xk14, .int xk15, .long xk16, .int xk17, .int mu]))] := hD
    refine lv_goto (tgt := 115) hx hb dX1_actLater_112 (by decide) ?_
    have hP9 := hP
    have hD9 := hD
    have hK9 := hK.sub (tys' := []) [] rfl
    exact W.vret hx hb hr (fun t ht hW => ⟨⟨([(h, .inr (1, [.ref bk, .ref vi, .ref tr, .int xk3, .int xk4, .int yk5_109, .int xk6, .int xk7, .int xk8, .int xk9, .int xk10, .int xk11, .int xk12, .int xk13, .int xk14, .int xk15, .long xk16, .int xk17, .int mu]))], []), rfl, ⟨yk5_109, xk7, rfl⟩, by rw [ht]; exact hP9, va_K.moved hW.alike hK9, hD9⟩, hS.F ht⟩) hS.2.2 dX1_actLater_115

set_option maxHeartbeats 400000 in
set_option maxRecDepth 100000 in
theorem k_takeOffset (l : Launch) (dC : Nat → ClassId) (dI : Nat → Nat → Nat) (sz : Nat) (h bk vi tr : Nat) (xk3 xk4 xk5 xk6 xk7 xk8 xk9 xk10 xk11 xk12 xk13 xk14 xk15 xk17 mu : Int32) (xk16 : Int64) (sa bb : Nat) (us : Int32) (ad : Nat → Nat) (cS : ClassId) (g : Nat → Option Nat) (le tu vo sr lo fr : Nat → Int32) (hg : ∀ x, x < 32 → g x = some (ad x)) : Met l yX1_takeOffset (wsG (.code yX1_takeOffset cX1_takeOffset 1 none)) ({ frames := 2, cells := 0, slots := 0, locals := 42 }) (va_Pc [.ref h] (gP (dC, dI) [(cS, .object RX5)] (([(h, .inr (1, [.ref bk, .ref vi, .ref tr, .int xk3, .int xk4, .int xk5, .int xk6, .int xk7, .int xk8, .int xk9, .int xk10, .int xk11, .int xk12, .int xk13, .int xk14, .int xk15, .long xk16, .int xk17, .int mu])), (bk, .inr (0, [.ref sa, .ref bb, .int us])), (sa, .inl (cS, 32, .inr (.inr (.inr (.inr g)))))] : va_W) ++ famN 32 ad le tu vo sr lo fr) sz)) (va_Qv (fun u : va_W × gT => ∃ (yk11 : Int32) (yk17 : Int32) (yk16 : Int64), u = ((([(h, .inr (1, [.ref bk, .ref vi, .ref tr, .int xk3, .int xk4, .int xk5, .int xk6, .int xk7, .int xk8, .int xk9, .int xk10, .int yk11, .int xk12, .int xk13, .int xk14, .int xk15, .long yk16, .int yk17, .int mu])), (bk, .inr (0, [.ref sa, .ref bb, .int us])), (sa, .inl (cS, 32, .inr (.inr (.inr (.inr g)))))] : va_W) ++ famN 32 ad le tu vo sr lo fr), [])) (gB (dC, dI) (va_A (([(h, .inr (1, [.ref bk, .ref vi, .ref tr, .int xk3, .int xk4, .int xk5, .int xk6, .int xk7, .int xk8, .int xk9, .int xk10, .int xk11, .int xk12, .int xk13, .int xk14, .int xk15, .long xk16, .int xk17, .int mu])), (bk, .inr (0, [.ref sa, .ref bb, .int us])), (sa, .inl (cS, 32, .inr (.inr (.inr (.inr g)))))] : va_W) ++ famN 32 ad le tu vo sr lo fr) sz)) (va_A (([(h, .inr (1, [.ref bk, .ref vi, .ref tr, .int xk3, .int xk4, .int xk5, .int xk6, .int xk7, .int xk8, .int xk9, .int xk10, .int xk11, .int xk12, .int xk13, .int xk14, .int xk15, .long xk16, .int xk17, .int mu])), (bk, .inr (0, [.ref sa, .ref bb, .int us])), (sa, .inl (cS, 32, .inr (.inr (.inr (.inr g)))))] : va_W) ++ famN 32 ad le tu vo sr lo fr) sz)) 0 0 (va_A (([(h, .inr (1, [.ref bk, .ref vi, .ref tr, .int xk3, .int xk4, .int xk5, .int xk6, .int xk7, .int xk8, .int xk9, .int xk10, .int xk11, .int xk12, .int xk13, .int xk14, .int xk15, .long xk16, .int xk17, .int mu])), (bk, .inr (0, [.ref sa, .ref bb, .int us])), (sa, .inl (cS, 32, .inr (.inr (.inr (.inr g)))))] : va_W) ++ famN 32 ad le tu vo sr lo fr) sz) := by
  refine Met.ofW (cc := cX1_takeOffset) (maxL := 1) (ret := none) (by decide) rfl ?_
  intro p e s m args below meth c s₁ B hml hv
  obtain ⟨rfl, hsz, hP, hK, hD0, hN, hZ⟩ := hv
  have hx := B.exec
  have hb := B.bytes
  have hr := B.returns
  have hts := atoms_spec (ws := (wsG (.code yX1_takeOffset cX1_takeOffset 1 none))) B.pre
  have hown : s.vm.findClass RX1 = some m.cls := findClass_of_methodNamed B.named
  have hlocks := B.notSynchronized
  subst hsz
  have hD := hD0.self (sz := s.heap.size)
  generalize hAe : va_A (([(h, .inr (1, [.ref bk, .ref vi, .ref tr, .int xk3, .int xk4, .int xk5, .int xk6, .int xk7, .int xk8, .int xk9, .int xk10, .int xk11, .int xk12, .int xk13, .int xk14, .int xk15, .long xk16, .int xk17, .int mu])), (bk, .inr (0, [.ref sa, .ref bb, .int us])), (sa, .inl (cS, 32, .inr (.inr (.inr (.inr g)))))] : va_W) ++ famN 32 ad le tu vo sr lo fr) s.heap.size = A at hD hZ ⊢
  have hA : ∀ q : Nat, s.heap.size ≤ q → A q := fun q h => by rw [← hAe]; exact Or.inr h
  have hl := lv_entry ([.ref h]) (n := 1) (Nat.le_of_ble_eq_true rfl)
  rw [lg_entry_eq]
  generalize (lg_sl ([.ref h]) ++ List.replicate (1 - (lg_sl ([.ref h])).length) Slot.unset).toArray = ls at hl ⊢
  have hl : lv_has ls 1 [(0, .ref h)] := hl
  refine g_start (A := A) hP (fun H locs hP hS => ?_)
  refine lv_aload_n hx hb dX1_takeOffset_0 rfl (lv_at hl 0 rfl) ?_
  refine g_calliQ (X := [(h, .inr (1, [.ref bk, .ref vi, .ref tr, .int xk3, .int xk4, .int xk5, .int xk6, .int xk7, .int xk8, .int xk9, .int xk10, .int xk11, .int xk12, .int xk13, .int xk14, .int xk15, .long xk16, .int xk17, .int mu])), (bk, .inr (0, [.ref sa, .ref bb, .int us])), (sa, .inl (cS, 32, .inr (.inr (.inr (.inr g)))))]) (wr := [(bk, .inr (0, [.ref sa, .ref bb, .int us])), (sa, .inl (cS, 32, .inr (.inr (.inr (.inr g)))))]) (va_runV (As := []) (rest := []) ⟨hx, hb, hml, hown, hts⟩ (k_number l dC dI H.size h bk vi tr xk3 xk4 xk5 xk6 xk7 xk8 xk9 xk10 xk11 xk12 xk13 xk14 xk15 xk17 mu xk16 ) (cwV 0 hts (gG_V kw_715 kw_716 kw_717 kw_39 kw_718) rfl rfl rfl (by decide +kernel) ⟨Nat.le_of_ble_eq_true rfl, Nat.le_of_ble_eq_true rfl⟩) (g_preV (ws := [(h, .inr (1, [.ref bk, .ref vi, .ref tr, .int xk3, .int xk4, .int xk5, .int xk6, .int xk7, .int xk8, .int xk9, .int xk10, .int xk11, .int xk12, .int xk13, .int xk14, .int xk15, .long xk16, .int xk17, .int mu])), (bk, .inr (0, [.ref sa, .ref bb, .int us])), (sa, .inl (cS, 32, .inr (.inr (.inr (.inr g)))))]) (C := RX1) (T := TX1) (N := 19) hP.left hD.left hK hS hA hN hZ (q0 := 0) rfl rfl [0] (by decide +kernel) rfl [] rfl) rfl rfl hl.1 rfl (lv_room (Nat.le_of_ble_eq_true rfl)) dX1_takeOffset_1 ⟨Nat.le_of_ble_eq_true rfl, Nat.le_of_ble_eq_true rfl⟩) hP hD hK hS hA [0] [1, 2] rfl rfl (by decide +kernel) (by decide +kernel) (fun r_1 w ty1 H locs hw_1 hP hD _ hS => ?_)
  rcases hw_1 with ⟨hu, hr_1⟩
  cases hu
  have hP : va_P (dC, dI) vwCl (([(bk, .inr (0, [.ref sa, .ref bb, .int us])), (sa, .inl (cS, 32, .inr (.inr (.inr (.inr g))))), (h, .inr (1, [.ref bk, .ref vi, .ref tr, .int xk3, .int xk4, .int xk5, .int xk6, .int xk7, .int xk8, .int xk9, .int xk10, .int xk11, .int xk12, .int xk13, .int xk14, .int xk15, .long xk16, .int xk17, .int mu]))] : va_W) ++ famN 32 ad le tu vo sr lo fr) H := hP
  have hD : va_D A (([(bk, .inr (0, [.ref sa, .ref bb, .int us])), (sa, .inl (cS, 32, .inr (.inr (.inr (.inr g))))), (h, .inr (1, [.ref bk, .ref vi, .ref tr, .int xk3, .int xk4, .int xk5, .int xk6, .int xk7, .int xk8, .int xk9, .int xk10, .int xk11, .int xk12, .int xk13, .int xk14, .int xk15, .long xk16, .int xk17, .int mu]))] : va_W) ++ famN 32 ad le tu vo sr lo fr) := hD
  refine g_topi (y := xk3 &&& 255) hr_1 ?_
  refine lv_if_eq (tgt := 15) hx hb dX1_takeOffset_4 (by decide) (fun c_4 => ?_) (fun c_4 => ?_)
  · refine lv_aload_n hx hb dX1_takeOffset_15 rfl (lv_at hl 0 rfl) ?_
    refine g_calliQ (X := [(bk, .inr (0, [.ref sa, .ref bb, .int us])), (sa, .inl (cS, 32, .inr (.inr (.inr (.inr g))))), (h, .inr (1, [.ref bk, .ref vi, .ref tr, .int xk3, .int xk4, .int xk5, .int xk6, .int xk7, .int xk8, .int xk9, .int xk10, .int xk11, .int xk12, .int xk13, .int xk14, .int xk15, .long xk16, .int xk17, .int mu]))]) (wr := [(bk, .inr (0, [.ref sa, .ref bb, .int us])), (sa, .inl (cS, 32, .inr (.inr (.inr (.inr g)))))]) (va_runV (As := []) (rest := []) ⟨hx, hb, hml, hown, hts⟩ (k_cellPeriod l dC dI H.size h bk vi tr xk3 xk4 xk5 xk6 xk7 xk8 xk9 xk10 xk11 xk12 xk13 xk14 xk15 xk17 mu xk16 ) (cwV 0 hts (gG_V kw_695 kw_696 kw_697 kw_39 kw_698) rfl rfl rfl (by decide +kernel) ⟨Nat.le_of_ble_eq_true rfl, Nat.le_of_ble_eq_true rfl⟩) (g_preV (ws := [(bk, .inr (0, [.ref sa, .ref bb, .int us])), (sa, .inl (cS, 32, .inr (.inr (.inr (.inr g))))), (h, .inr (1, [.ref bk, .ref vi, .ref tr, .int xk3, .int xk4, .int xk5, .int xk6, .int xk7, .int xk8, .int xk9, .int xk10, .int xk11, .int xk12, .int xk13, .int xk14, .int xk15, .long xk16, .int xk17, .int mu]))]) (C := RX1) (T := TX1) (N := 19) hP.left hD.left hK hS hA hN hZ (q0 := 2) rfl rfl [2] (by decide +kernel) rfl [] rfl) rfl rfl hl.1 rfl (lv_room (Nat.le_of_ble_eq_true rfl)) dX1_takeOffset_16 ⟨Nat.le_of_ble_eq_true rfl, Nat.le_of_ble_eq_true rfl⟩) hP hD hK hS hA [2] [0, 1] rfl rfl (by decide +kernel) (by decide +kernel) (fun r_16 w ty1 H locs hw_16 hP hD _ hS => ?_)
    rcases hw_16 with ⟨hu, hr_16⟩
    cases hu
    have hP : va_P (dC, dI) vwCl (([(bk, .inr (0, [.ref sa, .ref bb, .int us])), (sa, .inl (cS, 32, .inr (.inr (.inr (.inr g))))), (h, .inr (1, [.ref bk, .ref vi, .ref tr, .int xk3, .int xk4, .int xk5, .int xk6, .int xk7, .int xk8, .int xk9, .int xk10, .int xk11, .int xk12, .int xk13, .int xk14, .int xk15, .long xk16, .int xk17, .int mu]))] : va_W) ++ famN 32 ad le tu vo sr lo fr) H := hP
    have hD : va_D A (([(bk, .inr (0, [.ref sa, .ref bb, .int us])), (sa, .inl (cS, 32, .inr (.inr (.inr (.inr g))))), (h, .inr (1, [.ref bk, .ref vi, .ref tr, .int xk3, .int xk4, .int xk5, .int xk6, .int xk7, .int xk8, .int xk9, .int xk10, .int xk11, .int xk12, .int xk13, .int xk14, .int xk15, .long xk16, .int xk17, .int mu]))] : va_W) ++ famN 32 ad le tu vo sr lo fr) := hD
    refine g_topi (y := xk3 >>> (17 &&& 31)) hr_16 ?_
    refine lv_if_ne (tgt := 23) hx hb dX1_takeOffset_19 (by decide) (fun c_19 => ?_) (fun c_19 => ?_)
    · refine lv_aload_n hx hb dX1_takeOffset_23 rfl (lv_at hl 0 rfl) ?_
      refine lv_aload_n hx hb dX1_takeOffset_24 rfl (lv_at hl 0 rfl) ?_
      refine va_get (D := (dC, dI)) (ci := 1) (v := .int xk11) (C := RX1) (T := TX1) (N := 19) hx hb hts iwX1 hown hK hP 2 rfl rfl 11 (by decide) (hts (.fieldLink RX1 53 "ModulePlayer$Channel" "offset" "I") (List.mem_cons_of_mem _ kw_152)) (fun _ h9 => h9) rfl dX1_takeOffset_25 ?_
      refine lv_i2l (v := xk11.toInt64) hx hb dX1_takeOffset_28 rfl ?_
      refine lv_topl (fun tv_28 etv_28 => ?_)
      refine lv_ldc2 (v := 256) hx hb hown (hts (.constantLong RX1 171 (256)) (List.mem_cons_of_mem _ kw_727)) dX1_takeOffset_29 ?_
      refine lv_lmul hx hb dX1_takeOffset_32 ?_
      refine lv_topl (fun tv_32 etv_32 => ?_)
      refine lv_ldc2 (v := 65536) hx hb hown (hts (.constantLong RX1 173 (65536)) (List.mem_cons_of_mem _ kw_728)) dX1_takeOffset_33 ?_
      refine lv_lmul hx hb dX1_takeOffset_36 ?_
      refine lv_topl (fun tv_36 etv_36 => ?_)
      refine va_put (D := (dC, dI)) (ci := 1) (v := .long tv_36) (ty := tyX1 16) (C := RX1) (T := TX1) (N := 19) hx hb hts iwX1 tyX1 tyX1_ok nmX1 hown hK hP hD hS 2 rfl rfl 16 (by decide) (hts (.fieldLink RX1 68 "ModulePlayer$Channel" "place" "J") (List.mem_cons_of_mem _ kw_157)) (fun _ h9 => h9) rfl (by decide +kernel) (rfl) (rfl) (Nat.le_of_ble_eq_true rfl) dX1_takeOffset_37 (fun H locs hP hD hS => ?_)
      have hP : va_P (dC, dI) vwCl (([(bk, .inr (0, [.ref sa, .ref bb, .int us])), (sa, .inl (cS, 32, .inr (.inr (.inr (.inr g))))), (h, .inr (1, [.ref bk, .ref vi, .ref tr, .int xk3, .int xk4, .int xk5, .int xk6, .int xk7, .int xk8, .int xk9, .int xk10, .int xk11, .int xk12, .int xk13, .int xk14, .int xk15, .long tv_36, .int xk17, .int mu]))] : va_W) ++ famN 32 ad le tu vo sr lo fr) H := hP
      have hD : va_D A (([(bk, .inr (0, [.ref sa, .ref bb, .int us])), (sa, .inl (cS, 32, .inr (.inr (.inr (.inr g))))), (h, .inr (1, [.ref bk, .ref vi, .ref tr, .int xk3, .int xk4, .int xk5, .int xk6, .int xk7, .int xk8, .int xk9, .int xk10, .int xk11, .int xk12, .int xk13, .int xk14, .int xk15, .long tv_36, .int xk17, .int mu]))] : va_W) ++ famN 32 ad le tu vo sr lo fr) := hD
      refine lv_aload_n hx hb dX1_takeOffset_40 rfl (lv_at hl 0 rfl) ?_
      refine va_get (D := (dC, dI)) (ci := 1) (v := .int xk11) (C := RX1) (T := TX1) (N := 19) hx hb hts iwX1 hown hK hP 2 rfl rfl 11 (by decide) (hts (.fieldLink RX1 53 "ModulePlayer$Channel" "offset" "I") (List.mem_cons_of_mem _ kw_152)) (fun _ h9 => h9) rfl dX1_takeOffset_41 ?_
      refine lv_sipush (v := 256) hx hb dX1_takeOffset_44 (by decide) ?_
      refine lv_imul hx hb dX1_takeOffset_47 ?_
      refine lv_topi (fun tv_47 etv_47 => ?_)
      refine lv_aload_n hx hb dX1_takeOffset_48 rfl (lv_at hl 0 rfl) ?_
      refine va_get (D := (dC, dI)) (ci := 1) (v := .ref bk) (C := RX1) (T := TX1) (N := 19) hx hb hts iwX1 hown hK hP 2 rfl rfl 0 (by decide) (hts (.fieldLink RX1 21 "ModulePlayer$Channel" "bank" "LModulePlayer$Bank;") (List.mem_cons_of_mem _ kw_89)) (fun _ h9 => h9) rfl dX1_takeOffset_49 ?_
      refine lv_aload_n hx hb dX1_takeOffset_52 rfl (lv_at hl 0 rfl) ?_
      refine va_get (D := (dC, dI)) (ci := 1) (v := .int xk4) (C := RX1) (T := TX1) (N := 19) hx hb hts iwX1 hown hK hP 2 rfl rfl 4 (by decide) (hts (.fieldLink RX1 32 "ModulePlayer$Channel" "sample" "I") (List.mem_cons_of_mem _ kw_145)) (fun _ h9 => h9) rfl dX1_takeOffset_53 ?_
      refine g_callqQ (X := [(bk, .inr (0, [.ref sa, .ref bb, .int us])), (sa, .inl (cS, 32, .inr (.inr (.inr (.inr g))))), (h, .inr (1, [.ref bk, .ref vi, .ref tr, .int xk3, .int xk4, .int xk5, .int xk6, .int xk7, .int xk8, .int xk9, .int xk10, .int xk11, .int xk12, .int xk13, .int xk14, .int xk15, .long tv_36, .int xk17, .int mu]))]) (wr := [(h, .inr (1, [.ref bk, .ref vi, .ref tr, .int xk3, .int xk4, .int xk5, .int xk6, .int xk7, .int xk8, .int xk9, .int xk10, .int xk11, .int xk12, .int xk13, .int xk14, .int xk15, .long tv_36, .int xk17, .int mu]))]) (va_runV (As := [.int xk4]) (rest := [.int tv_47]) ⟨hx, hb, hml, hown, hts⟩ (k_getA l dC dI H.size bk sa bb us ad cS g xk4 (hg)) (cwV 1 hts (gG_V kw_694 kw_405 kw_406 kw_22 kw_407) rfl rfl rfl (by decide +kernel) ⟨Nat.le_of_ble_eq_true rfl, Nat.le_of_ble_eq_true rfl⟩) (g_preV (ws := [(bk, .inr (0, [.ref sa, .ref bb, .int us])), (sa, .inl (cS, 32, .inr (.inr (.inr (.inr g))))), (h, .inr (1, [.ref bk, .ref vi, .ref tr, .int xk3, .int xk4, .int xk5, .int xk6, .int xk7, .int xk8, .int xk9, .int xk10, .int xk11, .int xk12, .int xk13, .int xk14, .int xk15, .long tv_36, .int xk17, .int mu]))]) (C := RX0) (T := TX0) (N := 3) hP.left hD.left hK hS hA hN hZ (q0 := 0) rfl rfl [0, 1] (by decide +kernel) rfl [0] rfl) rfl rfl hl.1 rfl (lv_room (Nat.le_of_ble_eq_true rfl)) dX1_takeOffset_56 ⟨Nat.le_of_ble_eq_true rfl, Nat.le_of_ble_eq_true rfl⟩) hP hD hK hS hA [0, 1] [2] rfl rfl (by decide +kernel) (by decide +kernel) (fun r_56 w ty1 H locs hw_56 hP hD _ hS => ?_)
      rcases hw_56 with ⟨kf_56, hu, hr_56, hkf_56⟩
      cases hu
      have hP : va_P (dC, dI) vwCl (([(h, .inr (1, [.ref bk, .ref vi, .ref tr, .int xk3, .int xk4, .int xk5, .int xk6, .int xk7, .int xk8, .int xk9, .int xk10, .int xk11, .int xk12, .int xk13, .int xk14, .int xk15, .long tv_36, .int xk17, .int mu])), (bk, .inr (0, [.ref sa, .ref bb, .int us])), (sa, .inl (cS, 32, .inr (.inr (.inr (.inr g)))))] : va_W) ++ famN 32 ad le tu vo sr lo fr) H := hP
      have hD : va_D A (([(h, .inr (1, [.ref bk, .ref vi, .ref tr, .int xk3, .int xk4, .int xk5, .int xk6, .int xk7, .int xk8, .int xk9, .int xk10, .int xk11, .int xk12, .int xk13, .int xk14, .int xk15, .long tv_36, .int xk17, .int mu])), (bk, .inr (0, [.ref sa, .ref bb, .int us])), (sa, .inl (cS, 32, .inr (.inr (.inr (.inr g)))))] : va_W) ++ famN 32 ad le tu vo sr lo fr) := hD
      subst hr_56
      refine W.eq (g2 := F0 m 59 ls [.ref (ad kf_56), .int tv_47]) rfl ?_
      refine va_get (D := (dC, dI)) (ci := 5) (v := .int (le kf_56)) (C := RX5) (T := TX5) (N := 6) hx hb hts iwX5 hown hK hP _ (fam_at (k := kf_56) (hkf_56)) rfl 0 (by decide) (hts (.fieldLink RX1 137 "ModulePlayer$Sample" "length" "I") (List.mem_cons_of_mem _ kw_707)) (fun _ h9 => h9) rfl dX1_takeOffset_59 ?_
      refine lv_topi (fun tv_59 etv_59 => ?_)
      refine lv_icmp_lt (tgt := 70) hx hb dX1_takeOffset_62 (by decide) (fun c_62 => ?_) (fun c_62 => ?_)
      · have hP9 := hP
        have hD9 := hD
        have hK9 := hK.sub (tys' := []) [] rfl
        exact W.vret hx hb hr (fun t ht hW => ⟨⟨((([(h, .inr (1, [.ref bk, .ref vi, .ref tr, .int xk3, .int xk4, .int xk5, .int xk6, .int xk7, .int xk8, .int xk9, .int xk10, .int xk11, .int xk12, .int xk13, .int xk14, .int xk15, .long tv_36, .int xk17, .int mu])), (bk, .inr (0, [.ref sa, .ref bb, .int us])), (sa, .inl (cS, 32, .inr (.inr (.inr (.inr g)))))] : va_W) ++ famN 32 ad le tu vo sr lo fr), []), rfl, ⟨xk11, xk17, tv_36, rfl⟩, by rw [ht]; exact hP9, va_K.moved hW.alike hK9, hD9⟩, hS.F ht⟩) hS.2.2 dX1_takeOffset_70
      refine lv_aload_n hx hb dX1_takeOffset_65 rfl (lv_at hl 0 rfl) ?_
      refine lv_iconst (v := 0) hx hb dX1_takeOffset_66 (by decide) ?_
      refine va_put (D := (dC, dI)) (ci := 1) (v := .int 0) (ty := tyX1 17) (C := RX1) (T := TX1) (N := 19) hx hb hts iwX1 tyX1 tyX1_ok nmX1 hown hK hP hD hS 0 rfl rfl 17 (by decide) (hts (.fieldLink RX1 72 "ModulePlayer$Channel" "sounds" "Z") (List.mem_cons_of_mem _ kw_158)) (fun _ h9 => h9) rfl (by decide +kernel) (rfl) (rfl) (Nat.le_of_ble_eq_true rfl) dX1_takeOffset_67 (fun H locs hP hD hS => ?_)
      have hP : va_P (dC, dI) vwCl (([(h, .inr (1, [.ref bk, .ref vi, .ref tr, .int xk3, .int xk4, .int xk5, .int xk6, .int xk7, .int xk8, .int xk9, .int xk10, .int xk11, .int xk12, .int xk13, .int xk14, .int xk15, .long tv_36, .int 0, .int mu])), (bk, .inr (0, [.ref sa, .ref bb, .int us])), (sa, .inl (cS, 32, .inr (.inr (.inr (.inr g)))))] : va_W) ++ famN 32 ad le tu vo sr lo fr) H := hP
      have hD : va_D A (([(h, .inr (1, [.ref bk, .ref vi, .ref tr, .int xk3, .int xk4, .int xk5, .int xk6, .int xk7, .int xk8, .int xk9, .int xk10, .int xk11, .int xk12, .int xk13, .int xk14, .int xk15, .long tv_36, .int 0, .int mu])), (bk, .inr (0, [.ref sa, .ref bb, .int us])), (sa, .inl (cS, 32, .inr (.inr (.inr (.inr g)))))] : va_W) ++ famN 32 ad le tu vo sr lo fr) := hD
      have hP9 := hP
      have hD9 := hD
      have hK9 := hK.sub (tys' := []) [] rfl
      exact W.vret hx hb hr (fun t ht hW => ⟨⟨((([(h, .inr (1, [.ref bk, .ref vi, .ref tr, .int xk3, .int xk4, .int xk5, .int xk6, .int xk7, .int xk8, .int xk9, .int xk10, .int xk11, .int xk12, .int xk13, .int xk14, .int xk15, .long tv_36, .int 0, .int mu])), (bk, .inr (0, [.ref sa, .ref bb, .int us])), (sa, .inl (cS, 32, .inr (.inr (.inr (.inr g)))))] : va_W) ++ famN 32 ad le tu vo sr lo fr), []), rfl, ⟨xk11, 0, tv_36, rfl⟩, by rw [ht]; exact hP9, va_K.moved hW.alike hK9, hD9⟩, hS.F ht⟩) hS.2.2 dX1_takeOffset_70
    have hP9 := va_P.part (X := [(bk, .inr (0, [.ref sa, .ref bb, .int us])), (sa, .inl (cS, 32, .inr (.inr (.inr (.inr g))))), (h, .inr (1, [.ref bk, .ref vi, .ref tr, .int xk3, .int xk4, .int xk5, .int xk6, .int xk7, .int xk8, .int xk9, .int xk10, .int xk11, .int xk12, .int xk13, .int xk14, .int xk15, .long xk16, .int xk17, .int mu]))]) (cx := [(h, .inr (1, [.ref bk, .ref vi, .ref tr, .int xk3, .int xk4, .int xk5, .int xk6, .int xk7, .int xk8, .int xk9, .int xk10, .int xk11, .int xk12, .int xk13, .int xk14, .int xk15, .long xk16, .int xk17, .int mu])), (bk, .inr (0, [.ref sa, .ref bb, .int us])), (sa, .inl (cS, 32, .inr (.inr (.inr (.inr g)))))]) hP [2, 0, 1] rfl
    have hD9 := va_D.part (X := [(bk, .inr (0, [.ref sa, .ref bb, .int us])), (sa, .inl (cS, 32, .inr (.inr (.inr (.inr g))))), (h, .inr (1, [.ref bk, .ref vi, .ref tr, .int xk3, .int xk4, .int xk5, .int xk6, .int xk7, .int xk8, .int xk9, .int xk10, .int xk11, .int xk12, .int xk13, .int xk14, .int xk15, .long xk16, .int xk17, .int mu]))]) (cx := [(h, .inr (1, [.ref bk, .ref vi, .ref tr, .int xk3, .int xk4, .int xk5, .int xk6, .int xk7, .int xk8, .int xk9, .int xk10, .int xk11, .int xk12, .int xk13, .int xk14, .int xk15, .long xk16, .int xk17, .int mu])), (bk, .inr (0, [.ref sa, .ref bb, .int us])), (sa, .inl (cS, 32, .inr (.inr (.inr (.inr g)))))]) hD [2, 0, 1] (by decide +kernel) rfl
    have hK9 := hK.sub (tys' := []) [] rfl
    exact W.vret hx hb hr (fun t ht hW => ⟨⟨((([(h, .inr (1, [.ref bk, .ref vi, .ref tr, .int xk3, .int xk4, .int xk5, .int xk6, .int xk7, .int xk8, .int xk9, .int xk10, .int xk11, .int xk12, .int xk13, .int xk14, .int xk15, .long xk16, .int xk17, .int mu])), (bk, .inr (0, [.ref sa, .ref bb, .int us])), (sa, .inl (cS, 32, .inr (.inr (.inr (.inr g)))))] : va_W) ++ famN 32 ad le tu vo sr lo fr), []), rfl, ⟨xk11, xk17, xk16, rfl⟩, by rw [ht]; exact hP9, va_K.moved hW.alike hK9, hD9⟩, hS.F ht⟩) hS.2.2 dX1_takeOffset_22
  refine lv_aload_n hx hb dX1_takeOffset_7 rfl (lv_at hl 0 rfl) ?_
  refine lv_aload_n hx hb dX1_takeOffset_8 rfl (lv_at hl 0 rfl) ?_
  refine g_calliQ (X := [(bk, .inr (0, [.ref sa, .ref bb, .int us])), (sa, .inl (cS, 32, .inr (.inr (.inr (.inr g))))), (h, .inr (1, [.ref bk, .ref vi, .ref tr, .int xk3, .int xk4, .int xk5, .int xk6, .int xk7, .int xk8, .int xk9, .int xk10, .int xk11, .int xk12, .int xk13, .int xk14, .int xk15, .long xk16, .int xk17, .int mu]))]) (wr := [(bk, .inr (0, [.ref sa, .ref bb, .int us])), (sa, .inl (cS, 32, .inr (.inr (.inr (.inr g)))))]) (va_runV (As := []) (rest := [.ref h]) ⟨hx, hb, hml, hown, hts⟩ (k_number l dC dI H.size h bk vi tr xk3 xk4 xk5 xk6 xk7 xk8 xk9 xk10 xk11 xk12 xk13 xk14 xk15 xk17 mu xk16 ) (cwV 0 hts (gG_V kw_715 kw_716 kw_717 kw_39 kw_718) rfl rfl rfl (by decide +kernel) ⟨Nat.le_of_ble_eq_true rfl, Nat.le_of_ble_eq_true rfl⟩) (g_preV (ws := [(bk, .inr (0, [.ref sa, .ref bb, .int us])), (sa, .inl (cS, 32, .inr (.inr (.inr (.inr g))))), (h, .inr (1, [.ref bk, .ref vi, .ref tr, .int xk3, .int xk4, .int xk5, .int xk6, .int xk7, .int xk8, .int xk9, .int xk10, .int xk11, .int xk12, .int xk13, .int xk14, .int xk15, .long xk16, .int xk17, .int mu]))]) (C := RX1) (T := TX1) (N := 19) hP.left hD.left hK hS hA hN hZ (q0 := 2) rfl rfl [2] (by decide +kernel) rfl [] rfl) rfl rfl hl.1 rfl (lv_room (Nat.le_of_ble_eq_true rfl)) dX1_takeOffset_9 ⟨Nat.le_of_ble_eq_true rfl, Nat.le_of_ble_eq_true rfl⟩) hP hD hK hS hA [2] [0, 1] rfl rfl (by decide +kernel) (by decide +kernel) (fun r_9 w ty1 H locs hw_9 hP hD _ hS => ?_)
  rcases hw_9 with ⟨hu, hr_9⟩
  cases hu
  have hP : va_P (dC, dI) vwCl (([(bk, .inr (0, [.ref sa, .ref bb, .int us])), (sa, .inl (cS, 32, .inr (.inr (.inr (.inr g))))), (h, .inr (1, [.ref bk, .ref vi, .ref tr, .int xk3, .int xk4, .int xk5, .int xk6, .int xk7, .int xk8, .int xk9, .int xk10, .int xk11, .int xk12, .int xk13, .int xk14, .int xk15, .long xk16, .int xk17, .int mu]))] : va_W) ++ famN 32 ad le tu vo sr lo fr) H := hP
  have hD : va_D A (([(bk, .inr (0, [.ref sa, .ref bb, .int us])), (sa, .inl (cS, 32, .inr (.inr (.inr (.inr g))))), (h, .inr (1, [.ref bk, .ref vi, .ref tr, .int xk3, .int xk4, .int xk5, .int xk6, .int xk7, .int xk8, .int xk9, .int xk10, .int xk11, .int xk12, .int xk13, .int xk14, .int xk15, .long xk16, .int xk17, .int mu]))] : va_W) ++ famN 32 ad le tu vo sr lo fr) := hD
  refine g_topi (y := xk3 &&& 255) hr_9 ?_
  refine va_put (D := (dC, dI)) (ci := 1) (v := .int (xk3 &&& 255)) (ty := tyX1 11) (C := RX1) (T := TX1) (N := 19) hx hb hts iwX1 tyX1 tyX1_ok nmX1 hown hK hP hD hS 2 rfl rfl 11 (by decide) (hts (.fieldLink RX1 53 "ModulePlayer$Channel" "offset" "I") (List.mem_cons_of_mem _ kw_152)) (fun _ h9 => h9) rfl (by decide +kernel) (rfl) (rfl) (Nat.le_of_ble_eq_true rfl) dX1_takeOffset_12 (fun H locs hP hD hS => ?_)
  have hP : va_P (dC, dI) vwCl (([(bk, .inr (0, [.ref sa, .ref bb, .int us])), (sa, .inl (cS, 32, .inr (.inr (.inr (.inr g))))), (h, .inr (1, [.ref bk, .ref vi, .ref tr, .int xk3, .int xk4, .int xk5, .int xk6, .int xk7, .int xk8, .int xk9, .int xk10, .int (xk3 &&& 255), .int xk12, .int xk13, .int xk14, .int xk15, .long xk16, .int xk17, .int mu]))] : va_W) ++ famN 32 ad le tu vo sr lo fr) H := hP
  have hD : va_D A (([(bk, .inr (0, [.ref sa, .ref bb, .int us])), (sa, .inl (cS, 32, .inr (.inr (.inr (.inr g))))), (h, .inr (1, [.ref bk, .ref vi, .ref tr, .int xk3, .int xk4, .int xk5, .int xk6, .int xk7, .int xk8, .int xk9, .int xk10, .int (xk3 &&& 255), .int xk12, .int xk13, .int xk14, .int xk15, .long xk16, .int xk17, .int mu]))] : va_W) ++ famN 32 ad le tu vo sr lo fr) := hD
  refine lv_aload_n hx hb dX1_takeOffset_15 rfl (lv_at hl 0 rfl) ?_
  refine g_calliQ (X := [(bk, .inr (0, [.ref sa, .ref bb, .int us])), (sa, .inl (cS, 32, .inr (.inr (.inr (.inr g))))), (h, .inr (1, [.ref bk, .ref vi, .ref tr, .int xk3, .int xk4, .int xk5, .int xk6, .int xk7, .int xk8, .int xk9, .int xk10, .int (xk3 &&& 255), .int xk12, .int xk13, .int xk14, .int xk15, .long xk16, .int xk17, .int mu]))]) (wr := [(bk, .inr (0, [.ref sa, .ref bb, .int us])), (sa, .inl (cS, 32, .inr (.inr (.inr (.inr g)))))]) (va_runV (As := []) (rest := []) ⟨hx, hb, hml, hown, hts⟩ (k_cellPeriod l dC dI H.size h bk vi tr xk3 xk4 xk5 xk6 xk7 xk8 xk9 xk10 (xk3 &&& 255) xk12 xk13 xk14 xk15 xk17 mu xk16 ) (cwV 0 hts (gG_V kw_695 kw_696 kw_697 kw_39 kw_698) rfl rfl rfl (by decide +kernel) ⟨Nat.le_of_ble_eq_true rfl, Nat.le_of_ble_eq_true rfl⟩) (g_preV (ws := [(bk, .inr (0, [.ref sa, .ref bb, .int us])), (sa, .inl (cS, 32, .inr (.inr (.inr (.inr g))))), (h, .inr (1, [.ref bk, .ref vi, .ref tr, .int xk3, .int xk4, .int xk5, .int xk6, .int xk7, .int xk8, .int xk9, .int xk10, .int (xk3 &&& 255), .int xk12, .int xk13, .int xk14, .int xk15, .long xk16, .int xk17, .int mu]))]) (C := RX1) (T := TX1) (N := 19) hP.left hD.left hK hS hA hN hZ (q0 := 2) rfl rfl [2] (by decide +kernel) rfl [] rfl) rfl rfl hl.1 rfl (lv_room (Nat.le_of_ble_eq_true rfl)) dX1_takeOffset_16 ⟨Nat.le_of_ble_eq_true rfl, Nat.le_of_ble_eq_true rfl⟩) hP hD hK hS hA [2] [0, 1] rfl rfl (by decide +kernel) (by decide +kernel) (fun r_16 w ty1 H locs hw_16 hP hD _ hS => ?_)
  rcases hw_16 with ⟨hu, hr_16⟩
  cases hu
  have hP : va_P (dC, dI) vwCl (([(bk, .inr (0, [.ref sa, .ref bb, .int us])), (sa, .inl (cS, 32, .inr (.inr (.inr (.inr g))))), (h, .inr (1, [.ref bk, .ref vi, .ref tr, .int xk3, .int xk4, .int xk5, .int xk6, .int xk7, .int xk8, .int xk9, .int xk10, .int (xk3 &&& 255), .int xk12, .int xk13, .int xk14, .int xk15, .long xk16, .int xk17, .int mu]))] : va_W) ++ famN 32 ad le tu vo sr lo fr) H := hP
  have hD : va_D A (([(bk, .inr (0, [.ref sa, .ref bb, .int us])), (sa, .inl (cS, 32, .inr (.inr (.inr (.inr g))))), (h, .inr (1, [.ref bk, .ref vi, .ref tr, .int xk3, .int xk4, .int xk5, .int xk6, .int xk7, .int xk8, .int xk9, .int xk10, .int (xk3 &&& 255), .int xk12, .int xk13, .int xk14, .int xk15, .long xk16, .int xk17, .int mu]))] : va_W) ++ famN 32 ad le tu vo sr lo fr) := hD
  refine g_topi (y := xk3 >>> (17 &&& 31)) hr_16 ?_
  refine lv_if_ne (tgt := 23) hx hb dX1_takeOffset_19 (by decide) (fun c_19 => ?_) (fun c_19 => ?_)
  · refine lv_aload_n hx hb dX1_takeOffset_23 rfl (lv_at hl 0 rfl) ?_
    refine lv_aload_n hx hb dX1_takeOffset_24 rfl (lv_at hl 0 rfl) ?_
    refine va_get (D := (dC, dI)) (ci := 1) (v := .int (xk3 &&& 255)) (C := RX1) (T := TX1) (N := 19) hx hb hts iwX1 hown hK hP 2 rfl rfl 11 (by decide) (hts (.fieldLink RX1 53 "ModulePlayer$Channel" "offset" "I") (List.mem_cons_of_mem _ kw_152)) (fun _ h9 => h9) rfl dX1_takeOffset_25 ?_
    refine lv_i2l (v := (xk3 &&& 255).toInt64) hx hb dX1_takeOffset_28 rfl ?_
    refine lv_topl (fun tv_28 etv_28 => ?_)
    refine lv_ldc2 (v := 256) hx hb hown (hts (.constantLong RX1 171 (256)) (List.mem_cons_of_mem _ kw_727)) dX1_takeOffset_29 ?_
    refine lv_lmul hx hb dX1_takeOffset_32 ?_
    refine lv_topl (fun tv_32 etv_32 => ?_)
    refine lv_ldc2 (v := 65536) hx hb hown (hts (.constantLong RX1 173 (65536)) (List.mem_cons_of_mem _ kw_728)) dX1_takeOffset_33 ?_
    refine lv_lmul hx hb dX1_takeOffset_36 ?_
    refine lv_topl (fun tv_36 etv_36 => ?_)
    refine va_put (D := (dC, dI)) (ci := 1) (v := .long tv_36) (ty := tyX1 16) (C := RX1) (T := TX1) (N := 19) hx hb hts iwX1 tyX1 tyX1_ok nmX1 hown hK hP hD hS 2 rfl rfl 16 (by decide) (hts (.fieldLink RX1 68 "ModulePlayer$Channel" "place" "J") (List.mem_cons_of_mem _ kw_157)) (fun _ h9 => h9) rfl (by decide +kernel) (rfl) (rfl) (Nat.le_of_ble_eq_true rfl) dX1_takeOffset_37 (fun H locs hP hD hS => ?_)
    have hP : va_P (dC, dI) vwCl (([(bk, .inr (0, [.ref sa, .ref bb, .int us])), (sa, .inl (cS, 32, .inr (.inr (.inr (.inr g))))), (h, .inr (1, [.ref bk, .ref vi, .ref tr, .int xk3, .int xk4, .int xk5, .int xk6, .int xk7, .int xk8, .int xk9, .int xk10, .int (xk3 &&& 255), .int xk12, .int xk13, .int xk14, .int xk15, .long tv_36, .int xk17, .int mu]))] : va_W) ++ famN 32 ad le tu vo sr lo fr) H := hP
    have hD : va_D A (([(bk, .inr (0, [.ref sa, .ref bb, .int us])), (sa, .inl (cS, 32, .inr (.inr (.inr (.inr g))))), (h, .inr (1, [.ref bk, .ref vi, .ref tr, .int xk3, .int xk4, .int xk5, .int xk6, .int xk7, .int xk8, .int xk9, .int xk10, .int (xk3 &&& 255), .int xk12, .int xk13, .int xk14, .int xk15, .long tv_36, .int xk17, .int mu]))] : va_W) ++ famN 32 ad le tu vo sr lo fr) := hD
    refine lv_aload_n hx hb dX1_takeOffset_40 rfl (lv_at hl 0 rfl) ?_
    refine va_get (D := (dC, dI)) (ci := 1) (v := .int (xk3 &&& 255)) (C := RX1) (T := TX1) (N := 19) hx hb hts iwX1 hown hK hP 2 rfl rfl 11 (by decide) (hts (.fieldLink RX1 53 "ModulePlayer$Channel" "offset" "I") (List.mem_cons_of_mem _ kw_152)) (fun _ h9 => h9) rfl dX1_takeOffset_41 ?_
    refine lv_sipush (v := 256) hx hb dX1_takeOffset_44 (by decide) ?_
    refine lv_imul hx hb dX1_takeOffset_47 ?_
    refine lv_topi (fun tv_47 etv_47 => ?_)
    refine lv_aload_n hx hb dX1_takeOffset_48 rfl (lv_at hl 0 rfl) ?_
    refine va_get (D := (dC, dI)) (ci := 1) (v := .ref bk) (C := RX1) (T := TX1) (N := 19) hx hb hts iwX1 hown hK hP 2 rfl rfl 0 (by decide) (hts (.fieldLink RX1 21 "ModulePlayer$Channel" "bank" "LModulePlayer$Bank;") (List.mem_cons_of_mem _ kw_89)) (fun _ h9 => h9) rfl dX1_takeOffset_49 ?_
    refine lv_aload_n hx hb dX1_takeOffset_52 rfl (lv_at hl 0 rfl) ?_
    refine va_get (D := (dC, dI)) (ci := 1) (v := .int xk4) (C := RX1) (T := TX1) (N := 19) hx hb hts iwX1 hown hK hP 2 rfl rfl 4 (by decide) (hts (.fieldLink RX1 32 "ModulePlayer$Channel" "sample" "I") (List.mem_cons_of_mem _ kw_145)) (fun _ h9 => h9) rfl dX1_takeOffset_53 ?_
    refine g_callqQ (X := [(bk, .inr (0, [.ref sa, .ref bb, .int us])), (sa, .inl (cS, 32, .inr (.inr (.inr (.inr g))))), (h, .inr (1, [.ref bk, .ref vi, .ref tr, .int xk3, .int xk4, .int xk5, .int xk6, .int xk7, .int xk8, .int xk9, .int xk10, .int (xk3 &&& 255), .int xk12, .int xk13, .int xk14, .int xk15, .long tv_36, .int xk17, .int mu]))]) (wr := [(h, .inr (1, [.ref bk, .ref vi, .ref tr, .int xk3, .int xk4, .int xk5, .int xk6, .int xk7, .int xk8, .int xk9, .int xk10, .int (xk3 &&& 255), .int xk12, .int xk13, .int xk14, .int xk15, .long tv_36, .int xk17, .int mu]))]) (va_runV (As := [.int xk4]) (rest := [.int tv_47]) ⟨hx, hb, hml, hown, hts⟩ (k_getA l dC dI H.size bk sa bb us ad cS g xk4 (hg)) (cwV 1 hts (gG_V kw_694 kw_405 kw_406 kw_22 kw_407) rfl rfl rfl (by decide +kernel) ⟨Nat.le_of_ble_eq_true rfl, Nat.le_of_ble_eq_true rfl⟩) (g_preV (ws := [(bk, .inr (0, [.ref sa, .ref bb, .int us])), (sa, .inl (cS, 32, .inr (.inr (.inr (.inr g))))), (h, .inr (1, [.ref bk, .ref vi, .ref tr, .int xk3, .int xk4, .int xk5, .int xk6, .int xk7, .int xk8, .int xk9, .int xk10, .int (xk3 &&& 255), .int xk12, .int xk13, .int xk14, .int xk15, .long tv_36, .int xk17, .int mu]))]) (C := RX0) (T := TX0) (N := 3) hP.left hD.left hK hS hA hN hZ (q0 := 0) rfl rfl [0, 1] (by decide +kernel) rfl [0] rfl) rfl rfl hl.1 rfl (lv_room (Nat.le_of_ble_eq_true rfl)) dX1_takeOffset_56 ⟨Nat.le_of_ble_eq_true rfl, Nat.le_of_ble_eq_true rfl⟩) hP hD hK hS hA [0, 1] [2] rfl rfl (by decide +kernel) (by decide +kernel) (fun r_56 w ty1 H locs hw_56 hP hD _ hS => ?_)
    rcases hw_56 with ⟨kf_56, hu, hr_56, hkf_56⟩
    cases hu
    have hP : va_P (dC, dI) vwCl (([(h, .inr (1, [.ref bk, .ref vi, .ref tr, .int xk3, .int xk4, .int xk5, .int xk6, .int xk7, .int xk8, .int xk9, .int xk10, .int (xk3 &&& 255), .int xk12, .int xk13, .int xk14, .int xk15, .long tv_36, .int xk17, .int mu])), (bk, .inr (0, [.ref sa, .ref bb, .int us])), (sa, .inl (cS, 32, .inr (.inr (.inr (.inr g)))))] : va_W) ++ famN 32 ad le tu vo sr lo fr) H := hP
    have hD : va_D A (([(h, .inr (1, [.ref bk, .ref vi, .ref tr, .int xk3, .int xk4, .int xk5, .int xk6, .int xk7, .int xk8, .int xk9, .int xk10, .int (xk3 &&& 255), .int xk12, .int xk13, .int xk14, .int xk15, .long tv_36, .int xk17, .int mu])), (bk, .inr (0, [.ref sa, .ref bb, .int us])), (sa, .inl (cS, 32, .inr (.inr (.inr (.inr g)))))] : va_W) ++ famN 32 ad le tu vo sr lo fr) := hD
    subst hr_56
    refine W.eq (g2 := F0 m 59 ls [.ref (ad kf_56), .int tv_47]) rfl ?_
    refine va_get (D := (dC, dI)) (ci := 5) (v := .int (le kf_56)) (C := RX5) (T := TX5) (N := 6) hx hb hts iwX5 hown hK hP _ (fam_at (k := kf_56) (hkf_56)) rfl 0 (by decide) (hts (.fieldLink RX1 137 "ModulePlayer$Sample" "length" "I") (List.mem_cons_of_mem _ kw_707)) (fun _ h9 => h9) rfl dX1_takeOffset_59 ?_
    refine lv_topi (fun tv_59 etv_59 => ?_)
    refine lv_icmp_lt (tgt := 70) hx hb dX1_takeOffset_62 (by decide) (fun c_62 => ?_) (fun c_62 => ?_)
    · have hP9 := hP
      have hD9 := hD
      have hK9 := hK.sub (tys' := []) [] rfl
      exact W.vret hx hb hr (fun t ht hW => ⟨⟨((([(h, .inr (1, [.ref bk, .ref vi, .ref tr, .int xk3, .int xk4, .int xk5, .int xk6, .int xk7, .int xk8, .int xk9, .int xk10, .int (xk3 &&& 255), .int xk12, .int xk13, .int xk14, .int xk15, .long tv_36, .int xk17, .int mu])), (bk, .inr (0, [.ref sa, .ref bb, .int us])), (sa, .inl (cS, 32, .inr (.inr (.inr (.inr g)))))] : va_W) ++ famN 32 ad le tu vo sr lo fr), []), rfl, ⟨(xk3 &&& 255), xk17, tv_36, rfl⟩, by rw [ht]; exact hP9, va_K.moved hW.alike hK9, hD9⟩, hS.F ht⟩) hS.2.2 dX1_takeOffset_70
    refine lv_aload_n hx hb dX1_takeOffset_65 rfl (lv_at hl 0 rfl) ?_
    refine lv_iconst (v := 0) hx hb dX1_takeOffset_66 (by decide) ?_
    refine va_put (D := (dC, dI)) (ci := 1) (v := .int 0) (ty := tyX1 17) (C := RX1) (T := TX1) (N := 19) hx hb hts iwX1 tyX1 tyX1_ok nmX1 hown hK hP hD hS 0 rfl rfl 17 (by decide) (hts (.fieldLink RX1 72 "ModulePlayer$Channel" "sounds" "Z") (List.mem_cons_of_mem _ kw_158)) (fun _ h9 => h9) rfl (by decide +kernel) (rfl) (rfl) (Nat.le_of_ble_eq_true rfl) dX1_takeOffset_67 (fun H locs hP hD hS => ?_)
    have hP : va_P (dC, dI) vwCl (([(h, .inr (1, [.ref bk, .ref vi, .ref tr, .int xk3, .int xk4, .int xk5, .int xk6, .int xk7, .int xk8, .int xk9, .int xk10, .int (xk3 &&& 255), .int xk12, .int xk13, .int xk14, .int xk15, .long tv_36, .int 0, .int mu])), (bk, .inr (0, [.ref sa, .ref bb, .int us])), (sa, .inl (cS, 32, .inr (.inr (.inr (.inr g)))))] : va_W) ++ famN 32 ad le tu vo sr lo fr) H := hP
    have hD : va_D A (([(h, .inr (1, [.ref bk, .ref vi, .ref tr, .int xk3, .int xk4, .int xk5, .int xk6, .int xk7, .int xk8, .int xk9, .int xk10, .int (xk3 &&& 255), .int xk12, .int xk13, .int xk14, .int xk15, .long tv_36, .int 0, .int mu])), (bk, .inr (0, [.ref sa, .ref bb, .int us])), (sa, .inl (cS, 32, .inr (.inr (.inr (.inr g)))))] : va_W) ++ famN 32 ad le tu vo sr lo fr) := hD
    have hP9 := hP
    have hD9 := hD
    have hK9 := hK.sub (tys' := []) [] rfl
    exact W.vret hx hb hr (fun t ht hW => ⟨⟨((([(h, .inr (1, [.ref bk, .ref vi, .ref tr, .int xk3, .int xk4, .int xk5, .int xk6, .int xk7, .int xk8, .int xk9, .int xk10, .int (xk3 &&& 255), .int xk12, .int xk13, .int xk14, .int xk15, .long tv_36, .int 0, .int mu])), (bk, .inr (0, [.ref sa, .ref bb, .int us])), (sa, .inl (cS, 32, .inr (.inr (.inr (.inr g)))))] : va_W) ++ famN 32 ad le tu vo sr lo fr), []), rfl, ⟨(xk3 &&& 255), 0, tv_36, rfl⟩, by rw [ht]; exact hP9, va_K.moved hW.alike hK9, hD9⟩, hS.F ht⟩) hS.2.2 dX1_takeOffset_70
  have hP9 := va_P.part (X := [(bk, .inr (0, [.ref sa, .ref bb, .int us])), (sa, .inl (cS, 32, .inr (.inr (.inr (.inr g))))), (h, .inr (1, [.ref bk, .ref vi, .ref tr, .int xk3, .int xk4, .int xk5, .int xk6, .int xk7, .int xk8, .int xk9, .int xk10, .int (xk3 &&& 255), .int xk12, .int xk13, .int xk14, .int xk15, .long xk16, .int xk17, .int mu]))]) (cx := [(h, .inr (1, [.ref bk, .ref vi, .ref tr, .int xk3, .int xk4, .int xk5, .int xk6, .int xk7, .int xk8, .int xk9, .int xk10, .int (xk3 &&& 255), .int xk12, .int xk13, .int xk14, .int xk15, .long xk16, .int xk17, .int mu])), (bk, .inr (0, [.ref sa, .ref bb, .int us])), (sa, .inl (cS, 32, .inr (.inr (.inr (.inr g)))))]) hP [2, 0, 1] rfl
  have hD9 := va_D.part (X := [(bk, .inr (0, [.ref sa, .ref bb, .int us])), (sa, .inl (cS, 32, .inr (.inr (.inr (.inr g))))), (h, .inr (1, [.ref bk, .ref vi, .ref tr, .int xk3, .int xk4, .int xk5, .int xk6, .int xk7, .int xk8, .int xk9, .int xk10, .int (xk3 &&& 255), .int xk12, .int xk13, .int xk14, .int xk15, .long xk16, .int xk17, .int mu]))]) (cx := [(h, .inr (1, [.ref bk, .ref vi, .ref tr, .int xk3, .int xk4, .int xk5, .int xk6, .int xk7, .int xk8, .int xk9, .int xk10, .int (xk3 &&& 255), .int xk12, .int xk13, .int xk14, .int xk15, .long xk16, .int xk17, .int mu])), (bk, .inr (0, [.ref sa, .ref bb, .int us])), (sa, .inl (cS, 32, .inr (.inr (.inr (.inr g)))))]) hD [2, 0, 1] (by decide +kernel) rfl
  have hK9 := hK.sub (tys' := []) [] rfl
  exact W.vret hx hb hr (fun t ht hW => ⟨⟨((([(h, .inr (1, [.ref bk, .ref vi, .ref tr, .int xk3, .int xk4, .int xk5, .int xk6, .int xk7, .int xk8, .int xk9, .int xk10, .int (xk3 &&& 255), .int xk12, .int xk13, .int xk14, .int xk15, .long xk16, .int xk17, .int mu])), (bk, .inr (0, [.ref sa, .ref bb, .int us])), (sa, .inl (cS, 32, .inr (.inr (.inr (.inr g)))))] : va_W) ++ famN 32 ad le tu vo sr lo fr), []), rfl, ⟨(xk3 &&& 255), xk17, xk16, rfl⟩, by rw [ht]; exact hP9, va_K.moved hW.alike hK9, hD9⟩, hS.F ht⟩) hS.2.2 dX1_takeOffset_22

set_option maxHeartbeats 400000 in
set_option maxRecDepth 100000 in
theorem k_rowOfBreak (l : Launch) (dC : Nat → ClassId) (dI : Nat → Nat → Nat) (sz : Nat) (h bk vi tr : Nat) (xk3 xk4 xk5 xk6 xk7 xk8 xk9 xk10 xk11 xk12 xk13 xk14 xk15 xk17 mu : Int32) (xk16 : Int64) : Met l yX1_rowOfBreak (wsG (.code yX1_rowOfBreak cX1_rowOfBreak 2 (some .int))) ({ frames := 1, cells := 0, slots := 0, locals := 20 }) (va_Pc [.ref h] (gP (dC, dI) [] [(h, .inr (1, [.ref bk, .ref vi, .ref tr, .int xk3, .int xk4, .int xk5, .int xk6, .int xk7, .int xk8, .int xk9, .int xk10, .int xk11, .int xk12, .int xk13, .int xk14, .int xk15, .long xk16, .int xk17, .int mu]))] sz)) (va_Qi (fun (r : Int32) (u : va_W × gT) => u = ([(h, .inr (1, [.ref bk, .ref vi, .ref tr, .int xk3, .int xk4, .int xk5, .int xk6, .int xk7, .int xk8, .int xk9, .int xk10, .int xk11, .int xk12, .int xk13, .int xk14, .int xk15, .long xk16, .int xk17, .int mu]))], [])) (gB (dC, dI) (va_A [(h, .inr (1, [.ref bk, .ref vi, .ref tr, .int xk3, .int xk4, .int xk5, .int xk6, .int xk7, .int xk8, .int xk9, .int xk10, .int xk11, .int xk12, .int xk13, .int xk14, .int xk15, .long xk16, .int xk17, .int mu]))] sz)) (va_A [(h, .inr (1, [.ref bk, .ref vi, .ref tr, .int xk3, .int xk4, .int xk5, .int xk6, .int xk7, .int xk8, .int xk9, .int xk10, .int xk11, .int xk12, .int xk13, .int xk14, .int xk15, .long xk16, .int xk17, .int mu]))] sz)) 0 0 (va_A [(h, .inr (1, [.ref bk, .ref vi, .ref tr, .int xk3, .int xk4, .int xk5, .int xk6, .int xk7, .int xk8, .int xk9, .int xk10, .int xk11, .int xk12, .int xk13, .int xk14, .int xk15, .long xk16, .int xk17, .int mu]))] sz) := by
  refine Met.ofW (cc := cX1_rowOfBreak) (maxL := 2) (ret := (some .int)) (by decide) rfl ?_
  intro p e s m args below meth c s₁ B hml hv
  obtain ⟨rfl, hsz, hP, hK, hD0, hN, hZ⟩ := hv
  have hx := B.exec
  have hb := B.bytes
  have hr := B.returns
  have hts := atoms_spec (ws := (wsG (.code yX1_rowOfBreak cX1_rowOfBreak 2 (some .int)))) B.pre
  have hown : s.vm.findClass RX1 = some m.cls := findClass_of_methodNamed B.named
  have hlocks := B.notSynchronized
  subst hsz
  have hD := hD0.self (sz := s.heap.size)
  generalize hAe : va_A [(h, .inr (1, [.ref bk, .ref vi, .ref tr, .int xk3, .int xk4, .int xk5, .int xk6, .int xk7, .int xk8, .int xk9, .int xk10, .int xk11, .int xk12, .int xk13, .int xk14, .int xk15, .long xk16, .int xk17, .int mu]))] s.heap.size = A at hD hZ ⊢
  have hA : ∀ q : Nat, s.heap.size ≤ q → A q := fun q h => by rw [← hAe]; exact Or.inr h
  have hl := lv_entry ([.ref h]) (n := 2) (Nat.le_of_ble_eq_true rfl)
  rw [lg_entry_eq]
  generalize (lg_sl ([.ref h]) ++ List.replicate (2 - (lg_sl ([.ref h])).length) Slot.unset).toArray = ls at hl ⊢
  have hl : lv_has ls 2 [(0, .ref h)] := hl
  refine g_start (A := A) hP (fun H locs hP hS => ?_)
  refine lv_bipush (v := 10) hx hb dX1_rowOfBreak_0 (by decide) ?_
  refine lv_aload_n hx hb dX1_rowOfBreak_2 rfl (lv_at hl 0 rfl) ?_
  refine g_calli (wr := []) (va_runV (As := []) (rest := [.int 10]) ⟨hx, hb, hml, hown, hts⟩ (k_x l dC dI H.size h bk vi tr xk3 xk4 xk5 xk6 xk7 xk8 xk9 xk10 xk11 xk12 xk13 xk14 xk15 xk17 mu xk16 ) (cwV 0 hts (gG_V kw_679 kw_680 kw_681 kw_39 kw_682) rfl rfl rfl (by decide +kernel) ⟨Nat.le_of_ble_eq_true rfl, Nat.le_of_ble_eq_true rfl⟩) (g_preV (C := RX1) (T := TX1) (N := 19) hP hD hK hS hA hN hZ (q0 := 0) rfl rfl [0] (by decide +kernel) rfl [] rfl) rfl rfl hl.1 rfl (lv_room (Nat.le_of_ble_eq_true rfl)) dX1_rowOfBreak_3 ⟨Nat.le_of_ble_eq_true rfl, Nat.le_of_ble_eq_true rfl⟩) hP hD hK hS hA [0] [] rfl rfl (by decide +kernel) (by decide +kernel) (fun r_3 w ty1 H locs hw_3 hP hD _ hS => ?_)
  rcases hw_3 with ⟨hu, hr_3⟩
  cases hu
  have hP : va_P (dC, dI) vwCl [(h, .inr (1, [.ref bk, .ref vi, .ref tr, .int xk3, .int xk4, .int xk5, .int xk6, .int xk7, .int xk8, .int xk9, .int xk10, .int xk11, .int xk12, .int xk13, .int xk14, .int xk15, .long xk16, .int xk17, .int mu]))] H := hP
  have hD : va_D A [(h, .inr (1, [.ref bk, .ref vi, .ref tr, .int xk3, .int xk4, .int xk5, .int xk6, .int xk7, .int xk8, .int xk9, .int xk10, .int xk11, .int xk12, .int xk13, .int xk14, .int xk15, .long xk16, .int xk17, .int mu]))] := hD
  refine g_topi (y := (xk3 >>> (4 &&& 31)) &&& 15) hr_3 ?_
  refine lv_imul hx hb dX1_rowOfBreak_6 ?_
  refine lv_topi (fun tv_6 etv_6 => ?_)
  refine lv_aload_n hx hb dX1_rowOfBreak_7 rfl (lv_at hl 0 rfl) ?_
  refine g_calli (wr := []) (va_runV (As := []) (rest := [.int tv_6]) ⟨hx, hb, hml, hown, hts⟩ (k_y l dC dI H.size h bk vi tr xk3 xk4 xk5 xk6 xk7 xk8 xk9 xk10 xk11 xk12 xk13 xk14 xk15 xk17 mu xk16 ) (cwV 0 hts (gG_V kw_683 kw_684 kw_685 kw_39 kw_686) rfl rfl rfl (by decide +kernel) ⟨Nat.le_of_ble_eq_true rfl, Nat.le_of_ble_eq_true rfl⟩) (g_preV (C := RX1) (T := TX1) (N := 19) hP hD hK hS hA hN hZ (q0 := 0) rfl rfl [0] (by decide +kernel) rfl [] rfl) rfl rfl hl.1 rfl (lv_room (Nat.le_of_ble_eq_true rfl)) dX1_rowOfBreak_8 ⟨Nat.le_of_ble_eq_true rfl, Nat.le_of_ble_eq_true rfl⟩) hP hD hK hS hA [0] [] rfl rfl (by decide +kernel) (by decide +kernel) (fun r_8 w ty1 H locs hw_8 hP hD _ hS => ?_)
  rcases hw_8 with ⟨hu, hr_8⟩
  cases hu
  have hP : va_P (dC, dI) vwCl [(h, .inr (1, [.ref bk, .ref vi, .ref tr, .int xk3, .int xk4, .int xk5, .int xk6, .int xk7, .int xk8, .int xk9, .int xk10, .int xk11, .int xk12, .int xk13, .int xk14, .int xk15, .long xk16, .int xk17, .int mu]))] H := hP
  have hD : va_D A [(h, .inr (1, [.ref bk, .ref vi, .ref tr, .int xk3, .int xk4, .int xk5, .int xk6, .int xk7, .int xk8, .int xk9, .int xk10, .int xk11, .int xk12, .int xk13, .int xk14, .int xk15, .long xk16, .int xk17, .int mu]))] := hD
  refine g_topi (y := xk3 &&& 15) hr_8 ?_
  refine lv_iadd hx hb dX1_rowOfBreak_11 ?_
  refine lv_topi (fun tv_11 etv_11 => ?_)
  refine lv_istore_n (lv' := [(1, .int tv_11), (0, .ref h)]) hx hb dX1_rowOfBreak_12 rfl hl (by decide) rfl (fun ls hl => ?_)
  refine lv_iload_n hx hb dX1_rowOfBreak_13 rfl (lv_at hl 0 rfl) ?_
  refine lv_bipush (v := 64) hx hb dX1_rowOfBreak_14 (by decide) ?_
  refine lv_icmp_ge (tgt := 23) hx hb dX1_rowOfBreak_16 (by decide) (fun c_16 => ?_) (fun c_16 => ?_)
  · refine lv_iconst (v := 0) hx hb dX1_rowOfBreak_23 (by decide) ?_
    have hP9 := hP
    have hD9 := hD
    have hK9 := hK.sub (tys' := []) [] rfl
    exact W.iret (v := 0) hx hb hr (fun t ht hW => ⟨⟨0, ([(h, .inr (1, [.ref bk, .ref vi, .ref tr, .int xk3, .int xk4, .int xk5, .int xk6, .int xk7, .int xk8, .int xk9, .int xk10, .int xk11, .int xk12, .int xk13, .int xk14, .int xk15, .long xk16, .int xk17, .int mu]))], []), rfl, rfl, by rw [ht]; exact hP9, va_K.moved hW.alike hK9, hD9⟩, hS.F ht⟩) hS.2.2 dX1_rowOfBreak_24
  refine lv_iload_n hx hb dX1_rowOfBreak_19 rfl (lv_at hl 0 rfl) ?_
  refine lv_goto (tgt := 24) hx hb dX1_rowOfBreak_20 (by decide) ?_
  have hP9 := hP
  have hD9 := hD
  have hK9 := hK.sub (tys' := []) [] rfl
  exact W.iret (v := tv_11) hx hb hr (fun t ht hW => ⟨⟨tv_11, ([(h, .inr (1, [.ref bk, .ref vi, .ref tr, .int xk3, .int xk4, .int xk5, .int xk6, .int xk7, .int xk8, .int xk9, .int xk10, .int xk11, .int xk12, .int xk13, .int xk14, .int xk15, .long xk16, .int xk17, .int mu]))], []), rfl, rfl, by rw [ht]; exact hP9, va_K.moved hW.alike hK9, hD9⟩, hS.F ht⟩) hS.2.2 dX1_rowOfBreak_24

set_option maxHeartbeats 400000 in
set_option maxRecDepth 100000 in
theorem k_takePace (l : Launch) (dC : Nat → ClassId) (dI : Nat → Nat → Nat) (sz : Nat) (h bk vi tr : Nat) (xk3 xk4 xk5 xk6 xk7 xk8 xk9 xk10 xk11 xk12 xk13 xk14 xk15 xk17 mu : Int32) (xk16 : Int64) (aF aS be : Nat) (xw2 xw4 xw5 xw6 tks xw8 xw9 xw10 xw11 xw12 : Int32) (tp : Nat) (htp1 : 32 ≤ tp) (htp2 : tp ≤ 255) : Met l yX1_takePace (wsG (.code yX1_takePace cX1_takePace 2 none)) ({ frames := 1, cells := 0, slots := 0, locals := 20 }) (va_Pc [.ref h, .ref aF] (gP (dC, dI) [] [(h, .inr (1, [.ref bk, .ref vi, .ref tr, .int xk3, .int xk4, .int xk5, .int xk6, .int xk7, .int xk8, .int xk9, .int xk10, .int xk11, .int xk12, .int xk13, .int xk14, .int xk15, .long xk16, .int xk17, .int mu])), (aF, .inr (2, [.ref aS, .ref be, .int xw2, .int (nI tp), .int xw4, .int xw5, .int xw6, .int tks, .int xw8, .int xw9, .int xw10, .int xw11, .int xw12]))] sz)) (va_Qv (fun u : va_W × gT => ∃ (yw2 : Int32) (tq : Nat), u = ([(h, .inr (1, [.ref bk, .ref vi, .ref tr, .int xk3, .int xk4, .int xk5, .int xk6, .int xk7, .int xk8, .int xk9, .int xk10, .int xk11, .int xk12, .int xk13, .int xk14, .int xk15, .long xk16, .int xk17, .int mu])), (aF, .inr (2, [.ref aS, .ref be, .int yw2, .int (nI tq), .int xw4, .int xw5, .int xw6, .int tks, .int xw8, .int xw9, .int xw10, .int xw11, .int xw12]))], []) ∧ 32 ≤ tq ∧ tq ≤ 255) (gB (dC, dI) (va_A [(h, .inr (1, [.ref bk, .ref vi, .ref tr, .int xk3, .int xk4, .int xk5, .int xk6, .int xk7, .int xk8, .int xk9, .int xk10, .int xk11, .int xk12, .int xk13, .int xk14, .int xk15, .long xk16, .int xk17, .int mu])), (aF, .inr (2, [.ref aS, .ref be, .int xw2, .int (nI tp), .int xw4, .int xw5, .int xw6, .int tks, .int xw8, .int xw9, .int xw10, .int xw11, .int xw12]))] sz)) (va_A [(h, .inr (1, [.ref bk, .ref vi, .ref tr, .int xk3, .int xk4, .int xk5, .int xk6, .int xk7, .int xk8, .int xk9, .int xk10, .int xk11, .int xk12, .int xk13, .int xk14, .int xk15, .long xk16, .int xk17, .int mu])), (aF, .inr (2, [.ref aS, .ref be, .int xw2, .int (nI tp), .int xw4, .int xw5, .int xw6, .int tks, .int xw8, .int xw9, .int xw10, .int xw11, .int xw12]))] sz)) 0 0 (va_A [(h, .inr (1, [.ref bk, .ref vi, .ref tr, .int xk3, .int xk4, .int xk5, .int xk6, .int xk7, .int xk8, .int xk9, .int xk10, .int xk11, .int xk12, .int xk13, .int xk14, .int xk15, .long xk16, .int xk17, .int mu])), (aF, .inr (2, [.ref aS, .ref be, .int xw2, .int (nI tp), .int xw4, .int xw5, .int xw6, .int tks, .int xw8, .int xw9, .int xw10, .int xw11, .int xw12]))] sz) := by
  refine Met.ofW (cc := cX1_takePace) (maxL := 2) (ret := none) (by decide) rfl ?_
  intro p e s m args below meth c s₁ B hml hv
  obtain ⟨rfl, hsz, hP, hK, hD0, hN, hZ⟩ := hv
  have hx := B.exec
  have hb := B.bytes
  have hr := B.returns
  have hts := atoms_spec (ws := (wsG (.code yX1_takePace cX1_takePace 2 none))) B.pre
  have hown : s.vm.findClass RX1 = some m.cls := findClass_of_methodNamed B.named
  have hlocks := B.notSynchronized
  subst hsz
  have hD := hD0.self (sz := s.heap.size)
  generalize hAe : va_A [(h, .inr (1, [.ref bk, .ref vi, .ref tr, .int xk3, .int xk4, .int xk5, .int xk6, .int xk7, .int xk8, .int xk9, .int xk10, .int xk11, .int xk12, .int xk13, .int xk14, .int xk15, .long xk16, .int xk17, .int mu])), (aF, .inr (2, [.ref aS, .ref be, .int xw2, .int (nI tp), .int xw4, .int xw5, .int xw6, .int tks, .int xw8, .int xw9, .int xw10, .int xw11, .int xw12]))] s.heap.size = A at hD hZ ⊢
  have hA : ∀ q : Nat, s.heap.size ≤ q → A q := fun q h => by rw [← hAe]; exact Or.inr h
  have hl := lv_entry ([.ref h, .ref aF]) (n := 2) (Nat.le_of_ble_eq_true rfl)
  rw [lg_entry_eq]
  generalize (lg_sl ([.ref h, .ref aF]) ++ List.replicate (2 - (lg_sl ([.ref h, .ref aF])).length) Slot.unset).toArray = ls at hl ⊢
  have hl : lv_has ls 2 [(0, .ref h), (1, .ref aF)] := hl
  refine g_start (A := A) hP (fun H locs hP hS => ?_)
  refine lv_aload_n hx hb dX1_takePace_0 rfl (lv_at hl 0 rfl) ?_
  refine g_calli (wr := [(aF, .inr (2, [.ref aS, .ref be, .int xw2, .int (nI tp), .int xw4, .int xw5, .int xw6, .int tks, .int xw8, .int xw9, .int xw10, .int xw11, .int xw12]))]) (va_runV (As := []) (rest := []) ⟨hx, hb, hml, hown, hts⟩ (k_number l dC dI H.size h bk vi tr xk3 xk4 xk5 xk6 xk7 xk8 xk9 xk10 xk11 xk12 xk13 xk14 xk15 xk17 mu xk16 ) (cwV 0 hts (gG_V kw_715 kw_716 kw_717 kw_39 kw_718) rfl rfl rfl (by decide +kernel) ⟨Nat.le_of_ble_eq_true rfl, Nat.le_of_ble_eq_true rfl⟩) (g_preV (C := RX1) (T := TX1) (N := 19) hP hD hK hS hA hN hZ (q0 := 0) rfl rfl [0] (by decide +kernel) rfl [] rfl) rfl rfl hl.1 rfl (lv_room (Nat.le_of_ble_eq_true rfl)) dX1_takePace_1 ⟨Nat.le_of_ble_eq_true rfl, Nat.le_of_ble_eq_true rfl⟩) hP hD hK hS hA [0] [1] rfl rfl (by decide +kernel) (by decide +kernel) (fun r_1 w ty1 H locs hw_1 hP hD _ hS => ?_)
  rcases hw_1 with ⟨hu, hr_1⟩
  cases hu
  have hP : va_P (dC, dI) vwCl [(aF, .inr (2, [.ref aS, .ref be, .int xw2, .int (nI tp), .int xw4, .int xw5, .int xw6, .int tks, .int xw8, .int xw9, .int xw10, .int xw11, .int xw12])), (h, .inr (1, [.ref bk, .ref vi, .ref tr, .int xk3, .int xk4, .int xk5, .int xk6, .int xk7, .int xk8, .int xk9, .int xk10, .int xk11, .int xk12, .int xk13, .int xk14, .int xk15, .long xk16, .int xk17, .int mu]))] H := hP
  have hD : va_D A [(aF, .inr (2, [.ref aS, .ref be, .int xw2, .int (nI tp), .int xw4, .int xw5, .int xw6, .int tks, .int xw8, .int xw9, .int xw10, .int xw11, .int xw12])), (h, .inr (1, [.ref bk, .ref vi, .ref tr, .int xk3, .int xk4, .int xk5, .int xk6, .int xk7, .int xk8, .int xk9, .int xk10, .int xk11, .int xk12, .int xk13, .int xk14, .int xk15, .long xk16, .int xk17, .int mu]))] := hD
  refine g_topi (y := xk3 &&& 255) hr_1 ?_
  refine lv_bipush (v := 32) hx hb dX1_takePace_4 (by decide) ?_
  refine lv_icmp_lt (tgt := 20) hx hb dX1_takePace_6 (by decide) (fun c_6 => ?_) (fun c_6 => ?_)
  · refine lv_aload_n hx hb dX1_takePace_20 rfl (lv_at hl 0 rfl) ?_
    refine g_calli (wr := [(aF, .inr (2, [.ref aS, .ref be, .int xw2, .int (nI tp), .int xw4, .int xw5, .int xw6, .int tks, .int xw8, .int xw9, .int xw10, .int xw11, .int xw12]))]) (va_runV (As := []) (rest := []) ⟨hx, hb, hml, hown, hts⟩ (k_number l dC dI H.size h bk vi tr xk3 xk4 xk5 xk6 xk7 xk8 xk9 xk10 xk11 xk12 xk13 xk14 xk15 xk17 mu xk16 ) (cwV 0 hts (gG_V kw_715 kw_716 kw_717 kw_39 kw_718) rfl rfl rfl (by decide +kernel) ⟨Nat.le_of_ble_eq_true rfl, Nat.le_of_ble_eq_true rfl⟩) (g_preV (C := RX1) (T := TX1) (N := 19) hP hD hK hS hA hN hZ (q0 := 1) rfl rfl [1] (by decide +kernel) rfl [] rfl) rfl rfl hl.1 rfl (lv_room (Nat.le_of_ble_eq_true rfl)) dX1_takePace_21 ⟨Nat.le_of_ble_eq_true rfl, Nat.le_of_ble_eq_true rfl⟩) hP hD hK hS hA [1] [0] rfl rfl (by decide +kernel) (by decide +kernel) (fun r_21 w ty1 H locs hw_21 hP hD _ hS => ?_)
    rcases hw_21 with ⟨hu, hr_21⟩
    cases hu
    have hP : va_P (dC, dI) vwCl [(aF, .inr (2, [.ref aS, .ref be, .int xw2, .int (nI tp), .int xw4, .int xw5, .int xw6, .int tks, .int xw8, .int xw9, .int xw10, .int xw11, .int xw12])), (h, .inr (1, [.ref bk, .ref vi, .ref tr, .int xk3, .int xk4, .int xk5, .int xk6, .int xk7, .int xk8, .int xk9, .int xk10, .int xk11, .int xk12, .int xk13, .int xk14, .int xk15, .long xk16, .int xk17, .int mu]))] H := hP
    have hD : va_D A [(aF, .inr (2, [.ref aS, .ref be, .int xw2, .int (nI tp), .int xw4, .int xw5, .int xw6, .int tks, .int xw8, .int xw9, .int xw10, .int xw11, .int xw12])), (h, .inr (1, [.ref bk, .ref vi, .ref tr, .int xk3, .int xk4, .int xk5, .int xk6, .int xk7, .int xk8, .int xk9, .int xk10, .int xk11, .int xk12, .int xk13, .int xk14, .int xk15, .long xk16, .int xk17, .int mu]))] := hD
    refine g_topi (y := xk3 &&& 255) hr_21 ?_
    refine lv_if_le (tgt := 35) hx hb dX1_takePace_24 (by decide) (fun c_24 => ?_) (fun c_24 => ?_)
    · have hP9 := hP.sub (ws' := [(h, .inr (1, [.ref bk, .ref vi, .ref tr, .int xk3, .int xk4, .int xk5, .int xk6, .int xk7, .int xk8, .int xk9, .int xk10, .int xk11, .int xk12, .int xk13, .int xk14, .int xk15, .long xk16, .int xk17, .int mu])), (aF, .inr (2, [.ref aS, .ref be, .int xw2, .int (nI tp), .int xw4, .int xw5, .int xw6, .int tks, .int xw8, .int xw9, .int xw10, .int xw11, .int xw12]))]) [1, 0] rfl
      have hD9 := hD.sub (ws' := [(h, .inr (1, [.ref bk, .ref vi, .ref tr, .int xk3, .int xk4, .int xk5, .int xk6, .int xk7, .int xk8, .int xk9, .int xk10, .int xk11, .int xk12, .int xk13, .int xk14, .int xk15, .long xk16, .int xk17, .int mu])), (aF, .inr (2, [.ref aS, .ref be, .int xw2, .int (nI tp), .int xw4, .int xw5, .int xw6, .int tks, .int xw8, .int xw9, .int xw10, .int xw11, .int xw12]))]) [1, 0] (by decide +kernel) rfl
      have hK9 := hK.sub (tys' := []) [] rfl
      exact W.vret hx hb hr (fun t ht hW => ⟨⟨([(h, .inr (1, [.ref bk, .ref vi, .ref tr, .int xk3, .int xk4, .int xk5, .int xk6, .int xk7, .int xk8, .int xk9, .int xk10, .int xk11, .int xk12, .int xk13, .int xk14, .int xk15, .long xk16, .int xk17, .int mu])), (aF, .inr (2, [.ref aS, .ref be, .int xw2, .int (nI tp), .int xw4, .int xw5, .int xw6, .int tks, .int xw8, .int xw9, .int xw10, .int xw11, .int xw12]))], []), rfl, ⟨xw2, tp, rfl, htp1, htp2⟩, by rw [ht]; exact hP9, va_K.moved hW.alike hK9, hD9⟩, hS.F ht⟩) hS.2.2 dX1_takePace_35
    refine lv_aload_n hx hb dX1_takePace_27 rfl (lv_at hl 1 rfl) ?_
    refine lv_aload_n hx hb dX1_takePace_28 rfl (lv_at hl 0 rfl) ?_
    refine g_calli (wr := [(aF, .inr (2, [.ref aS, .ref be, .int xw2, .int (nI tp), .int xw4, .int xw5, .int xw6, .int tks, .int xw8, .int xw9, .int xw10, .int xw11, .int xw12]))]) (va_runV (As := []) (rest := [.ref aF]) ⟨hx, hb, hml, hown, hts⟩ (k_number l dC dI H.size h bk vi tr xk3 xk4 xk5 xk6 xk7 xk8 xk9 xk10 xk11 xk12 xk13 xk14 xk15 xk17 mu xk16 ) (cwV 0 hts (gG_V kw_715 kw_716 kw_717 kw_39 kw_718) rfl rfl rfl (by decide +kernel) ⟨Nat.le_of_ble_eq_true rfl, Nat.le_of_ble_eq_true rfl⟩) (g_preV (C := RX1) (T := TX1) (N := 19) hP hD hK hS hA hN hZ (q0 := 1) rfl rfl [1] (by decide +kernel) rfl [] rfl) rfl rfl hl.1 rfl (lv_room (Nat.le_of_ble_eq_true rfl)) dX1_takePace_29 ⟨Nat.le_of_ble_eq_true rfl, Nat.le_of_ble_eq_true rfl⟩) hP hD hK hS hA [1] [0] rfl rfl (by decide +kernel) (by decide +kernel) (fun r_29 w ty1 H locs hw_29 hP hD _ hS => ?_)
    rcases hw_29 with ⟨hu, hr_29⟩
    cases hu
    have hP : va_P (dC, dI) vwCl [(aF, .inr (2, [.ref aS, .ref be, .int xw2, .int (nI tp), .int xw4, .int xw5, .int xw6, .int tks, .int xw8, .int xw9, .int xw10, .int xw11, .int xw12])), (h, .inr (1, [.ref bk, .ref vi, .ref tr, .int xk3, .int xk4, .int xk5, .int xk6, .int xk7, .int xk8, .int xk9, .int xk10, .int xk11, .int xk12, .int xk13, .int xk14, .int xk15, .long xk16, .int xk17, .int mu]))] H := hP
    have hD : va_D A [(aF, .inr (2, [.ref aS, .ref be, .int xw2, .int (nI tp), .int xw4, .int xw5, .int xw6, .int tks, .int xw8, .int xw9, .int xw10, .int xw11, .int xw12])), (h, .inr (1, [.ref bk, .ref vi, .ref tr, .int xk3, .int xk4, .int xk5, .int xk6, .int xk7, .int xk8, .int xk9, .int xk10, .int xk11, .int xk12, .int xk13, .int xk14, .int xk15, .long xk16, .int xk17, .int mu]))] := hD
    refine g_topi (y := xk3 &&& 255) hr_29 ?_
    refine va_put (D := (dC, dI)) (ci := 2) (v := .int (xk3 &&& 255)) (ty := tyX2 2) (C := RX2) (T := TX2) (N := 13) hx hb hts iwX2 tyX2 tyX2_ok nmX2 hown hK hP hD hS 0 rfl rfl 2 (by decide) (hts (.fieldLink RX1 178 "ModulePlayer$Flow" "speed" "I") (List.mem_cons_of_mem _ kw_758)) (fun _ h9 => h9) rfl (by decide +kernel) (rfl) (rfl) (Nat.le_of_ble_eq_true rfl) dX1_takePace_32 (fun H locs hP hD hS => ?_)
    have hP : va_P (dC, dI) vwCl [(aF, .inr (2, [.ref aS, .ref be, .int (xk3 &&& 255), .int (nI tp), .int xw4, .int xw5, .int xw6, .int tks, .int xw8, .int xw9, .int xw10, .int xw11, .int xw12])), (h, .inr (1, [.ref bk, .ref vi, .ref tr, .int xk3, .int xk4, .int xk5, .int xk6, .int xk7, .int xk8, .int xk9, .int xk10, .int xk11, .int xk12, .int xk13, .int xk14, .int xk15, .long xk16, .int xk17, .int mu]))] H := hP
    have hD : va_D A [(aF, .inr (2, [.ref aS, .ref be, .int (xk3 &&& 255), .int (nI tp), .int xw4, .int xw5, .int xw6, .int tks, .int xw8, .int xw9, .int xw10, .int xw11, .int xw12])), (h, .inr (1, [.ref bk, .ref vi, .ref tr, .int xk3, .int xk4, .int xk5, .int xk6, .int xk7, .int xk8, .int xk9, .int xk10, .int xk11, .int xk12, .int xk13, .int xk14, .int xk15, .long xk16, .int xk17, .int mu]))] := hD
    have hP9 := hP.sub (ws' := [(h, .inr (1, [.ref bk, .ref vi, .ref tr, .int xk3, .int xk4, .int xk5, .int xk6, .int xk7, .int xk8, .int xk9, .int xk10, .int xk11, .int xk12, .int xk13, .int xk14, .int xk15, .long xk16, .int xk17, .int mu])), (aF, .inr (2, [.ref aS, .ref be, .int (xk3 &&& 255), .int (nI tp), .int xw4, .int xw5, .int xw6, .int tks, .int xw8, .int xw9, .int xw10, .int xw11, .int xw12]))]) [1, 0] rfl
    have hD9 := hD.sub (ws' := [(h, .inr (1, [.ref bk, .ref vi, .ref tr, .int xk3, .int xk4, .int xk5, .int xk6, .int xk7, .int xk8, .int xk9, .int xk10, .int xk11, .int xk12, .int xk13, .int xk14, .int xk15, .long xk16, .int xk17, .int mu])), (aF, .inr (2, [.ref aS, .ref be, .int (xk3 &&& 255), .int (nI tp), .int xw4, .int xw5, .int xw6, .int tks, .int xw8, .int xw9, .int xw10, .int xw11, .int xw12]))]) [1, 0] (by decide +kernel) rfl
    have hK9 := hK.sub (tys' := []) [] rfl
    exact W.vret hx hb hr (fun t ht hW => ⟨⟨([(h, .inr (1, [.ref bk, .ref vi, .ref tr, .int xk3, .int xk4, .int xk5, .int xk6, .int xk7, .int xk8, .int xk9, .int xk10, .int xk11, .int xk12, .int xk13, .int xk14, .int xk15, .long xk16, .int xk17, .int mu])), (aF, .inr (2, [.ref aS, .ref be, .int (xk3 &&& 255), .int (nI tp), .int xw4, .int xw5, .int xw6, .int tks, .int xw8, .int xw9, .int xw10, .int xw11, .int xw12]))], []), rfl, ⟨(xk3 &&& 255), tp, rfl, htp1, htp2⟩, by rw [ht]; exact hP9, va_K.moved hW.alike hK9, hD9⟩, hS.F ht⟩) hS.2.2 dX1_takePace_35
  refine lv_aload_n hx hb dX1_takePace_9 rfl (lv_at hl 1 rfl) ?_
  refine lv_aload_n hx hb dX1_takePace_10 rfl (lv_at hl 0 rfl) ?_
  refine g_calli (wr := [(aF, .inr (2, [.ref aS, .ref be, .int xw2, .int (nI tp), .int xw4, .int xw5, .int xw6, .int tks, .int xw8, .int xw9, .int xw10, .int xw11, .int xw12]))]) (va_runV (As := []) (rest := [.ref aF]) ⟨hx, hb, hml, hown, hts⟩ (k_number l dC dI H.size h bk vi tr xk3 xk4 xk5 xk6 xk7 xk8 xk9 xk10 xk11 xk12 xk13 xk14 xk15 xk17 mu xk16 ) (cwV 0 hts (gG_V kw_715 kw_716 kw_717 kw_39 kw_718) rfl rfl rfl (by decide +kernel) ⟨Nat.le_of_ble_eq_true rfl, Nat.le_of_ble_eq_true rfl⟩) (g_preV (C := RX1) (T := TX1) (N := 19) hP hD hK hS hA hN hZ (q0 := 1) rfl rfl [1] (by decide +kernel) rfl [] rfl) rfl rfl hl.1 rfl (lv_room (Nat.le_of_ble_eq_true rfl)) dX1_takePace_11 ⟨Nat.le_of_ble_eq_true rfl, Nat.le_of_ble_eq_true rfl⟩) hP hD hK hS hA [1] [0] rfl rfl (by decide +kernel) (by decide +kernel) (fun r_11 w ty1 H locs hw_11 hP hD _ hS => ?_)
  rcases hw_11 with ⟨hu, hr_11⟩
  cases hu
  have hP : va_P (dC, dI) vwCl [(aF, .inr (2, [.ref aS, .ref be, .int xw2, .int (nI tp), .int xw4, .int xw5, .int xw6, .int tks, .int xw8, .int xw9, .int xw10, .int xw11, .int xw12])), (h, .inr (1, [.ref bk, .ref vi, .ref tr, .int xk3, .int xk4, .int xk5, .int xk6, .int xk7, .int xk8, .int xk9, .int xk10, .int xk11, .int xk12, .int xk13, .int xk14, .int xk15, .long xk16, .int xk17, .int mu]))] H := hP
  have hD : va_D A [(aF, .inr (2, [.ref aS, .ref be, .int xw2, .int (nI tp), .int xw4, .int xw5, .int xw6, .int tks, .int xw8, .int xw9, .int xw10, .int xw11, .int xw12])), (h, .inr (1, [.ref bk, .ref vi, .ref tr, .int xk3, .int xk4, .int xk5, .int xk6, .int xk7, .int xk8, .int xk9, .int xk10, .int xk11, .int xk12, .int xk13, .int xk14, .int xk15, .long xk16, .int xk17, .int mu]))] := hD
  refine g_topi (y := xk3 &&& 255) hr_11 ?_
  obtain ⟨tq, htq1, htq2, htqe⟩ := tempo_n (i_nlt.mp c_6)
  refine g_topi (y := nI tq) htqe ?_
  refine va_put (D := (dC, dI)) (ci := 2) (v := .int (nI tq)) (ty := tyX2 3) (C := RX2) (T := TX2) (N := 13) hx hb hts iwX2 tyX2 tyX2_ok nmX2 hown hK hP hD hS 0 rfl rfl 3 (by decide) (hts (.fieldLink RX1 175 "ModulePlayer$Flow" "tempo" "I") (List.mem_cons_of_mem _ kw_757)) (fun _ h9 => h9) rfl (by decide +kernel) (rfl) (rfl) (Nat.le_of_ble_eq_true rfl) dX1_takePace_14 (fun H locs hP hD hS => ?_)
  have hP : va_P (dC, dI) vwCl [(aF, .inr (2, [.ref aS, .ref be, .int xw2, .int (nI tq), .int xw4, .int xw5, .int xw6, .int tks, .int xw8, .int xw9, .int xw10, .int xw11, .int xw12])), (h, .inr (1, [.ref bk, .ref vi, .ref tr, .int xk3, .int xk4, .int xk5, .int xk6, .int xk7, .int xk8, .int xk9, .int xk10, .int xk11, .int xk12, .int xk13, .int xk14, .int xk15, .long xk16, .int xk17, .int mu]))] H := hP
  have hD : va_D A [(aF, .inr (2, [.ref aS, .ref be, .int xw2, .int (nI tq), .int xw4, .int xw5, .int xw6, .int tks, .int xw8, .int xw9, .int xw10, .int xw11, .int xw12])), (h, .inr (1, [.ref bk, .ref vi, .ref tr, .int xk3, .int xk4, .int xk5, .int xk6, .int xk7, .int xk8, .int xk9, .int xk10, .int xk11, .int xk12, .int xk13, .int xk14, .int xk15, .long xk16, .int xk17, .int mu]))] := hD
  refine lv_goto (tgt := 35) hx hb dX1_takePace_17 (by decide) ?_
  have hP9 := hP.sub (ws' := [(h, .inr (1, [.ref bk, .ref vi, .ref tr, .int xk3, .int xk4, .int xk5, .int xk6, .int xk7, .int xk8, .int xk9, .int xk10, .int xk11, .int xk12, .int xk13, .int xk14, .int xk15, .long xk16, .int xk17, .int mu])), (aF, .inr (2, [.ref aS, .ref be, .int xw2, .int (nI tq), .int xw4, .int xw5, .int xw6, .int tks, .int xw8, .int xw9, .int xw10, .int xw11, .int xw12]))]) [1, 0] rfl
  have hD9 := hD.sub (ws' := [(h, .inr (1, [.ref bk, .ref vi, .ref tr, .int xk3, .int xk4, .int xk5, .int xk6, .int xk7, .int xk8, .int xk9, .int xk10, .int xk11, .int xk12, .int xk13, .int xk14, .int xk15, .long xk16, .int xk17, .int mu])), (aF, .inr (2, [.ref aS, .ref be, .int xw2, .int (nI tq), .int xw4, .int xw5, .int xw6, .int tks, .int xw8, .int xw9, .int xw10, .int xw11, .int xw12]))]) [1, 0] (by decide +kernel) rfl
  have hK9 := hK.sub (tys' := []) [] rfl
  exact W.vret hx hb hr (fun t ht hW => ⟨⟨([(h, .inr (1, [.ref bk, .ref vi, .ref tr, .int xk3, .int xk4, .int xk5, .int xk6, .int xk7, .int xk8, .int xk9, .int xk10, .int xk11, .int xk12, .int xk13, .int xk14, .int xk15, .long xk16, .int xk17, .int mu])), (aF, .inr (2, [.ref aS, .ref be, .int xw2, .int (nI tq), .int xw4, .int xw5, .int xw6, .int tks, .int xw8, .int xw9, .int xw10, .int xw11, .int xw12]))], []), rfl, ⟨xw2, tq, rfl, htq1, htq2⟩, by rw [ht]; exact hP9, va_K.moved hW.alike hK9, hD9⟩, hS.F ht⟩) hS.2.2 dX1_takePace_35

