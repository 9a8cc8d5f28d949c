set_option maxHeartbeats 400000 in
set_option maxRecDepth 100000 in
theorem m_effect (l : Launch) (dC : Nat → ClassId) (dI : Nat → Nat → Nat) (sz : Nat) (v : Int32) : Met l yX11_effect (wsG (.code yX11_effect cX11_effect 1 (some .int))) ({ frames := 0, cells := 0, slots := 0, locals := 0 }) (va_Pc [.int v] (gP (dC, dI) [] [] sz)) (va_Qi (fun (r : Int32) (u : va_W × gT) => u = ([], []) ∧ r = (v >>> (8 &&& 31)) &&& 15) (gB (dC, dI) (va_A [] sz)) (va_A [] sz)) 0 0 (va_A [] sz) := by
  refine Met.ofW (cc := cX11_effect) (maxL := 1) (ret := (some .int)) (by decide) rfl ?_
  intro p e s m args below meth c s₁ B hml hv
  obtain ⟨rfl, hsz, hP, hK, hD0, hN, hZ⟩ := hv
  have hx := B.exec
  have hb := B.bytes
  have hr := B.returns
  have hts := atoms_spec (ws := (wsG (.code yX11_effect cX11_effect 1 (some .int)))) B.pre
  have hown : s.vm.findClass RX11 = some m.cls := findClass_of_methodNamed B.named
  have hlocks := B.notSynchronized
  subst hsz
  have hD := hD0.self (sz := s.heap.size)
  generalize hAe : va_A [] s.heap.size = A at hD hZ ⊢
  have hA : ∀ q : Nat, s.heap.size ≤ q → A q := fun q h => by rw [← hAe]; exact Or.inr h
  have hl := lv_entry ([.int v]) (n := 1) (Nat.le_of_ble_eq_true rfl)
  rw [lg_entry_eq]
  generalize (lg_sl ([.int v]) ++ List.replicate (1 - (lg_sl ([.int v])).length) Slot.unset).toArray = ls at hl ⊢
  have hl : lv_has ls 1 [(0, .int v)] := hl
  refine g_start (A := A) hP (fun H locs hP hS => ?_)
  refine lv_iload_n hx hb dX11_effect_0 rfl (lv_at hl 0 rfl) ?_
  refine lv_bipush (v := 8) hx hb dX11_effect_1 (by decide) ?_
  refine lv_ishr hx hb dX11_effect_3 ?_
  refine lv_bipush (v := 15) hx hb dX11_effect_4 (by decide) ?_
  refine lv_iand hx hb dX11_effect_6 ?_
  have hP9 := hP
  have hD9 := hD
  have hK9 := hK.sub (tys' := []) [] rfl
  exact W.iret (v := (v >>> (8 &&& 31)) &&& 15) hx hb hr (fun t ht hW => ⟨⟨(v >>> (8 &&& 31)) &&& 15, _, rfl, ⟨rfl, rfl⟩, by rw [ht]; exact hP9, va_K.moved hW.alike hK9, hD9⟩, hS.F ht⟩) hS.2.2 dX11_effect_7

set_option maxHeartbeats 400000 in
set_option maxRecDepth 100000 in
theorem m_x (l : Launch) (dC : Nat → ClassId) (dI : Nat → Nat → Nat) (sz : Nat) (v : Int32) : Met l yX11_x (wsG (.code yX11_x cX11_x 1 (some .int))) ({ frames := 0, cells := 0, slots := 0, locals := 0 }) (va_Pc [.int v] (gP (dC, dI) [] [] sz)) (va_Qi (fun (r : Int32) (u : va_W × gT) => u = ([], []) ∧ r = (v >>> (4 &&& 31)) &&& 15) (gB (dC, dI) (va_A [] sz)) (va_A [] sz)) 0 0 (va_A [] sz) := by
  refine Met.ofW (cc := cX11_x) (maxL := 1) (ret := (some .int)) (by decide) rfl ?_
  intro p e s m args below meth c s₁ B hml hv
  obtain ⟨rfl, hsz, hP, hK, hD0, hN, hZ⟩ := hv
  have hx := B.exec
  have hb := B.bytes
  have hr := B.returns
  have hts := atoms_spec (ws := (wsG (.code yX11_x cX11_x 1 (some .int)))) B.pre
  have hown : s.vm.findClass RX11 = some m.cls := findClass_of_methodNamed B.named
  have hlocks := B.notSynchronized
  subst hsz
  have hD := hD0.self (sz := s.heap.size)
  generalize hAe : va_A [] s.heap.size = A at hD hZ ⊢
  have hA : ∀ q : Nat, s.heap.size ≤ q → A q := fun q h => by rw [← hAe]; exact Or.inr h
  have hl := lv_entry ([.int v]) (n := 1) (Nat.le_of_ble_eq_true rfl)
  rw [lg_entry_eq]
  generalize (lg_sl ([.int v]) ++ List.replicate (1 - (lg_sl ([.int v])).length) Slot.unset).toArray = ls at hl ⊢
  have hl : lv_has ls 1 [(0, .int v)] := hl
  refine g_start (A := A) hP (fun H locs hP hS => ?_)
  refine lv_iload_n hx hb dX11_x_0 rfl (lv_at hl 0 rfl) ?_
  refine lv_iconst (v := 4) hx hb dX11_x_1 (by decide) ?_
  refine lv_ishr hx hb dX11_x_2 ?_
  refine lv_bipush (v := 15) hx hb dX11_x_3 (by decide) ?_
  refine lv_iand hx hb dX11_x_5 ?_
  have hP9 := hP
  have hD9 := hD
  have hK9 := hK.sub (tys' := []) [] rfl
  exact W.iret (v := (v >>> (4 &&& 31)) &&& 15) hx hb hr (fun t ht hW => ⟨⟨(v >>> (4 &&& 31)) &&& 15, _, rfl, ⟨rfl, rfl⟩, by rw [ht]; exact hP9, va_K.moved hW.alike hK9, hD9⟩, hS.F ht⟩) hS.2.2 dX11_x_6

set_option maxHeartbeats 400000 in
set_option maxRecDepth 100000 in
theorem m_y (l : Launch) (dC : Nat → ClassId) (dI : Nat → Nat → Nat) (sz : Nat) (v : Int32) : Met l yX11_y (wsG (.code yX11_y cX11_y 1 (some .int))) ({ frames := 0, cells := 0, slots := 0, locals := 0 }) (va_Pc [.int v] (gP (dC, dI) [] [] sz)) (va_Qi (fun (r : Int32) (u : va_W × gT) => u = ([], []) ∧ r = v &&& 15) (gB (dC, dI) (va_A [] sz)) (va_A [] sz)) 0 0 (va_A [] sz) := by
  refine Met.ofW (cc := cX11_y) (maxL := 1) (ret := (some .int)) (by decide) rfl ?_
  intro p e s m args below meth c s₁ B hml hv
  obtain ⟨rfl, hsz, hP, hK, hD0, hN, hZ⟩ := hv
  have hx := B.exec
  have hb := B.bytes
  have hr := B.returns
  have hts := atoms_spec (ws := (wsG (.code yX11_y cX11_y 1 (some .int)))) B.pre
  have hown : s.vm.findClass RX11 = some m.cls := findClass_of_methodNamed B.named
  have hlocks := B.notSynchronized
  subst hsz
  have hD := hD0.self (sz := s.heap.size)
  generalize hAe : va_A [] s.heap.size = A at hD hZ ⊢
  have hA : ∀ q : Nat, s.heap.size ≤ q → A q := fun q h => by rw [← hAe]; exact Or.inr h
  have hl := lv_entry ([.int v]) (n := 1) (Nat.le_of_ble_eq_true rfl)
  rw [lg_entry_eq]
  generalize (lg_sl ([.int v]) ++ List.replicate (1 - (lg_sl ([.int v])).length) Slot.unset).toArray = ls at hl ⊢
  have hl : lv_has ls 1 [(0, .int v)] := hl
  refine g_start (A := A) hP (fun H locs hP hS => ?_)
  refine lv_iload_n hx hb dX11_y_0 rfl (lv_at hl 0 rfl) ?_
  refine lv_bipush (v := 15) hx hb dX11_y_1 (by decide) ?_
  refine lv_iand hx hb dX11_y_3 ?_
  have hP9 := hP
  have hD9 := hD
  have hK9 := hK.sub (tys' := []) [] rfl
  exact W.iret (v := v &&& 15) hx hb hr (fun t ht hW => ⟨⟨v &&& 15, _, rfl, ⟨rfl, rfl⟩, by rw [ht]; exact hP9, va_K.moved hW.alike hK9, hD9⟩, hS.F ht⟩) hS.2.2 dX11_y_4

set_option maxHeartbeats 400000 in
set_option maxRecDepth 100000 in
theorem m_isE (l : Launch) (dC : Nat → ClassId) (dI : Nat → Nat → Nat) (sz : Nat) (v wh : Int32) : Met l yX11_isE (wsG (.code yX11_isE cX11_isE 2 (some .boolean))) ({ frames := 1, cells := 0, slots := 0, locals := 20 }) (va_Pc [.int v, .int wh] (gP (dC, dI) [] [] sz)) (va_Qi (fun (r : Int32) (u : va_W × gT) => u = ([], [])) (gB (dC, dI) (va_A [] sz)) (va_A [] sz)) 0 0 (va_A [] sz) := by
  refine Met.ofW (cc := cX11_isE) (maxL := 2) (ret := (some .boolean)) (by decide) rfl ?_
  intro p e s m args below meth c s₁ B hml hv
  obtain ⟨rfl, hsz, hP, hK, hD0, hN, hZ⟩ := hv
  have hx := B.exec
  have hb := B.bytes
  have hr := B.returns
  have hts := atoms_spec (ws := (wsG (.code yX11_isE cX11_isE 2 (some .boolean)))) B.pre
  have hown : s.vm.findClass RX11 = some m.cls := findClass_of_methodNamed B.named
  have hlocks := B.notSynchronized
  subst hsz
  have hD := hD0.self (sz := s.heap.size)
  generalize hAe : va_A [] s.heap.size = A at hD hZ ⊢
  have hA : ∀ q : Nat, s.heap.size ≤ q → A q := fun q h => by rw [← hAe]; exact Or.inr h
  have hl := lv_entry ([.int v, .int wh]) (n := 2) (Nat.le_of_ble_eq_true rfl)
  rw [lg_entry_eq]
  generalize (lg_sl ([.int v, .int wh]) ++ List.replicate (2 - (lg_sl ([.int v, .int wh])).length) Slot.unset).toArray = ls at hl ⊢
  have hl : lv_has ls 2 [(0, .int v), (1, .int wh)] := hl
  refine g_start (A := A) hP (fun H locs hP hS => ?_)
  refine lv_iload_n hx hb dX11_isE_0 rfl (lv_at hl 0 rfl) ?_
  refine g_calli (wr := []) (va_runS (As := [.int v]) (rest := []) ⟨hx, hb, hml, hown, hts⟩ (m_effect l dC dI H.size v ) (va_cwS 1 hts (gG_S kw_859 kw_860 kw_5 kw_861) rfl rfl rfl (by decide +kernel) ⟨Nat.le_of_ble_eq_true rfl, Nat.le_of_ble_eq_true rfl⟩) (g_preS hP hD hK hS hA hN hZ [] (by decide) rfl [] rfl) rfl rfl hl.1 rfl (lv_room (Nat.le_of_ble_eq_true rfl)) dX11_isE_1 ⟨Nat.le_of_ble_eq_true rfl, Nat.le_of_ble_eq_true rfl⟩) hP hD hK hS hA [] [] rfl rfl (by decide +kernel) (by decide +kernel) (fun r_1 w ty1 H locs hw_1 hP hD _ hS => ?_)
  rcases hw_1 with ⟨hu, hr_1⟩
  cases hu
  have hP : va_P (dC, dI) vwCl [] H := hP
  have hD : va_D A [] := hD
  refine g_topi (y := (v >>> (8 &&& 31)) &&& 15) hr_1 ?_
  refine lv_bipush (v := 14) hx hb dX11_isE_4 (by decide) ?_
  refine lv_icmp_ne (tgt := 21) hx hb dX11_isE_6 (by decide) (fun c_6 => ?_) (fun c_6 => ?_)
  · refine lv_iconst (v := 0) hx hb dX11_isE_21 (by decide) ?_
    have hP9 := hP
    have hD9 := hD
    have hK9 := hK.sub (tys' := []) [] rfl
    exact W.zret (v := 0) hx hb hr (by decide) (fun t ht hW => ⟨⟨0, _, rfl, rfl, by rw [ht]; exact hP9, va_K.moved hW.alike hK9, hD9⟩, hS.F ht⟩) hS.2.2 dX11_isE_22
  refine lv_iload_n hx hb dX11_isE_9 rfl (lv_at hl 0 rfl) ?_
  refine g_calli (wr := []) (va_runS (As := [.int v]) (rest := []) ⟨hx, hb, hml, hown, hts⟩ (m_x l dC dI H.size v ) (va_cwS 1 hts (gG_S kw_862 kw_863 kw_5 kw_864) rfl rfl rfl (by decide +kernel) ⟨Nat.le_of_ble_eq_true rfl, Nat.le_of_ble_eq_true rfl⟩) (g_preS hP hD hK hS hA hN hZ [] (by decide) rfl [] rfl) rfl rfl hl.1 rfl (lv_room (Nat.le_of_ble_eq_true rfl)) dX11_isE_10 ⟨Nat.le_of_ble_eq_true rfl, Nat.le_of_ble_eq_true rfl⟩) hP hD hK hS hA [] [] rfl rfl (by decide +kernel) (by decide +kernel) (fun r_10 w ty1 H locs hw_10 hP hD _ hS => ?_)
  rcases hw_10 with ⟨hu, hr_10⟩
  cases hu
  have hP : va_P (dC, dI) vwCl [] H := hP
  have hD : va_D A [] := hD
  refine g_topi (y := (v >>> (4 &&& 31)) &&& 15) hr_10 ?_
  refine lv_iload_n hx hb dX11_isE_13 rfl (lv_at hl 1 rfl) ?_
  refine lv_icmp_ne (tgt := 21) hx hb dX11_isE_14 (by decide) (fun c_14 => ?_) (fun c_14 => ?_)
  · refine lv_iconst (v := 0) hx hb dX11_isE_21 (by decide) ?_
    have hP9 := hP
    have hD9 := hD
    have hK9 := hK.sub (tys' := []) [] rfl
    exact W.zret (v := 0) hx hb hr (by decide) (fun t ht hW => ⟨⟨0, _, rfl, rfl, by rw [ht]; exact hP9, va_K.moved hW.alike hK9, hD9⟩, hS.F ht⟩) hS.2.2 dX11_isE_22
  refine lv_iconst (v := 1) hx hb dX11_isE_17 (by decide) ?_
  refine lv_goto (tgt := 22) hx hb dX11_isE_18 (by decide) ?_
  have hP9 := hP
  have hD9 := hD
  have hK9 := hK.sub (tys' := []) [] rfl
  exact W.zret (v := 1) hx hb hr (by decide) (fun t ht hW => ⟨⟨1, _, rfl, rfl, by rw [ht]; exact hP9, va_K.moved hW.alike hK9, hD9⟩, hS.F ht⟩) hS.2.2 dX11_isE_22

set_option maxHeartbeats 400000 in
set_option maxRecDepth 100000 in
theorem m_within (l : Launch) (dC : Nat → ClassId) (dI : Nat → Nat → Nat) (sz : Nat) (v lo hi : Int32) : Met l yX11_within (wsG (.code yX11_within cX11_within 3 (some .int))) ({ frames := 1, cells := 0, slots := 0, locals := 14 }) (va_Pc [.int v, .int lo, .int hi] (gP (dC, dI) [] [] sz)) (va_Qi (fun (r : Int32) (u : va_W × gT) => u = ([], []) ∧ wthn lo hi r) (gB (dC, dI) (va_A [] sz)) (va_A [] sz)) 0 0 (va_A [] sz) := by
  refine Met.ofW (cc := cX11_within) (maxL := 3) (ret := (some .int)) (by decide) rfl ?_
  intro p e s m args below meth c s₁ B hml hv
  obtain ⟨rfl, hsz, hP, hK, hD0, hN, hZ⟩ := hv
  have hx := B.exec
  have hb := B.bytes
  have hr := B.returns
  have hts := atoms_spec (ws := (wsG (.code yX11_within cX11_within 3 (some .int)))) B.pre
  have hown : s.vm.findClass RX11 = some m.cls := findClass_of_methodNamed B.named
  have hlocks := B.notSynchronized
  subst hsz
  have hD := hD0.self (sz := s.heap.size)
  generalize hAe : va_A [] s.heap.size = A at hD hZ ⊢
  have hA : ∀ q : Nat, s.heap.size ≤ q → A q := fun q h => by rw [← hAe]; exact Or.inr h
  have hl := lv_entry ([.int v, .int lo, .int hi]) (n := 3) (Nat.le_of_ble_eq_true rfl)
  rw [lg_entry_eq]
  generalize (lg_sl ([.int v, .int lo, .int hi]) ++ List.replicate (3 - (lg_sl ([.int v, .int lo, .int hi])).length) Slot.unset).toArray = ls at hl ⊢
  have hl : lv_has ls 3 [(0, .int v), (1, .int lo), (2, .int hi)] := hl
  refine g_start (A := A) hP (fun H locs hP hS => ?_)
  refine lv_iload_n hx hb dX11_within_0 rfl (lv_at hl 1 rfl) ?_
  refine lv_iload_n hx hb dX11_within_1 rfl (lv_at hl 2 rfl) ?_
  refine lv_iload_n hx hb dX11_within_2 rfl (lv_at hl 0 rfl) ?_
  refine va_mmin hx hb (by rw [hml]; exact hl.1.symm) hown (hts (.methodLink RX11 123 Lib.Math.min.name) (List.mem_cons_of_mem _ kw_209)) (hts (.static Lib.Math.min.name) (List.mem_cons_of_mem _ kw_210)) (hts (.initialized "java/lang/Math") (List.mem_cons_of_mem _ kw_103)) (hts (.code Lib.Math.min.name Lib.Math.min.code 2 (some .int)) (List.mem_cons_of_mem _ kw_211)) (Nat.le_of_ble_eq_true rfl) (Nat.le_of_ble_eq_true rfl) (Nat.le_of_ble_eq_true rfl) (Nat.le_of_ble_eq_true rfl) dX11_within_3 ?_
  refine lv_topi (fun tv_3 etv_3 => ?_)
  refine va_mmax hx hb (by rw [hml]; exact hl.1.symm) hown (hts (.methodLink RX11 129 Lib.Math.max.name) (List.mem_cons_of_mem _ kw_212)) (hts (.static Lib.Math.max.name) (List.mem_cons_of_mem _ kw_102)) (hts (.initialized "java/lang/Math") (List.mem_cons_of_mem _ kw_103)) (hts (.code Lib.Math.max.name Lib.Math.max.code 2 (some .int)) (List.mem_cons_of_mem _ kw_104)) (Nat.le_of_ble_eq_true rfl) (Nat.le_of_ble_eq_true rfl) (Nat.le_of_ble_eq_true rfl) (Nat.le_of_ble_eq_true rfl) dX11_within_6 ?_
  refine lv_topi (fun tv_6 etv_6 => ?_)
  have hP9 := hP
  have hD9 := hD
  have hK9 := hK.sub (tys' := []) [] rfl
  exact W.iret (v := tv_6) hx hb hr (fun t ht hW => ⟨⟨tv_6, _, rfl, ⟨rfl, (wthn_p etv_3 etv_6)⟩, by rw [ht]; exact hP9, va_K.moved hW.alike hK9, hD9⟩, hS.F ht⟩) hS.2.2 dX11_within_9

set_option maxHeartbeats 400000 in
set_option maxRecDepth 100000 in
theorem m_replaced (l : Launch) (dC : Nat → ClassId) (dI : Nat → Nat → Nat) (sz : Nat) (va vb : Int32) : Met l yX11_replaced (wsG (.code yX11_replaced cX11_replaced 2 (some .int))) ({ frames := 1, cells := 0, slots := 0, locals := 20 }) (va_Pc [.int va, .int vb] (gP (dC, dI) [] [] sz)) (va_Qi (fun (r : Int32) (u : va_W × gT) => u = ([], [])) (gB (dC, dI) (va_A [] sz)) (va_A [] sz)) 0 0 (va_A [] sz) := by
  refine Met.ofW (cc := cX11_replaced) (maxL := 2) (ret := (some .int)) (by decide) rfl ?_
  intro p e s m args below meth c s₁ B hml hv
  obtain ⟨rfl, hsz, hP, hK, hD0, hN, hZ⟩ := hv
  have hx := B.exec
  have hb := B.bytes
  have hr := B.returns
  have hts := atoms_spec (ws := (wsG (.code yX11_replaced cX11_replaced 2 (some .int)))) B.pre
  have hown : s.vm.findClass RX11 = some m.cls := findClass_of_methodNamed B.named
  have hlocks := B.notSynchronized
  subst hsz
  have hD := hD0.self (sz := s.heap.size)
  generalize hAe : va_A [] s.heap.size = A at hD hZ ⊢
  have hA : ∀ q : Nat, s.heap.size ≤ q → A q := fun q h => by rw [← hAe]; exact Or.inr h
  have hl := lv_entry ([.int va, .int vb]) (n := 2) (Nat.le_of_ble_eq_true rfl)
  rw [lg_entry_eq]
  generalize (lg_sl ([.int va, .int vb]) ++ List.replicate (2 - (lg_sl ([.int va, .int vb])).length) Slot.unset).toArray = ls at hl ⊢
  have hl : lv_has ls 2 [(0, .int va), (1, .int vb)] := hl
  refine g_start (A := A) hP (fun H locs hP hS => ?_)
  refine lv_iload_n hx hb dX11_replaced_0 rfl (lv_at hl 1 rfl) ?_
  refine g_calli (wr := []) (va_runS (As := [.int vb]) (rest := []) ⟨hx, hb, hml, hown, hts⟩ (m_x l dC dI H.size vb ) (va_cwS 1 hts (gG_S kw_862 kw_863 kw_5 kw_864) rfl rfl rfl (by decide +kernel) ⟨Nat.le_of_ble_eq_true rfl, Nat.le_of_ble_eq_true rfl⟩) (g_preS hP hD hK hS hA hN hZ [] (by decide) rfl [] rfl) rfl rfl hl.1 rfl (lv_room (Nat.le_of_ble_eq_true rfl)) dX11_replaced_1 ⟨Nat.le_of_ble_eq_true rfl, Nat.le_of_ble_eq_true rfl⟩) hP hD hK hS hA [] [] rfl rfl (by decide +kernel) (by decide +kernel) (fun r_1 w ty1 H locs hw_1 hP hD _ hS => ?_)
  rcases hw_1 with ⟨hu, hr_1⟩
  cases hu
  have hP : va_P (dC, dI) vwCl [] H := hP
  have hD : va_D A [] := hD
  refine g_topi (y := (vb >>> (4 &&& 31)) &&& 15) hr_1 ?_
  refine lv_if_eq (tgt := 15) hx hb dX11_replaced_4 (by decide) (fun c_4 => ?_) (fun c_4 => ?_)
  · refine lv_iload_n hx hb dX11_replaced_15 rfl (lv_at hl 0 rfl) ?_
    refine lv_sipush (v := 240) hx hb dX11_replaced_16 (by decide) ?_
    refine lv_iand hx hb dX11_replaced_19 ?_
    refine lv_topi (fun tv_19 etv_19 => ?_)
    refine lv_iload_n hx hb dX11_replaced_20 rfl (lv_at hl 1 rfl) ?_
    refine g_calli (wr := []) (va_runS (As := [.int vb]) (rest := [.int tv_19]) ⟨hx, hb, hml, hown, hts⟩ (m_y l dC dI H.size vb ) (va_cwS 1 hts (gG_S kw_865 kw_866 kw_5 kw_867) rfl rfl rfl (by decide +kernel) ⟨Nat.le_of_ble_eq_true rfl, Nat.le_of_ble_eq_true rfl⟩) (g_preS hP hD hK hS hA hN hZ [] (by decide) rfl [] rfl) rfl rfl hl.1 rfl (lv_room (Nat.le_of_ble_eq_true rfl)) dX11_replaced_21 ⟨Nat.le_of_ble_eq_true rfl, Nat.le_of_ble_eq_true rfl⟩) hP hD hK hS hA [] [] rfl rfl (by decide +kernel) (by decide +kernel) (fun r_21 w ty1 H locs hw_21 hP hD _ hS => ?_)
    rcases hw_21 with ⟨hu, hr_21⟩
    cases hu
    have hP : va_P (dC, dI) vwCl [] H := hP
    have hD : va_D A [] := hD
    refine g_topi (y := vb &&& 15) hr_21 ?_
    refine lv_if_eq (tgt := 34) hx hb dX11_replaced_24 (by decide) (fun c_24 => ?_) (fun c_24 => ?_)
    · refine lv_iload_n hx hb dX11_replaced_34 rfl (lv_at hl 0 rfl) ?_
      refine g_calli (wr := []) (va_runS (As := [.int va]) (rest := [.int tv_19]) ⟨hx, hb, hml, hown, hts⟩ (m_y l dC dI H.size va ) (va_cwS 1 hts (gG_S kw_865 kw_866 kw_5 kw_867) rfl rfl rfl (by decide +kernel) ⟨Nat.le_of_ble_eq_true rfl, Nat.le_of_ble_eq_true rfl⟩) (g_preS hP hD hK hS hA hN hZ [] (by decide) rfl [] rfl) rfl rfl hl.1 rfl (lv_room (Nat.le_of_ble_eq_true rfl)) dX11_replaced_35 ⟨Nat.le_of_ble_eq_true rfl, Nat.le_of_ble_eq_true rfl⟩) hP hD hK hS hA [] [] rfl rfl (by decide +kernel) (by decide +kernel) (fun r_35 w ty1 H locs hw_35 hP hD _ hS => ?_)
      rcases hw_35 with ⟨hu, hr_35⟩
      cases hu
      have hP : va_P (dC, dI) vwCl [] H := hP
      have hD : va_D A [] := hD
      refine g_topi (y := va &&& 15) hr_35 ?_
      refine lv_ior hx hb dX11_replaced_38 ?_
      refine lv_topi (fun tv_38 etv_38 => ?_)
      have hP9 := hP
      have hD9 := hD
      have hK9 := hK.sub (tys' := []) [] rfl
      exact W.iret (v := tv_38) hx hb hr (fun t ht hW => ⟨⟨tv_38, _, rfl, rfl, by rw [ht]; exact hP9, va_K.moved hW.alike hK9, hD9⟩, hS.F ht⟩) hS.2.2 dX11_replaced_39
    refine lv_iload_n hx hb dX11_replaced_27 rfl (lv_at hl 1 rfl) ?_
    refine g_calli (wr := []) (va_runS (As := [.int vb]) (rest := [.int tv_19]) ⟨hx, hb, hml, hown, hts⟩ (m_y l dC dI H.size vb ) (va_cwS 1 hts (gG_S kw_865 kw_866 kw_5 kw_867) rfl rfl rfl (by decide +kernel) ⟨Nat.le_of_ble_eq_true rfl, Nat.le_of_ble_eq_true rfl⟩) (g_preS hP hD hK hS hA hN hZ [] (by decide) rfl [] rfl) rfl rfl hl.1 rfl (lv_room (Nat.le_of_ble_eq_true rfl)) dX11_replaced_28 ⟨Nat.le_of_ble_eq_true rfl, Nat.le_of_ble_eq_true rfl⟩) hP hD hK hS hA [] [] rfl rfl (by decide +kernel) (by decide +kernel) (fun r_28 w ty1 H locs hw_28 hP hD _ hS => ?_)
    rcases hw_28 with ⟨hu, hr_28⟩
    cases hu
    have hP : va_P (dC, dI) vwCl [] H := hP
    have hD : va_D A [] := hD
    refine g_topi (y := vb &&& 15) hr_28 ?_
    refine lv_goto (tgt := 38) hx hb dX11_replaced_31 (by decide) ?_
    refine lv_ior hx hb dX11_replaced_38 ?_
    refine lv_topi (fun tv_38 etv_38 => ?_)
    have hP9 := hP
    have hD9 := hD
    have hK9 := hK.sub (tys' := []) [] rfl
    exact W.iret (v := tv_38) hx hb hr (fun t ht hW => ⟨⟨tv_38, _, rfl, rfl, by rw [ht]; exact hP9, va_K.moved hW.alike hK9, hD9⟩, hS.F ht⟩) hS.2.2 dX11_replaced_39
  refine lv_iload_n hx hb dX11_replaced_7 rfl (lv_at hl 1 rfl) ?_
  refine lv_sipush (v := 240) hx hb dX11_replaced_8 (by decide) ?_
  refine lv_iand hx hb dX11_replaced_11 ?_
  refine lv_topi (fun tv_11 etv_11 => ?_)
  refine lv_goto (tgt := 20) hx hb dX11_replaced_12 (by decide) ?_
  refine lv_iload_n hx hb dX11_replaced_20 rfl (lv_at hl 1 rfl) ?_
  refine g_calli (wr := []) (va_runS (As := [.int vb]) (rest := [.int tv_11]) ⟨hx, hb, hml, hown, hts⟩ (m_y l dC dI H.size vb ) (va_cwS 1 hts (gG_S kw_865 kw_866 kw_5 kw_867) rfl rfl rfl (by decide +kernel) ⟨Nat.le_of_ble_eq_true rfl, Nat.le_of_ble_eq_true rfl⟩) (g_preS hP hD hK hS hA hN hZ [] (by decide) rfl [] rfl) rfl rfl hl.1 rfl (lv_room (Nat.le_of_ble_eq_true rfl)) dX11_replaced_21 ⟨Nat.le_of_ble_eq_true rfl, Nat.le_of_ble_eq_true rfl⟩) hP hD hK hS hA [] [] rfl rfl (by decide +kernel) (by decide +kernel) (fun r_21 w ty1 H locs hw_21 hP hD _ hS => ?_)
  rcases hw_21 with ⟨hu, hr_21⟩
  cases hu
  have hP : va_P (dC, dI) vwCl [] H := hP
  have hD : va_D A [] := hD
  refine g_topi (y := vb &&& 15) hr_21 ?_
  refine lv_if_eq (tgt := 34) hx hb dX11_replaced_24 (by decide) (fun c_24 => ?_) (fun c_24 => ?_)
  · refine lv_iload_n hx hb dX11_replaced_34 rfl (lv_at hl 0 rfl) ?_
    refine g_calli (wr := []) (va_runS (As := [.int va]) (rest := [.int tv_11]) ⟨hx, hb, hml, hown, hts⟩ (m_y l dC dI H.size va ) (va_cwS 1 hts (gG_S kw_865 kw_866 kw_5 kw_867) rfl rfl rfl (by decide +kernel) ⟨Nat.le_of_ble_eq_true rfl, Nat.le_of_ble_eq_true rfl⟩) (g_preS hP hD hK hS hA hN hZ [] (by decide) rfl [] rfl) rfl rfl hl.1 rfl (lv_room (Nat.le_of_ble_eq_true rfl)) dX11_replaced_35 ⟨Nat.le_of_ble_eq_true rfl, Nat.le_of_ble_eq_true rfl⟩) hP hD hK hS hA [] [] rfl rfl (by decide +kernel) (by decide +kernel) (fun r_35 w ty1 H locs hw_35 hP hD _ hS => ?_)
    rcases hw_35 with ⟨hu, hr_35⟩
    cases hu
    have hP : va_P (dC, dI) vwCl [] H := hP
    have hD : va_D A [] := hD
    refine g_topi (y := va &&& 15) hr_35 ?_
    refine lv_ior hx hb dX11_replaced_38 ?_
    refine lv_topi (fun tv_38 etv_38 => ?_)
    have hP9 := hP
    have hD9 := hD
    have hK9 := hK.sub (tys' := []) [] rfl
    exact W.iret (v := tv_38) hx hb hr (fun t ht hW => ⟨⟨tv_38, _, rfl, rfl, by rw [ht]; exact hP9, va_K.moved hW.alike hK9, hD9⟩, hS.F ht⟩) hS.2.2 dX11_replaced_39
  refine lv_iload_n hx hb dX11_replaced_27 rfl (lv_at hl 1 rfl) ?_
  refine g_calli (wr := []) (va_runS (As := [.int vb]) (rest := [.int tv_11]) ⟨hx, hb, hml, hown, hts⟩ (m_y l dC dI H.size vb ) (va_cwS 1 hts (gG_S kw_865 kw_866 kw_5 kw_867) rfl rfl rfl (by decide +kernel) ⟨Nat.le_of_ble_eq_true rfl, Nat.le_of_ble_eq_true rfl⟩) (g_preS hP hD hK hS hA hN hZ [] (by decide) rfl [] rfl) rfl rfl hl.1 rfl (lv_room (Nat.le_of_ble_eq_true rfl)) dX11_replaced_28 ⟨Nat.le_of_ble_eq_true rfl, Nat.le_of_ble_eq_true rfl⟩) hP hD hK hS hA [] [] rfl rfl (by decide +kernel) (by decide +kernel) (fun r_28 w ty1 H locs hw_28 hP hD _ hS => ?_)
  rcases hw_28 with ⟨hu, hr_28⟩
  cases hu
  have hP : va_P (dC, dI) vwCl [] H := hP
  have hD : va_D A [] := hD
  refine g_topi (y := vb &&& 15) hr_28 ?_
  refine lv_goto (tgt := 38) hx hb dX11_replaced_31 (by decide) ?_
  refine lv_ior hx hb dX11_replaced_38 ?_
  refine lv_topi (fun tv_38 etv_38 => ?_)
  have hP9 := hP
  have hD9 := hD
  have hK9 := hK.sub (tys' := []) [] rfl
  exact W.iret (v := tv_38) hx hb hr (fun t ht hW => ⟨⟨tv_38, _, rfl, rfl, by rw [ht]; exact hP9, va_K.moved hW.alike hK9, hD9⟩, hS.F ht⟩) hS.2.2 dX11_replaced_39

set_option maxHeartbeats 400000 in
set_option maxRecDepth 100000 in
theorem m_wave (l : Launch) (dC : Nat → ClassId) (dI : Nat → Nat → Nat) (sz : Nat) (va vb : Int32) : Met l yX11_wave_ (wsG (.code yX11_wave_ cX11_wave_ 4 (some .int))) ({ frames := 0, cells := 0, slots := 0, locals := 0 }) (va_Pc [.int va, .int vb] (gP (dC, dI) [] [] sz)) (va_Qi (fun (r : Int32) (u : va_W × gT) => u = ([], [])) (gB (dC, dI) (va_A [] sz)) (va_A [] sz)) 0 0 (va_A [] sz) := by
  refine Met.ofW (cc := cX11_wave_) (maxL := 4) (ret := (some .int)) (by decide) rfl ?_
  intro p e s m args below meth c s₁ B hml hv
  obtain ⟨rfl, hsz, hP, hK, hD0, hN, hZ⟩ := hv
  have hx := B.exec
  have hb := B.bytes
  have hr := B.returns
  have hts := atoms_spec (ws := (wsG (.code yX11_wave_ cX11_wave_ 4 (some .int)))) B.pre
  have hown : s.vm.findClass RX11 = some m.cls := findClass_of_methodNamed B.named
  have hlocks := B.notSynchronized
  subst hsz
  have hD := hD0.self (sz := s.heap.size)
  generalize hAe : va_A [] s.heap.size = A at hD hZ ⊢
  have hA : ∀ q : Nat, s.heap.size ≤ q → A q := fun q h => by rw [← hAe]; exact Or.inr h
  have hl := lv_entry ([.int va, .int vb]) (n := 4) (Nat.le_of_ble_eq_true rfl)
  rw [lg_entry_eq]
  generalize (lg_sl ([.int va, .int vb]) ++ List.replicate (4 - (lg_sl ([.int va, .int vb])).length) Slot.unset).toArray = ls at hl ⊢
  have hl : lv_has ls 4 [(0, .int va), (1, .int vb)] := hl
  refine g_start (A := A) hP (fun H locs hP hS => ?_)
  refine lv_iload_n hx hb dX11_wave__0 rfl (lv_at hl 0 rfl) ?_
  refine lv_bipush (v := 32) hx hb dX11_wave__1 (by decide) ?_
  refine lv_irem hx hb dX11_wave__3 (by decide) ?_
  refine lv_topi (fun tv_3 etv_3 => ?_)
  refine lv_istore_n (lv' := [(2, .int tv_3), (0, .int va), (1, .int vb)]) hx hb dX11_wave__4 rfl hl (by decide) rfl (fun ls hl => ?_)
  refine lv_iload_n hx hb dX11_wave__5 rfl (lv_at hl 2 rfl) ?_
  refine lv_iconst (v := 1) hx hb dX11_wave__6 (by decide) ?_
  refine lv_icmp_ne (tgt := 17) hx hb dX11_wave__7 (by decide) (fun c_7 => ?_) (fun c_7 => ?_)
  · refine lv_iload_n hx hb dX11_wave__17 rfl (lv_at hl 2 rfl) ?_
    refine lv_iconst (v := 2) hx hb dX11_wave__18 (by decide) ?_
    refine lv_icmp_ne (tgt := 28) hx hb dX11_wave__19 (by decide) (fun c_19 => ?_) (fun c_19 => ?_)
    · refine lv_sipush (v := 255) hx hb dX11_wave__28 (by decide) ?_
      refine lv_iload_n hx hb dX11_wave__31 rfl (lv_at hl 0 rfl) ?_
      refine lv_imul hx hb dX11_wave__32 ?_
      refine lv_topi (fun tv_32 etv_32 => ?_)
      refine lv_bipush (v := 32) hx hb dX11_wave__33 (by decide) ?_
      refine lv_iload_n hx hb dX11_wave__35 rfl (lv_at hl 0 rfl) ?_
      refine lv_isub hx hb dX11_wave__36 ?_
      refine lv_topi (fun tv_36 etv_36 => ?_)
      refine lv_imul hx hb dX11_wave__37 ?_
      refine lv_topi (fun tv_37 etv_37 => ?_)
      refine lv_sipush (v := 256) hx hb dX11_wave__38 (by decide) ?_
      refine lv_idiv hx hb dX11_wave__41 (by decide) ?_
      refine lv_topi (fun tv_41 etv_41 => ?_)
      refine lv_istore_n (lv' := [(3, .int tv_41), (2, .int tv_3), (0, .int va), (1, .int vb)]) hx hb dX11_wave__42 rfl hl (by decide) rfl (fun ls hl => ?_)
      refine lv_iload_n hx hb dX11_wave__43 rfl (lv_at hl 2 rfl) ?_
      refine lv_bipush (v := 32) hx hb dX11_wave__44 (by decide) ?_
      refine lv_icmp_ge (tgt := 53) hx hb dX11_wave__46 (by decide) (fun c_46 => ?_) (fun c_46 => ?_)
      · refine lv_iload_n hx hb dX11_wave__53 rfl (lv_at hl 0 rfl) ?_
        refine lv_ineg hx hb dX11_wave__54 ?_
        refine lv_topi (fun tv_54 etv_54 => ?_)
        have hP9 := hP
        have hD9 := hD
        have hK9 := hK.sub (tys' := []) [] rfl
        exact W.iret (v := tv_54) hx hb hr (fun t ht hW => ⟨⟨tv_54, _, rfl, rfl, by rw [ht]; exact hP9, va_K.moved hW.alike hK9, hD9⟩, hS.F ht⟩) hS.2.2 dX11_wave__55
      refine lv_iload_n hx hb dX11_wave__49 rfl (lv_at hl 0 rfl) ?_
      refine lv_goto (tgt := 55) hx hb dX11_wave__50 (by decide) ?_
      have hP9 := hP
      have hD9 := hD
      have hK9 := hK.sub (tys' := []) [] rfl
      exact W.iret (v := tv_41) hx hb hr (fun t ht hW => ⟨⟨tv_41, _, rfl, rfl, by rw [ht]; exact hP9, va_K.moved hW.alike hK9, hD9⟩, hS.F ht⟩) hS.2.2 dX11_wave__55
    refine lv_sipush (v := 255) hx hb dX11_wave__22 (by decide) ?_
    refine lv_goto (tgt := 42) hx hb dX11_wave__25 (by decide) ?_
    refine lv_istore_n (lv' := [(3, .int 255), (2, .int tv_3), (0, .int va), (1, .int vb)]) hx hb dX11_wave__42 rfl hl (by decide) rfl (fun ls hl => ?_)
    refine lv_iload_n hx hb dX11_wave__43 rfl (lv_at hl 2 rfl) ?_
    refine lv_bipush (v := 32) hx hb dX11_wave__44 (by decide) ?_
    refine lv_icmp_ge (tgt := 53) hx hb dX11_wave__46 (by decide) (fun c_46 => ?_) (fun c_46 => ?_)
    · refine lv_iload_n hx hb dX11_wave__53 rfl (lv_at hl 0 rfl) ?_
      refine lv_ineg hx hb dX11_wave__54 ?_
      refine g_topi (y := (-255)) (by decide) ?_
      have hP9 := hP
      have hD9 := hD
      have hK9 := hK.sub (tys' := []) [] rfl
      exact W.iret (v := (-255)) hx hb hr (fun t ht hW => ⟨⟨(-255), _, rfl, rfl, by rw [ht]; exact hP9, va_K.moved hW.alike hK9, hD9⟩, hS.F ht⟩) hS.2.2 dX11_wave__55
    refine lv_iload_n hx hb dX11_wave__49 rfl (lv_at hl 0 rfl) ?_
    refine lv_goto (tgt := 55) hx hb dX11_wave__50 (by decide) ?_
    have hP9 := hP
    have hD9 := hD
    have hK9 := hK.sub (tys' := []) [] rfl
    exact W.iret (v := 255) hx hb hr (fun t ht hW => ⟨⟨255, _, rfl, rfl, by rw [ht]; exact hP9, va_K.moved hW.alike hK9, hD9⟩, hS.F ht⟩) hS.2.2 dX11_wave__55
  refine lv_bipush (v := 8) hx hb dX11_wave__10 (by decide) ?_
  refine lv_iload_n hx hb dX11_wave__12 rfl (lv_at hl 0 rfl) ?_
  refine lv_imul hx hb dX11_wave__13 ?_
  refine lv_topi (fun tv_13 etv_13 => ?_)
  refine lv_goto (tgt := 42) hx hb dX11_wave__14 (by decide) ?_
  refine lv_istore_n (lv' := [(3, .int tv_13), (2, .int tv_3), (0, .int va), (1, .int vb)]) hx hb dX11_wave__42 rfl hl (by decide) rfl (fun ls hl => ?_)
  refine lv_iload_n hx hb dX11_wave__43 rfl (lv_at hl 2 rfl) ?_
  refine lv_bipush (v := 32) hx hb dX11_wave__44 (by decide) ?_
  refine lv_icmp_ge (tgt := 53) hx hb dX11_wave__46 (by decide) (fun c_46 => ?_) (fun c_46 => ?_)
  · refine lv_iload_n hx hb dX11_wave__53 rfl (lv_at hl 0 rfl) ?_
    refine lv_ineg hx hb dX11_wave__54 ?_
    refine lv_topi (fun tv_54 etv_54 => ?_)
    have hP9 := hP
    have hD9 := hD
    have hK9 := hK.sub (tys' := []) [] rfl
    exact W.iret (v := tv_54) hx hb hr (fun t ht hW => ⟨⟨tv_54, _, rfl, rfl, by rw [ht]; exact hP9, va_K.moved hW.alike hK9, hD9⟩, hS.F ht⟩) hS.2.2 dX11_wave__55
  refine lv_iload_n hx hb dX11_wave__49 rfl (lv_at hl 0 rfl) ?_
  refine lv_goto (tgt := 55) hx hb dX11_wave__50 (by decide) ?_
  have hP9 := hP
  have hD9 := hD
  have hK9 := hK.sub (tys' := []) [] rfl
  exact W.iret (v := tv_13) hx hb hr (fun t ht hW => ⟨⟨tv_13, _, rfl, rfl, by rw [ht]; exact hP9, va_K.moved hW.alike hK9, hD9⟩, hS.F ht⟩) hS.2.2 dX11_wave__55

set_option maxHeartbeats 400000 in
set_option maxRecDepth 100000 in
theorem m_tunedP (l : Launch) (dC : Nat → ClassId) (dI : Nat → Nat → Nat) (sz : Nat) (h : Nat) (qa : Nat → Nat) (x0 x2 x3 x4 x13 x14 x15 x16 x17 x18 x19 x20 x21 x22 x23 x24 x26 x27 x28 : Int32) (cI : ClassId) (g33 : Nat → Int32) (cv : Nat) (pv : Int32) (hcv : cv < 4) : Met l yX11_tunedPeriod (wsG (.code yX11_tunedPeriod cX11_tunedPeriod 3 (some .int))) ({ frames := 2, cells := 0, slots := 0, locals := 36 }) (va_Pc [.ref h, .int (nI cv), .int pv] (gP (dC, dI) [(cI, .int)] [(h, .inr (10, mdF qa x0 x2 x3 x4 x13 x14 x15 x16 x17 x18 x19 x20 x21 x22 x23 x24 x26 x27 x28)), (qa 33, .inl (cI, 4, .inl g33))] sz)) (va_Qi (fun (r : Int32) (u : va_W × gT) => u = ([(h, .inr (10, mdF qa x0 x2 x3 x4 x13 x14 x15 x16 x17 x18 x19 x20 x21 x22 x23 x24 x26 x27 x28)), (qa 33, .inl (cI, 4, .inl g33))], []) ∧ 113 ≤ r.toInt ∧ r.toInt ≤ 856) (gB (dC, dI) (va_A [(h, .inr (10, mdF qa x0 x2 x3 x4 x13 x14 x15 x16 x17 x18 x19 x20 x21 x22 x23 x24 x26 x27 x28)), (qa 33, .inl (cI, 4, .inl g33))] sz)) (va_A [(h, .inr (10, mdF qa x0 x2 x3 x4 x13 x14 x15 x16 x17 x18 x19 x20 x21 x22 x23 x24 x26 x27 x28)), (qa 33, .inl (cI, 4, .inl g33))] sz)) 0 0 (va_A [(h, .inr (10, mdF qa x0 x2 x3 x4 x13 x14 x15 x16 x17 x18 x19 x20 x21 x22 x23 x24 x26 x27 x28)), (qa 33, .inl (cI, 4, .inl g33))] sz) := by
  refine Met.ofW (cc := cX11_tunedPeriod) (maxL := 3) (ret := (some .int)) (by decide) rfl ?_
  intro p e s m args below meth c s₁ B hml hv
  obtain ⟨rfl, hsz, hP, hK, hD0, hN, hZ⟩ := hv
  have hx := B.exec
  have hb := B.bytes
  have hr := B.returns
  have hts := atoms_spec (ws := (wsG (.code yX11_tunedPeriod cX11_tunedPeriod 3 (some .int)))) B.pre
  have hown : s.vm.findClass RX11 = some m.cls := findClass_of_methodNamed B.named
  have hlocks := B.notSynchronized
  subst hsz
  have hD := hD0.self (sz := s.heap.size)
  generalize hAe : va_A [(h, .inr (10, mdF qa x0 x2 x3 x4 x13 x14 x15 x16 x17 x18 x19 x20 x21 x22 x23 x24 x26 x27 x28)), (qa 33, .inl (cI, 4, .inl g33))] s.heap.size = A at hD hZ ⊢
  have hA : ∀ q : Nat, s.heap.size ≤ q → A q := fun q h => by rw [← hAe]; exact Or.inr h
  have hl := lv_entry ([.ref h, .int (nI cv), .int pv]) (n := 3) (Nat.le_of_ble_eq_true rfl)
  rw [lg_entry_eq]
  generalize (lg_sl ([.ref h, .int (nI cv), .int pv]) ++ List.replicate (3 - (lg_sl ([.ref h, .int (nI cv), .int pv])).length) Slot.unset).toArray = ls at hl ⊢
  have hl : lv_has ls 3 [(0, .ref h), (1, .int (nI cv)), (2, .int pv)] := hl
  refine g_start (A := A) hP (fun H locs hP hS => ?_)
  refine lv_iload_n hx hb dX11_tunedPeriod_0 rfl (lv_at hl 2 rfl) ?_
  refine lv_iload_n hx hb dX11_tunedPeriod_1 rfl (lv_at hl 2 rfl) ?_
  refine lv_aload_n hx hb dX11_tunedPeriod_2 rfl (lv_at hl 0 rfl) ?_
  refine va_get (D := (dC, dI)) (ci := 10) (v := .ref (qa 33)) (C := RX11) (T := TX11) (N := 53) hx hb hts iwX11 hown hK hP 0 rfl rfl 33 (by decide) (hts (.fieldLink RX11 62 "ModulePlayerModel" "tuned" "[I") (List.mem_cons_of_mem _ kw_189)) (fun _ h9 => h9) rfl dX11_tunedPeriod_3 ?_
  refine lv_iload_n hx hb dX11_tunedPeriod_6 rfl (lv_at hl 1 rfl) ?_
  refine g_iald hx hb hK hP 1 0 rfl rfl cv (nI_clamp (Nat.lt_trans (show cv < 4 from by omega) (by decide))) (vp_in_nI (by omega) (by decide)) dX11_tunedPeriod_7 ?_
  refine lv_topi (fun tv_7 etv_7 => ?_)
  refine lv_imul hx hb dX11_tunedPeriod_8 ?_
  refine lv_topi (fun tv_8 etv_8 => ?_)
  refine lv_sipush (v := 138) hx hb dX11_tunedPeriod_9 (by decide) ?_
  refine lv_idiv hx hb dX11_tunedPeriod_12 (by decide) ?_
  refine lv_topi (fun tv_12 etv_12 => ?_)
  refine lv_isub hx hb dX11_tunedPeriod_13 ?_
  refine lv_topi (fun tv_13 etv_13 => ?_)
  refine lv_bipush (v := 113) hx hb dX11_tunedPeriod_14 (by decide) ?_
  refine lv_sipush (v := 856) hx hb dX11_tunedPeriod_16 (by decide) ?_
  refine g_calli (wr := [(h, .inr (10, mdF qa x0 x2 x3 x4 x13 x14 x15 x16 x17 x18 x19 x20 x21 x22 x23 x24 x26 x27 x28)), (qa 33, .inl (cI, 4, .inl g33))]) (va_runS (As := [.int tv_13, .int 113, .int 856]) (rest := []) ⟨hx, hb, hml, hown, hts⟩ (m_within l dC dI H.size tv_13 113 856 ) (va_cwS 3 hts (gG_S kw_876 kw_877 kw_5 kw_878) rfl rfl rfl (by decide +kernel) ⟨Nat.le_of_ble_eq_true rfl, Nat.le_of_ble_eq_true rfl⟩) (g_preS hP hD hK hS hA hN hZ [] (by decide) rfl [] rfl) rfl rfl hl.1 rfl (lv_room (Nat.le_of_ble_eq_true rfl)) dX11_tunedPeriod_19 ⟨Nat.le_of_ble_eq_true rfl, Nat.le_of_ble_eq_true rfl⟩) hP hD hK hS hA [] [0, 1] rfl rfl (by decide +kernel) (by decide +kernel) (fun r_19 w ty1 H locs hw_19 hP hD _ hS => ?_)
  rcases hw_19 with ⟨hu, hw_19⟩
  cases hu
  have hP : va_P (dC, dI) vwCl [(h, .inr (10, mdF qa x0 x2 x3 x4 x13 x14 x15 x16 x17 x18 x19 x20 x21 x22 x23 x24 x26 x27 x28)), (qa 33, .inl (cI, 4, .inl g33))] H := hP
  have hD : va_D A [(h, .inr (10, mdF qa x0 x2 x3 x4 x13 x14 x15 x16 x17 x18 x19 x20 x21 x22 x23 x24 x26 x27 x28)), (qa 33, .inl (cI, 4, .inl g33))] := hD
  have hP9 := hP
  have hD9 := hD
  have hK9 := hK.sub (tys' := []) [] rfl
  exact W.iret (v := r_19) hx hb hr (fun t ht hW => ⟨⟨r_19, _, rfl, ⟨rfl, (wthn_t hw_19)⟩, by rw [ht]; exact hP9, va_K.moved hW.alike hK9, hD9⟩, hS.F ht⟩) hS.2.2 dX11_tunedPeriod_22

set_option maxHeartbeats 400000 in
set_option maxRecDepth 100000 in
theorem m_begins (l : Launch) (dC : Nat → ClassId) (dI : Nat → Nat → Nat) (sz : Nat) (h : Nat) (qa : Nat → Nat) (x0 x2 x3 x4 x13 x14 x15 x16 x17 x18 x19 x20 x21 x22 x23 x24 x26 x27 x28 : Int32) (cI cJ cZ : ClassId) (g5 g31 g51 : Nat → Int32) (g50 : Nat → Int64) (cv : Nat) (hcv : cv < 4) (r_g5 : rg 32 0 2000 g5) (r_g31 : rg 4 0 31 g31) (r_g50 : rgL 4 0 1099511627776 g50) : Met l yX11_begins (wsG (.code yX11_begins cX11_begins 2 none)) ({ frames := 0, cells := 0, slots := 0, locals := 0 }) (va_Pc [.ref h, .int (nI cv)] (gP (dC, dI) [(cI, .int), (cJ, .long), (cZ, .boolean)] [(h, .inr (10, mdF qa x0 x2 x3 x4 x13 x14 x15 x16 x17 x18 x19 x20 x21 x22 x23 x24 x26 x27 x28)), (qa 5, .inl (cI, 32, .inl g5)), (qa 31, .inl (cI, 4, .inl g31)), (qa 50, .inl (cJ, 4, .inr (.inl g50))), (qa 51, .inl (cZ, 4, .inl g51))] sz)) (va_Qv (fun u : va_W × gT => ∃ (k51 : Nat → Int32) (k50 : Nat → Int64), u = ([(h, .inr (10, mdF qa x0 x2 x3 x4 x13 x14 x15 x16 x17 x18 x19 x20 x21 x22 x23 x24 x26 x27 x28)), (qa 5, .inl (cI, 32, .inl g5)), (qa 31, .inl (cI, 4, .inl g31)), (qa 50, .inl (cJ, 4, .inr (.inl k50))), (qa 51, .inl (cZ, 4, .inl k51))], []) ∧ rgL 4 0 1099511627776 k50) (gB (dC, dI) (va_A [(h, .inr (10, mdF qa x0 x2 x3 x4 x13 x14 x15 x16 x17 x18 x19 x20 x21 x22 x23 x24 x26 x27 x28)), (qa 5, .inl (cI, 32, .inl g5)), (qa 31, .inl (cI, 4, .inl g31)), (qa 50, .inl (cJ, 4, .inr (.inl g50))), (qa 51, .inl (cZ, 4, .inl g51))] sz)) (va_A [(h, .inr (10, mdF qa x0 x2 x3 x4 x13 x14 x15 x16 x17 x18 x19 x20 x21 x22 x23 x24 x26 x27 x28)), (qa 5, .inl (cI, 32, .inl g5)), (qa 31, .inl (cI, 4, .inl g31)), (qa 50, .inl (cJ, 4, .inr (.inl g50))), (qa 51, .inl (cZ, 4, .inl g51))] sz)) 0 0 (va_A [(h, .inr (10, mdF qa x0 x2 x3 x4 x13 x14 x15 x16 x17 x18 x19 x20 x21 x22 x23 x24 x26 x27 x28)), (qa 5, .inl (cI, 32, .inl g5)), (qa 31, .inl (cI, 4, .inl g31)), (qa 50, .inl (cJ, 4, .inr (.inl g50))), (qa 51, .inl (cZ, 4, .inl g51))] sz) := by
  refine Met.ofW (cc := cX11_begins) (maxL := 2) (ret := none) (by decide) rfl ?_
  intro p e s m args below meth c s₁ B hml hv
  obtain ⟨rfl, hsz, hP, hK, hD0, hN, hZ⟩ := hv
  have hx := B.exec
  have hb := B.bytes
  have hr := B.returns
  have hts := atoms_spec (ws := (wsG (.code yX11_begins cX11_begins 2 none))) B.pre
  have hown : s.vm.findClass RX11 = some m.cls := findClass_of_methodNamed B.named
  have hlocks := B.notSynchronized
  subst hsz
  have hD := hD0.self (sz := s.heap.size)
  generalize hAe : va_A [(h, .inr (10, mdF qa x0 x2 x3 x4 x13 x14 x15 x16 x17 x18 x19 x20 x21 x22 x23 x24 x26 x27 x28)), (qa 5, .inl (cI, 32, .inl g5)), (qa 31, .inl (cI, 4, .inl g31)), (qa 50, .inl (cJ, 4, .inr (.inl g50))), (qa 51, .inl (cZ, 4, .inl g51))] s.heap.size = A at hD hZ ⊢
  have hA : ∀ q : Nat, s.heap.size ≤ q → A q := fun q h => by rw [← hAe]; exact Or.inr h
  have hl := lv_entry ([.ref h, .int (nI cv)]) (n := 2) (Nat.le_of_ble_eq_true rfl)
  rw [lg_entry_eq]
  generalize (lg_sl ([.ref h, .int (nI cv)]) ++ List.replicate (2 - (lg_sl ([.ref h, .int (nI cv)])).length) Slot.unset).toArray = ls at hl ⊢
  have hl : lv_has ls 2 [(0, .ref h), (1, .int (nI cv))] := hl
  refine g_start (A := A) hP (fun H locs hP hS => ?_)
  refine lv_aload_n hx hb dX11_begins_0 rfl (lv_at hl 0 rfl) ?_
  refine va_get (D := (dC, dI)) (ci := 10) (v := .ref (qa 50)) (C := RX11) (T := TX11) (N := 53) hx hb hts iwX11 hown hK hP 0 rfl rfl 50 (by decide) (hts (.fieldLink RX11 113 "ModulePlayerModel" "at" "[J") (List.mem_cons_of_mem _ kw_206)) (fun _ h9 => h9) rfl dX11_begins_1 ?_
  refine lv_iload_n hx hb dX11_begins_4 rfl (lv_at hl 1 rfl) ?_
  refine lv_lconst (v := 0) hx hb dX11_begins_5 (by decide) ?_
  refine g_last hx hb hK hP hD hS 3 1 rfl rfl cv (nI_clamp (Nat.lt_trans (show cv < 4 from by omega) (by decide))) (vp_in_nI (by omega) (by decide)) dX11_begins_6 (fun H locs hP hD hS => ?_)
  have hP : va_P (dC, dI) vwCl [(h, .inr (10, mdF qa x0 x2 x3 x4 x13 x14 x15 x16 x17 x18 x19 x20 x21 x22 x23 x24 x26 x27 x28)), (qa 5, .inl (cI, 32, .inl g5)), (qa 31, .inl (cI, 4, .inl g31)), (qa 50, .inl (cJ, 4, .inr (.inl (vp_updL g50 cv 0)))), (qa 51, .inl (cZ, 4, .inl g51))] H := hP
  have hD : va_D A [(h, .inr (10, mdF qa x0 x2 x3 x4 x13 x14 x15 x16 x17 x18 x19 x20 x21 x22 x23 x24 x26 x27 x28)), (qa 5, .inl (cI, 32, .inl g5)), (qa 31, .inl (cI, 4, .inl g31)), (qa 50, .inl (cJ, 4, .inr (.inl (vp_updL g50 cv 0)))), (qa 51, .inl (cZ, 4, .inl g51))] := hD
  obtain ⟨u50_6, r_u50_6, eu50_6⟩ : ∃ ff : Nat → Int64, rgL 4 0 1099511627776 ff ∧ ff = vp_updL g50 cv 0 := ⟨vp_updL g50 cv 0, rgL_upd2 r_g50 (⟨by decide, by decide⟩), rfl⟩
  rw [← eu50_6] at hP hD
  refine lv_aload_n hx hb dX11_begins_7 rfl (lv_at hl 0 rfl) ?_
  refine va_get (D := (dC, dI)) (ci := 10) (v := .ref (qa 51)) (C := RX11) (T := TX11) (N := 53) hx hb hts iwX11 hown hK hP 0 rfl rfl 51 (by decide) (hts (.fieldLink RX11 117 "ModulePlayerModel" "sounds" "[Z") (List.mem_cons_of_mem _ kw_207)) (fun _ h9 => h9) rfl dX11_begins_8 ?_
  refine lv_iload_n hx hb dX11_begins_11 rfl (lv_at hl 1 rfl) ?_
  refine lv_aload_n hx hb dX11_begins_12 rfl (lv_at hl 0 rfl) ?_
  refine va_get (D := (dC, dI)) (ci := 10) (v := .ref (qa 31)) (C := RX11) (T := TX11) (N := 53) hx hb hts iwX11 hown hK hP 0 rfl rfl 31 (by decide) (hts (.fieldLink RX11 56 "ModulePlayerModel" "sample" "[I") (List.mem_cons_of_mem _ kw_187)) (fun _ h9 => h9) rfl dX11_begins_13 ?_
  refine lv_iload_n hx hb dX11_begins_16 rfl (lv_at hl 1 rfl) ?_
  refine g_iald hx hb hK hP 2 0 rfl rfl cv (nI_clamp (Nat.lt_trans (show cv < 4 from by omega) (by decide))) (vp_in_nI (by omega) (by decide)) dX11_begins_17 ?_
  obtain ⟨jn_17, hjn_17, ejn_17⟩ := rg_nat (kx := cv) (mx := 31) r_g31 (by omega) rfl
  refine g_topi (y := nI jn_17) ejn_17 ?_
  refine lv_if_le (tgt := 39) hx hb dX11_begins_18 (by decide) (fun c_18 => ?_) (fun c_18 => ?_)
  · refine lv_iconst (v := 0) hx hb dX11_begins_39 (by decide) ?_
    refine g_zast hx hb hK hP hD hS 4 2 rfl rfl (x' := 0) (by decide) cv (nI_clamp (Nat.lt_trans (show cv < 4 from by omega) (by decide))) (vp_in_nI (by omega) (by decide)) dX11_begins_40 (fun H locs hP hD hS => ?_)
    have hP : va_P (dC, dI) vwCl [(h, .inr (10, mdF qa x0 x2 x3 x4 x13 x14 x15 x16 x17 x18 x19 x20 x21 x22 x23 x24 x26 x27 x28)), (qa 5, .inl (cI, 32, .inl g5)), (qa 31, .inl (cI, 4, .inl g31)), (qa 50, .inl (cJ, 4, .inr (.inl u50_6))), (qa 51, .inl (cZ, 4, .inl (upd g51 cv 0)))] H := hP
    have hD : va_D A [(h, .inr (10, mdF qa x0 x2 x3 x4 x13 x14 x15 x16 x17 x18 x19 x20 x21 x22 x23 x24 x26 x27 x28)), (qa 5, .inl (cI, 32, .inl g5)), (qa 31, .inl (cI, 4, .inl g31)), (qa 50, .inl (cJ, 4, .inr (.inl u50_6))), (qa 51, .inl (cZ, 4, .inl (upd g51 cv 0)))] := hD
    generalize upd g51 cv 0 = u51_40 at hP hD
    have hP9 := hP
    have hD9 := hD
    have hK9 := hK.sub (tys' := []) [] rfl
    exact W.vret hx hb hr (fun t ht hW => ⟨⟨_, rfl, ⟨u51_40, u50_6, rfl, r_u50_6⟩, by rw [ht]; exact hP9, va_K.moved hW.alike hK9, hD9⟩, hS.F ht⟩) hS.2.2 dX11_begins_41
  refine lv_aload_n hx hb dX11_begins_21 rfl (lv_at hl 0 rfl) ?_
  refine va_get (D := (dC, dI)) (ci := 10) (v := .ref (qa 5)) (C := RX11) (T := TX11) (N := 53) hx hb hts iwX11 hown hK hP 0 rfl rfl 5 (by decide) (hts (.fieldLink RX11 17 "ModulePlayerModel" "length" "[I") (List.mem_cons_of_mem _ kw_173)) (fun _ h9 => h9) rfl dX11_begins_22 ?_
  refine lv_aload_n hx hb dX11_begins_25 rfl (lv_at hl 0 rfl) ?_
  refine va_get (D := (dC, dI)) (ci := 10) (v := .ref (qa 31)) (C := RX11) (T := TX11) (N := 53) hx hb hts iwX11 hown hK hP 0 rfl rfl 31 (by decide) (hts (.fieldLink RX11 56 "ModulePlayerModel" "sample" "[I") (List.mem_cons_of_mem _ kw_187)) (fun _ h9 => h9) rfl dX11_begins_26 ?_
  refine lv_iload_n hx hb dX11_begins_29 rfl (lv_at hl 1 rfl) ?_
  refine g_iald hx hb hK hP 2 0 rfl rfl cv (nI_clamp (Nat.lt_trans (show cv < 4 from by omega) (by decide))) (vp_in_nI (by omega) (by decide)) dX11_begins_30 ?_
  obtain ⟨jn_30, hjn_30, ejn_30⟩ := rg_nat (kx := cv) (mx := 31) r_g31 (by omega) rfl
  refine g_topi (y := nI jn_30) ejn_30 ?_
  refine g_iald hx hb hK hP 1 0 rfl rfl jn_30 (nI_clamp (Nat.lt_trans (show jn_30 < 32 from by omega) (by decide))) (vp_in_nI (by omega) (by decide)) dX11_begins_31 ?_
  obtain ⟨jn_31, hjn_31, ejn_31⟩ := rg_nat (kx := jn_30) (mx := 2000) r_g5 (by omega) rfl
  refine g_topi (y := nI jn_31) ejn_31 ?_
  refine lv_if_le (tgt := 39) hx hb dX11_begins_32 (by decide) (fun c_32 => ?_) (fun c_32 => ?_)
  · refine lv_iconst (v := 0) hx hb dX11_begins_39 (by decide) ?_
    refine g_zast hx hb hK hP hD hS 4 2 rfl rfl (x' := 0) (by decide) cv (nI_clamp (Nat.lt_trans (show cv < 4 from by omega) (by decide))) (vp_in_nI (by omega) (by decide)) dX11_begins_40 (fun H locs hP hD hS => ?_)
    have hP : va_P (dC, dI) vwCl [(h, .inr (10, mdF qa x0 x2 x3 x4 x13 x14 x15 x16 x17 x18 x19 x20 x21 x22 x23 x24 x26 x27 x28)), (qa 5, .inl (cI, 32, .inl g5)), (qa 31, .inl (cI, 4, .inl g31)), (qa 50, .inl (cJ, 4, .inr (.inl u50_6))), (qa 51, .inl (cZ, 4, .inl (upd g51 cv 0)))] H := hP
    have hD : va_D A [(h, .inr (10, mdF qa x0 x2 x3 x4 x13 x14 x15 x16 x17 x18 x19 x20 x21 x22 x23 x24 x26 x27 x28)), (qa 5, .inl (cI, 32, .inl g5)), (qa 31, .inl (cI, 4, .inl g31)), (qa 50, .inl (cJ, 4, .inr (.inl u50_6))), (qa 51, .inl (cZ, 4, .inl (upd g51 cv 0)))] := hD
    generalize upd g51 cv 0 = u51_40 at hP hD
    have hP9 := hP
    have hD9 := hD
    have hK9 := hK.sub (tys' := []) [] rfl
    exact W.vret hx hb hr (fun t ht hW => ⟨⟨_, rfl, ⟨u51_40, u50_6, rfl, r_u50_6⟩, by rw [ht]; exact hP9, va_K.moved hW.alike hK9, hD9⟩, hS.F ht⟩) hS.2.2 dX11_begins_41
  refine lv_iconst (v := 1) hx hb dX11_begins_35 (by decide) ?_
  refine lv_goto (tgt := 40) hx hb dX11_begins_36 (by decide) ?_
  refine g_zast hx hb hK hP hD hS 4 2 rfl rfl (x' := 1) (by decide) cv (nI_clamp (Nat.lt_trans (show cv < 4 from by omega) (by decide))) (vp_in_nI (by omega) (by decide)) dX11_begins_40 (fun H locs hP hD hS => ?_)
  have hP : va_P (dC, dI) vwCl [(h, .inr (10, mdF qa x0 x2 x3 x4 x13 x14 x15 x16 x17 x18 x19 x20 x21 x22 x23 x24 x26 x27 x28)), (qa 5, .inl (cI, 32, .inl g5)), (qa 31, .inl (cI, 4, .inl g31)), (qa 50, .inl (cJ, 4, .inr (.inl u50_6))), (qa 51, .inl (cZ, 4, .inl (upd g51 cv 1)))] H := hP
  have hD : va_D A [(h, .inr (10, mdF qa x0 x2 x3 x4 x13 x14 x15 x16 x17 x18 x19 x20 x21 x22 x23 x24 x26 x27 x28)), (qa 5, .inl (cI, 32, .inl g5)), (qa 31, .inl (cI, 4, .inl g31)), (qa 50, .inl (cJ, 4, .inr (.inl u50_6))), (qa 51, .inl (cZ, 4, .inl (upd g51 cv 1)))] := hD
  generalize upd g51 cv 1 = u51_40 at hP hD
  have hP9 := hP
  have hD9 := hD
  have hK9 := hK.sub (tys' := []) [] rfl
  exact W.vret hx hb hr (fun t ht hW => ⟨⟨_, rfl, ⟨u51_40, u50_6, rfl, r_u50_6⟩, by rw [ht]; exact hP9, va_K.moved hW.alike hK9, hD9⟩, hS.F ht⟩) hS.2.2 dX11_begins_41

set_option maxHeartbeats 400000 in
set_option maxRecDepth 100000 in
theorem m_comes (l : Launch) (dC : Nat → ClassId) (dI : Nat → Nat → Nat) (sz : Nat) (h : Nat) (qa : Nat → Nat) (x0 x2 x3 x4 x13 x14 x15 x16 x17 x18 x19 x20 x21 x22 x23 x24 x26 x27 x28 : Int32) (cI cJ cZ : ClassId) (g5 g6 g7 g31 g32 g33 g34 g35 g36 g39 g42 g47 g51 : Nat → Int32) (g50 : Nat → Int64) (cv : Nat) (hcv : cv < 4) (r_g5 : rg 32 0 2000 g5) (r_g31 : rg 4 0 31 g31) (r_g34 : rg 4 0 856 g34) (r_g36 : rg 4 0 856 g36) (r_g50 : rgL 4 0 1099511627776 g50) : Met l yX11_comes (wsG (.code yX11_comes cX11_comes 5 none)) ({ frames := 3, cells := 0, slots := 0, locals := 58 }) (va_Pc [.ref h, .int (nI cv)] (gP (dC, dI) [(cI, .int), (cJ, .long), (cZ, .boolean)] [(h, .inr (10, mdF qa x0 x2 x3 x4 x13 x14 x15 x16 x17 x18 x19 x20 x21 x22 x23 x24 x26 x27 x28)), (qa 5, .inl (cI, 32, .inl g5)), (qa 6, .inl (cI, 32, .inl g6)), (qa 7, .inl (cI, 32, .inl g7)), (qa 31, .inl (cI, 4, .inl g31)), (qa 32, .inl (cI, 4, .inl g32)), (qa 33, .inl (cI, 4, .inl g33)), (qa 34, .inl (cI, 4, .inl g34)), (qa 35, .inl (cI, 4, .inl g35)), (qa 36, .inl (cI, 4, .inl g36)), (qa 39, .inl (cI, 4, .inl g39)), (qa 42, .inl (cI, 4, .inl g42)), (qa 47, .inl (cI, 4, .inl g47)), (qa 50, .inl (cJ, 4, .inr (.inl g50))), (qa 51, .inl (cZ, 4, .inl g51))] sz)) (va_Qv (fun u : va_W × gT => ∃ (k31 : Nat → Int32) (k32 : Nat → Int32) (k33 : Nat → Int32) (k34 : Nat → Int32) (k35 : Nat → Int32) (k36 : Nat → Int32) (k39 : Nat → Int32) (k42 : Nat → Int32) (k51 : Nat → Int32) (k50 : Nat → Int64), u = ([(h, .inr (10, mdF qa x0 x2 x3 x4 x13 x14 x15 x16 x17 x18 x19 x20 x21 x22 x23 x24 x26 x27 x28)), (qa 5, .inl (cI, 32, .inl g5)), (qa 6, .inl (cI, 32, .inl g6)), (qa 7, .inl (cI, 32, .inl g7)), (qa 31, .inl (cI, 4, .inl k31)), (qa 32, .inl (cI, 4, .inl k32)), (qa 33, .inl (cI, 4, .inl k33)), (qa 34, .inl (cI, 4, .inl k34)), (qa 35, .inl (cI, 4, .inl k35)), (qa 36, .inl (cI, 4, .inl k36)), (qa 39, .inl (cI, 4, .inl k39)), (qa 42, .inl (cI, 4, .inl k42)), (qa 47, .inl (cI, 4, .inl g47)), (qa 50, .inl (cJ, 4, .inr (.inl k50))), (qa 51, .inl (cZ, 4, .inl k51))], []) ∧ rg 4 0 31 k31 ∧ rg 4 0 856 k34 ∧ rg 4 0 856 k36 ∧ rgL 4 0 1099511627776 k50) (gB (dC, dI) (va_A [(h, .inr (10, mdF qa x0 x2 x3 x4 x13 x14 x15 x16 x17 x18 x19 x20 x21 x22 x23 x24 x26 x27 x28)), (qa 5, .inl (cI, 32, .inl g5)), (qa 6, .inl (cI, 32, .inl g6)), (qa 7, .inl (cI, 32, .inl g7)), (qa 31, .inl (cI, 4, .inl g31)), (qa 32, .inl (cI, 4, .inl g32)), (qa 33, .inl (cI, 4, .inl g33)), (qa 34, .inl (cI, 4, .inl g34)), (qa 35, .inl (cI, 4, .inl g35)), (qa 36, .inl (cI, 4, .inl g36)), (qa 39, .inl (cI, 4, .inl g39)), (qa 42, .inl (cI, 4, .inl g42)), (qa 47, .inl (cI, 4, .inl g47)), (qa 50, .inl (cJ, 4, .inr (.inl g50))), (qa 51, .inl (cZ, 4, .inl g51))] sz)) (va_A [(h, .inr (10, mdF qa x0 x2 x3 x4 x13 x14 x15 x16 x17 x18 x19 x20 x21 x22 x23 x24 x26 x27 x28)), (qa 5, .inl (cI, 32, .inl g5)), (qa 6, .inl (cI, 32, .inl g6)), (qa 7, .inl (cI, 32, .inl g7)), (qa 31, .inl (cI, 4, .inl g31)), (qa 32, .inl (cI, 4, .inl g32)), (qa 33, .inl (cI, 4, .inl g33)), (qa 34, .inl (cI, 4, .inl g34)), (qa 35, .inl (cI, 4, .inl g35)), (qa 36, .inl (cI, 4, .inl g36)), (qa 39, .inl (cI, 4, .inl g39)), (qa 42, .inl (cI, 4, .inl g42)), (qa 47, .inl (cI, 4, .inl g47)), (qa 50, .inl (cJ, 4, .inr (.inl g50))), (qa 51, .inl (cZ, 4, .inl g51))] sz)) 0 0 (va_A [(h, .inr (10, mdF qa x0 x2 x3 x4 x13 x14 x15 x16 x17 x18 x19 x20 x21 x22 x23 x24 x26 x27 x28)), (qa 5, .inl (cI, 32, .inl g5)), (qa 6, .inl (cI, 32, .inl g6)), (qa 7, .inl (cI, 32, .inl g7)), (qa 31, .inl (cI, 4, .inl g31)), (qa 32, .inl (cI, 4, .inl g32)), (qa 33, .inl (cI, 4, .inl g33)), (qa 34, .inl (cI, 4, .inl g34)), (qa 35, .inl (cI, 4, .inl g35)), (qa 36, .inl (cI, 4, .inl g36)), (qa 39, .inl (cI, 4, .inl g39)), (qa 42, .inl (cI, 4, .inl g42)), (qa 47, .inl (cI, 4, .inl g47)), (qa 50, .inl (cJ, 4, .inr (.inl g50))), (qa 51, .inl (cZ, 4, .inl g51))] sz) := by
  refine Met.ofW (cc := cX11_comes) (maxL := 5) (ret := none) (by decide) rfl ?_
  intro p e s m args below meth c s₁ B hml hv
  obtain ⟨rfl, hsz, hP, hK, hD0, hN, hZ⟩ := hv
  have hx := B.exec
  have hb := B.bytes
  have hr := B.returns
  have hts := atoms_spec (ws := (wsG (.code yX11_comes cX11_comes 5 none))) B.pre
  have hown : s.vm.findClass RX11 = some m.cls := findClass_of_methodNamed B.named
  have hlocks := B.notSynchronized
  subst hsz
  have hD := hD0.self (sz := s.heap.size)
  generalize hAe : va_A [(h, .inr (10, mdF qa x0 x2 x3 x4 x13 x14 x15 x16 x17 x18 x19 x20 x21 x22 x23 x24 x26 x27 x28)), (qa 5, .inl (cI, 32, .inl g5)), (qa 6, .inl (cI, 32, .inl g6)), (qa 7, .inl (cI, 32, .inl g7)), (qa 31, .inl (cI, 4, .inl g31)), (qa 32, .inl (cI, 4, .inl g32)), (qa 33, .inl (cI, 4, .inl g33)), (qa 34, .inl (cI, 4, .inl g34)), (qa 35, .inl (cI, 4, .inl g35)), (qa 36, .inl (cI, 4, .inl g36)), (qa 39, .inl (cI, 4, .inl g39)), (qa 42, .inl (cI, 4, .inl g42)), (qa 47, .inl (cI, 4, .inl g47)), (qa 50, .inl (cJ, 4, .inr (.inl g50))), (qa 51, .inl (cZ, 4, .inl g51))] s.heap.size = A at hD hZ ⊢
  have hA : ∀ q : Nat, s.heap.size ≤ q → A q := fun q h => by rw [← hAe]; exact Or.inr h
  have hl := lv_entry ([.ref h, .int (nI cv)]) (n := 5) (Nat.le_of_ble_eq_true rfl)
  rw [lg_entry_eq]
  generalize (lg_sl ([.ref h, .int (nI cv)]) ++ List.replicate (5 - (lg_sl ([.ref h, .int (nI cv)])).length) Slot.unset).toArray = ls at hl ⊢
  have hl : lv_has ls 5 [(0, .ref h), (1, .int (nI cv))] := hl
  refine g_start (A := A) hP (fun H locs hP hS => ?_)
  refine lv_aload_n hx hb dX11_comes_0 rfl (lv_at hl 0 rfl) ?_
  refine va_get (D := (dC, dI)) (ci := 10) (v := .ref (qa 47)) (C := RX11) (T := TX11) (N := 53) hx hb hts iwX11 hown hK hP 0 rfl rfl 47 (by decide) (hts (.fieldLink RX11 104 "ModulePlayerModel" "cell" "[I") (List.mem_cons_of_mem _ kw_203)) (fun _ h9 => h9) rfl dX11_comes_1 ?_
  refine lv_iload_n hx hb dX11_comes_4 rfl (lv_at hl 1 rfl) ?_
  refine g_iald hx hb hK hP 12 0 rfl rfl cv (nI_clamp (Nat.lt_trans (show cv < 4 from by omega) (by decide))) (vp_in_nI (by omega) (by decide)) dX11_comes_5 ?_
  refine lv_topi (fun tv_5 etv_5 => ?_)
  refine lv_istore_n (lv' := [(2, .int tv_5), (0, .ref h), (1, .int (nI cv))]) hx hb dX11_comes_6 rfl hl (by decide) rfl (fun ls hl => ?_)
  refine lv_iload_n hx hb dX11_comes_7 rfl (lv_at hl 0 rfl) ?_
  refine lv_bipush (v := 12) hx hb dX11_comes_8 (by decide) ?_
  refine lv_ishr hx hb dX11_comes_10 ?_
  refine lv_topi (fun tv_10 etv_10 => ?_)
  refine lv_bipush (v := 31) hx hb dX11_comes_11 (by decide) ?_
  obtain ⟨sq, hsq, esq⟩ := pk_andE (tv_10) (m := 31) 5 (by decide)
  refine lv_iand hx hb dX11_comes_13 ?_
  refine g_topi (y := nI sq) (esq) ?_
  refine lv_istore_n (lv' := [(3, .int (nI sq)), (2, .int tv_5), (0, .ref h), (1, .int (nI cv))]) hx hb dX11_comes_14 rfl hl (by decide) rfl (fun ls hl => ?_)
  refine lv_iload_n hx hb dX11_comes_15 rfl (lv_at hl 1 rfl) ?_
  refine lv_bipush (v := 17) hx hb dX11_comes_16 (by decide) ?_
  refine lv_ishr hx hb dX11_comes_18 ?_
  refine lv_topi (fun tv_18 etv_18 => ?_)
  refine lv_istore (lv' := [(4, .int tv_18), (3, .int (nI sq)), (2, .int tv_5), (0, .ref h), (1, .int (nI cv))]) hx hb dX11_comes_19 hl (by decide) rfl (fun ls hl => ?_)
  refine lv_iload_n hx hb dX11_comes_21 rfl (lv_at hl 1 rfl) ?_
  refine lv_if_le (tgt := 56) hx hb dX11_comes_22 (by decide) (fun c_22 => ?_) (fun c_22 => ?_)
  · refine lv_iload hx hb dX11_comes_56 (lv_at hl 0 rfl) ?_
    refine lv_if_ne (tgt := 62) hx hb dX11_comes_58 (by decide) (fun c_58 => ?_) (fun c_58 => ?_)
    · refine lv_iload_n hx hb dX11_comes_62 rfl (lv_at hl 2 rfl) ?_
      refine g_calli (wr := [(h, .inr (10, mdF qa x0 x2 x3 x4 x13 x14 x15 x16 x17 x18 x19 x20 x21 x22 x23 x24 x26 x27 x28)), (qa 5, .inl (cI, 32, .inl g5)), (qa 6, .inl (cI, 32, .inl g6)), (qa 7, .inl (cI, 32, .inl g7)), (qa 31, .inl (cI, 4, .inl g31)), (qa 32, .inl (cI, 4, .inl g32)), (qa 33, .inl (cI, 4, .inl g33)), (qa 34, .inl (cI, 4, .inl g34)), (qa 35, .inl (cI, 4, .inl g35)), (qa 36, .inl (cI, 4, .inl g36)), (qa 39, .inl (cI, 4, .inl g39)), (qa 42, .inl (cI, 4, .inl g42)), (qa 47, .inl (cI, 4, .inl g47)), (qa 50, .inl (cJ, 4, .inr (.inl g50))), (qa 51, .inl (cZ, 4, .inl g51))]) (va_runS (As := [.int tv_5]) (rest := []) ⟨hx, hb, hml, hown, hts⟩ (m_effect l dC dI H.size tv_5 ) (va_cwS 1 hts (gG_S kw_859 kw_860 kw_5 kw_861) rfl rfl rfl (by decide +kernel) ⟨Nat.le_of_ble_eq_true rfl, Nat.le_of_ble_eq_true rfl⟩) (g_preS hP hD hK hS hA hN hZ [] (by decide) rfl [] rfl) rfl rfl hl.1 rfl (lv_room (Nat.le_of_ble_eq_true rfl)) dX11_comes_63 ⟨Nat.le_of_ble_eq_true rfl, Nat.le_of_ble_eq_true rfl⟩) hP hD hK hS hA [] [0, 1, 2, 3, 4, 5, 6, 7, 8, 9, 10, 11, 12, 13, 14] rfl rfl (by decide +kernel) (by decide +kernel) (fun r_63 w ty1 H locs hw_63 hP hD _ hS => ?_)
      rcases hw_63 with ⟨hu, hr_63⟩
      cases hu
      have hP : va_P (dC, dI) vwCl [(h, .inr (10, mdF qa x0 x2 x3 x4 x13 x14 x15 x16 x17 x18 x19 x20 x21 x22 x23 x24 x26 x27 x28)), (qa 5, .inl (cI, 32, .inl g5)), (qa 6, .inl (cI, 32, .inl g6)), (qa 7, .inl (cI, 32, .inl g7)), (qa 31, .inl (cI, 4, .inl g31)), (qa 32, .inl (cI, 4, .inl g32)), (qa 33, .inl (cI, 4, .inl g33)), (qa 34, .inl (cI, 4, .inl g34)), (qa 35, .inl (cI, 4, .inl g35)), (qa 36, .inl (cI, 4, .inl g36)), (qa 39, .inl (cI, 4, .inl g39)), (qa 42, .inl (cI, 4, .inl g42)), (qa 47, .inl (cI, 4, .inl g47)), (qa 50, .inl (cJ, 4, .inr (.inl g50))), (qa 51, .inl (cZ, 4, .inl g51))] H := hP
      have hD : va_D A [(h, .inr (10, mdF qa x0 x2 x3 x4 x13 x14 x15 x16 x17 x18 x19 x20 x21 x22 x23 x24 x26 x27 x28)), (qa 5, .inl (cI, 32, .inl g5)), (qa 6, .inl (cI, 32, .inl g6)), (qa 7, .inl (cI, 32, .inl g7)), (qa 31, .inl (cI, 4, .inl g31)), (qa 32, .inl (cI, 4, .inl g32)), (qa 33, .inl (cI, 4, .inl g33)), (qa 34, .inl (cI, 4, .inl g34)), (qa 35, .inl (cI, 4, .inl g35)), (qa 36, .inl (cI, 4, .inl g36)), (qa 39, .inl (cI, 4, .inl g39)), (qa 42, .inl (cI, 4, .inl g42)), (qa 47, .inl (cI, 4, .inl g47)), (qa 50, .inl (cJ, 4, .inr (.inl g50))), (qa 51, .inl (cZ, 4, .inl g51))] := hD
      refine g_topi (y := (tv_5 >>> (8 &&& 31)) &&& 15) hr_63 ?_
      refine lv_iconst (v := 3) hx hb dX11_comes_66 (by decide) ?_
      refine lv_icmp_eq (tgt := 78) hx hb dX11_comes_67 (by decide) (fun c_67 => ?_) (fun c_67 => ?_)
      · refine lv_aload_n hx hb dX11_comes_78 rfl (lv_at hl 3 rfl) ?_
        refine va_get (D := (dC, dI)) (ci := 10) (v := .ref (qa 36)) (C := RX11) (T := TX11) (N := 53) hx hb hts iwX11 hown hK hP 0 rfl rfl 36 (by decide) (hts (.fieldLink RX11 71 "ModulePlayerModel" "target" "[I") (List.mem_cons_of_mem _ kw_192)) (fun _ h9 => h9) rfl dX11_comes_79 ?_
        refine lv_iload_n hx hb dX11_comes_82 rfl (lv_at hl 4 rfl) ?_
        refine lv_aload_n hx hb dX11_comes_83 rfl (lv_at hl 3 rfl) ?_
        refine lv_iload_n hx hb dX11_comes_84 rfl (lv_at hl 4 rfl) ?_
        refine lv_iload hx hb dX11_comes_85 (lv_at hl 0 rfl) ?_
        refine g_calli (wr := [(qa 5, .inl (cI, 32, .inl g5)), (qa 6, .inl (cI, 32, .inl g6)), (qa 7, .inl (cI, 32, .inl g7)), (qa 31, .inl (cI, 4, .inl g31)), (qa 32, .inl (cI, 4, .inl g32)), (qa 34, .inl (cI, 4, .inl g34)), (qa 35, .inl (cI, 4, .inl g35)), (qa 36, .inl (cI, 4, .inl g36)), (qa 39, .inl (cI, 4, .inl g39)), (qa 42, .inl (cI, 4, .inl g42)), (qa 47, .inl (cI, 4, .inl g47)), (qa 50, .inl (cJ, 4, .inr (.inl g50))), (qa 51, .inl (cZ, 4, .inl g51))]) (va_runV (As := [.int (nI cv), .int tv_18]) (rest := [.int (nI cv), .ref (qa 36)]) ⟨hx, hb, hml, hown, hts⟩ (m_tunedP l dC dI H.size h qa x0 x2 x3 x4 x13 x14 x15 x16 x17 x18 x19 x20 x21 x22 x23 x24 x26 x27 x28 cI g33 cv tv_18 (hcv)) (cwV 2 hts (gG_V kw_872 kw_873 kw_874 kw_5 kw_875) rfl rfl rfl (by decide +kernel) ⟨Nat.le_of_ble_eq_true rfl, Nat.le_of_ble_eq_true rfl⟩) (g_preV (C := RX11) (T := TX11) (N := 53) hP hD hK hS hA hN hZ (q0 := 0) rfl rfl [0, 6] (by decide +kernel) rfl [0] rfl) rfl rfl hl.1 rfl (lv_room (Nat.le_of_ble_eq_true rfl)) dX11_comes_87 ⟨Nat.le_of_ble_eq_true rfl, Nat.le_of_ble_eq_true rfl⟩) hP hD hK hS hA [0, 6] [1, 2, 3, 4, 5, 7, 8, 9, 10, 11, 12, 13, 14] rfl rfl (by decide +kernel) (by decide +kernel) (fun r_87 w ty1 H locs hw_87 hP hD _ hS => ?_)
        rcases hw_87 with ⟨hu, hw_87⟩
        cases hu
        have hP : va_P (dC, dI) vwCl [(qa 5, .inl (cI, 32, .inl g5)), (qa 6, .inl (cI, 32, .inl g6)), (qa 7, .inl (cI, 32, .inl g7)), (qa 31, .inl (cI, 4, .inl g31)), (qa 32, .inl (cI, 4, .inl g32)), (qa 34, .inl (cI, 4, .inl g34)), (qa 35, .inl (cI, 4, .inl g35)), (qa 36, .inl (cI, 4, .inl g36)), (qa 39, .inl (cI, 4, .inl g39)), (qa 42, .inl (cI, 4, .inl g42)), (qa 47, .inl (cI, 4, .inl g47)), (qa 50, .inl (cJ, 4, .inr (.inl g50))), (qa 51, .inl (cZ, 4, .inl g51)), (h, .inr (10, mdF qa x0 x2 x3 x4 x13 x14 x15 x16 x17 x18 x19 x20 x21 x22 x23 x24 x26 x27 x28)), (qa 33, .inl (cI, 4, .inl g33))] H := hP
        have hD : va_D A [(qa 5, .inl (cI, 32, .inl g5)), (qa 6, .inl (cI, 32, .inl g6)), (qa 7, .inl (cI, 32, .inl g7)), (qa 31, .inl (cI, 4, .inl g31)), (qa 32, .inl (cI, 4, .inl g32)), (qa 34, .inl (cI, 4, .inl g34)), (qa 35, .inl (cI, 4, .inl g35)), (qa 36, .inl (cI, 4, .inl g36)), (qa 39, .inl (cI, 4, .inl g39)), (qa 42, .inl (cI, 4, .inl g42)), (qa 47, .inl (cI, 4, .inl g47)), (qa 50, .inl (cJ, 4, .inr (.inl g50))), (qa 51, .inl (cZ, 4, .inl g51)), (h, .inr (10, mdF qa x0 x2 x3 x4 x13 x14 x15 x16 x17 x18 x19 x20 x21 x22 x23 x24 x26 x27 x28)), (qa 33, .inl (cI, 4, .inl g33))] := hD
        refine g_iast hx hb hK hP hD hS 7 0 rfl rfl cv (nI_clamp (Nat.lt_trans (show cv < 4 from by omega) (by decide))) (vp_in_nI (by omega) (by decide)) dX11_comes_90 (fun H locs hP hD hS => ?_)
        have hP : va_P (dC, dI) vwCl [(qa 5, .inl (cI, 32, .inl g5)), (qa 6, .inl (cI, 32, .inl g6)), (qa 7, .inl (cI, 32, .inl g7)), (qa 31, .inl (cI, 4, .inl g31)), (qa 32, .inl (cI, 4, .inl g32)), (qa 34, .inl (cI, 4, .inl g34)), (qa 35, .inl (cI, 4, .inl g35)), (qa 36, .inl (cI, 4, .inl (upd g36 cv r_87))), (qa 39, .inl (cI, 4, .inl g39)), (qa 42, .inl (cI, 4, .inl g42)), (qa 47, .inl (cI, 4, .inl g47)), (qa 50, .inl (cJ, 4, .inr (.inl g50))), (qa 51, .inl (cZ, 4, .inl g51)), (h, .inr (10, mdF qa x0 x2 x3 x4 x13 x14 x15 x16 x17 x18 x19 x20 x21 x22 x23 x24 x26 x27 x28)), (qa 33, .inl (cI, 4, .inl g33))] H := hP
        have hD : va_D A [(qa 5, .inl (cI, 32, .inl g5)), (qa 6, .inl (cI, 32, .inl g6)), (qa 7, .inl (cI, 32, .inl g7)), (qa 31, .inl (cI, 4, .inl g31)), (qa 32, .inl (cI, 4, .inl g32)), (qa 34, .inl (cI, 4, .inl g34)), (qa 35, .inl (cI, 4, .inl g35)), (qa 36, .inl (cI, 4, .inl (upd g36 cv r_87))), (qa 39, .inl (cI, 4, .inl g39)), (qa 42, .inl (cI, 4, .inl g42)), (qa 47, .inl (cI, 4, .inl g47)), (qa 50, .inl (cJ, 4, .inr (.inl g50))), (qa 51, .inl (cZ, 4, .inl g51)), (h, .inr (10, mdF qa x0 x2 x3 x4 x13 x14 x15 x16 x17 x18 x19 x20 x21 x22 x23 x24 x26 x27 x28)), (qa 33, .inl (cI, 4, .inl g33))] := hD
        obtain ⟨u36_90, r_u36_90, eu36_90⟩ : ∃ ff : Nat → Int32, rg 4 0 856 ff ∧ ff = upd g36 cv r_87 := ⟨upd g36 cv r_87, rg_upd2 r_g36 (⟨by omega, hw_87.2⟩), rfl⟩
        rw [← eu36_90] at hP hD
        have hP9 := hP.sub (ws' := [(h, .inr (10, mdF qa x0 x2 x3 x4 x13 x14 x15 x16 x17 x18 x19 x20 x21 x22 x23 x24 x26 x27 x28)), (qa 5, .inl (cI, 32, .inl g5)), (qa 6, .inl (cI, 32, .inl g6)), (qa 7, .inl (cI, 32, .inl g7)), (qa 31, .inl (cI, 4, .inl g31)), (qa 32, .inl (cI, 4, .inl g32)), (qa 33, .inl (cI, 4, .inl g33)), (qa 34, .inl (cI, 4, .inl g34)), (qa 35, .inl (cI, 4, .inl g35)), (qa 36, .inl (cI, 4, .inl u36_90)), (qa 39, .inl (cI, 4, .inl g39)), (qa 42, .inl (cI, 4, .inl g42)), (qa 47, .inl (cI, 4, .inl g47)), (qa 50, .inl (cJ, 4, .inr (.inl g50))), (qa 51, .inl (cZ, 4, .inl g51))]) [13, 0, 1, 2, 3, 4, 14, 5, 6, 7, 8, 9, 10, 11, 12] rfl
        have hD9 := hD.sub (ws' := [(h, .inr (10, mdF qa x0 x2 x3 x4 x13 x14 x15 x16 x17 x18 x19 x20 x21 x22 x23 x24 x26 x27 x28)), (qa 5, .inl (cI, 32, .inl g5)), (qa 6, .inl (cI, 32, .inl g6)), (qa 7, .inl (cI, 32, .inl g7)), (qa 31, .inl (cI, 4, .inl g31)), (qa 32, .inl (cI, 4, .inl g32)), (qa 33, .inl (cI, 4, .inl g33)), (qa 34, .inl (cI, 4, .inl g34)), (qa 35, .inl (cI, 4, .inl g35)), (qa 36, .inl (cI, 4, .inl u36_90)), (qa 39, .inl (cI, 4, .inl g39)), (qa 42, .inl (cI, 4, .inl g42)), (qa 47, .inl (cI, 4, .inl g47)), (qa 50, .inl (cJ, 4, .inr (.inl g50))), (qa 51, .inl (cZ, 4, .inl g51))]) [13, 0, 1, 2, 3, 4, 14, 5, 6, 7, 8, 9, 10, 11, 12] (by decide +kernel) rfl
        have hK9 := hK.sub (tys' := []) [] rfl
        exact W.vret hx hb hr (fun t ht hW => ⟨⟨_, rfl, ⟨g31, g32, g33, g34, g35, u36_90, g39, g42, g51, g50, rfl, r_g31, r_g34, r_u36_90, r_g50⟩, by rw [ht]; exact hP9, va_K.moved hW.alike hK9, hD9⟩, hS.F ht⟩) hS.2.2 dX11_comes_91
      refine lv_iload_n hx hb dX11_comes_70 rfl (lv_at hl 2 rfl) ?_
      refine g_calli (wr := [(h, .inr (10, mdF qa x0 x2 x3 x4 x13 x14 x15 x16 x17 x18 x19 x20 x21 x22 x23 x24 x26 x27 x28)), (qa 5, .inl (cI, 32, .inl g5)), (qa 6, .inl (cI, 32, .inl g6)), (qa 7, .inl (cI, 32, .inl g7)), (qa 31, .inl (cI, 4, .inl g31)), (qa 32, .inl (cI, 4, .inl g32)), (qa 33, .inl (cI, 4, .inl g33)), (qa 34, .inl (cI, 4, .inl g34)), (qa 35, .inl (cI, 4, .inl g35)), (qa 36, .inl (cI, 4, .inl g36)), (qa 39, .inl (cI, 4, .inl g39)), (qa 42, .inl (cI, 4, .inl g42)), (qa 47, .inl (cI, 4, .inl g47)), (qa 50, .inl (cJ, 4, .inr (.inl g50))), (qa 51, .inl (cZ, 4, .inl g51))]) (va_runS (As := [.int tv_5]) (rest := []) ⟨hx, hb, hml, hown, hts⟩ (m_effect l dC dI H.size tv_5 ) (va_cwS 1 hts (gG_S kw_859 kw_860 kw_5 kw_861) rfl rfl rfl (by decide +kernel) ⟨Nat.le_of_ble_eq_true rfl, Nat.le_of_ble_eq_true rfl⟩) (g_preS hP hD hK hS hA hN hZ [] (by decide) rfl [] rfl) rfl rfl hl.1 rfl (lv_room (Nat.le_of_ble_eq_true rfl)) dX11_comes_71 ⟨Nat.le_of_ble_eq_true rfl, Nat.le_of_ble_eq_true rfl⟩) hP hD hK hS hA [] [0, 1, 2, 3, 4, 5, 6, 7, 8, 9, 10, 11, 12, 13, 14] rfl rfl (by decide +kernel) (by decide +kernel) (fun r_71 w ty1 H locs hw_71 hP hD _ hS => ?_)
      rcases hw_71 with ⟨hu, hr_71⟩
      cases hu
      have hP : va_P (dC, dI) vwCl [(h, .inr (10, mdF qa x0 x2 x3 x4 x13 x14 x15 x16 x17 x18 x19 x20 x21 x22 x23 x24 x26 x27 x28)), (qa 5, .inl (cI, 32, .inl g5)), (qa 6, .inl (cI, 32, .inl g6)), (qa 7, .inl (cI, 32, .inl g7)), (qa 31, .inl (cI, 4, .inl g31)), (qa 32, .inl (cI, 4, .inl g32)), (qa 33, .inl (cI, 4, .inl g33)), (qa 34, .inl (cI, 4, .inl g34)), (qa 35, .inl (cI, 4, .inl g35)), (qa 36, .inl (cI, 4, .inl g36)), (qa 39, .inl (cI, 4, .inl g39)), (qa 42, .inl (cI, 4, .inl g42)), (qa 47, .inl (cI, 4, .inl g47)), (qa 50, .inl (cJ, 4, .inr (.inl g50))), (qa 51, .inl (cZ, 4, .inl g51))] H := hP
      have hD : va_D A [(h, .inr (10, mdF qa x0 x2 x3 x4 x13 x14 x15 x16 x17 x18 x19 x20 x21 x22 x23 x24 x26 x27 x28)), (qa 5, .inl (cI, 32, .inl g5)), (qa 6, .inl (cI, 32, .inl g6)), (qa 7, .inl (cI, 32, .inl g7)), (qa 31, .inl (cI, 4, .inl g31)), (qa 32, .inl (cI, 4, .inl g32)), (qa 33, .inl (cI, 4, .inl g33)), (qa 34, .inl (cI, 4, .inl g34)), (qa 35, .inl (cI, 4, .inl g35)), (qa 36, .inl (cI, 4, .inl g36)), (qa 39, .inl (cI, 4, .inl g39)), (qa 42, .inl (cI, 4, .inl g42)), (qa 47, .inl (cI, 4, .inl g47)), (qa 50, .inl (cJ, 4, .inr (.inl g50))), (qa 51, .inl (cZ, 4, .inl g51))] := hD
      refine g_topi (y := (tv_5 >>> (8 &&& 31)) &&& 15) hr_71 ?_
      refine lv_iconst (v := 5) hx hb dX11_comes_74 (by decide) ?_
      refine lv_icmp_ne (tgt := 92) hx hb dX11_comes_75 (by decide) (fun c_75 => ?_) (fun c_75 => ?_)
      · refine lv_aload_n hx hb dX11_comes_92 rfl (lv_at hl 3 rfl) ?_
        refine va_get (D := (dC, dI)) (ci := 10) (v := .ref (qa 34)) (C := RX11) (T := TX11) (N := 53) hx hb hts iwX11 hown hK hP 0 rfl rfl 34 (by decide) (hts (.fieldLink RX11 65 "ModulePlayerModel" "period" "[I") (List.mem_cons_of_mem _ kw_190)) (fun _ h9 => h9) rfl dX11_comes_93 ?_
        refine lv_iload_n hx hb dX11_comes_96 rfl (lv_at hl 4 rfl) ?_
        refine lv_aload_n hx hb dX11_comes_97 rfl (lv_at hl 3 rfl) ?_
        refine lv_iload_n hx hb dX11_comes_98 rfl (lv_at hl 4 rfl) ?_
        refine lv_iload hx hb dX11_comes_99 (lv_at hl 0 rfl) ?_
        refine g_calli (wr := [(qa 5, .inl (cI, 32, .inl g5)), (qa 6, .inl (cI, 32, .inl g6)), (qa 7, .inl (cI, 32, .inl g7)), (qa 31, .inl (cI, 4, .inl g31)), (qa 32, .inl (cI, 4, .inl g32)), (qa 34, .inl (cI, 4, .inl g34)), (qa 35, .inl (cI, 4, .inl g35)), (qa 36, .inl (cI, 4, .inl g36)), (qa 39, .inl (cI, 4, .inl g39)), (qa 42, .inl (cI, 4, .inl g42)), (qa 47, .inl (cI, 4, .inl g47)), (qa 50, .inl (cJ, 4, .inr (.inl g50))), (qa 51, .inl (cZ, 4, .inl g51))]) (va_runV (As := [.int (nI cv), .int tv_18]) (rest := [.int (nI cv), .ref (qa 34)]) ⟨hx, hb, hml, hown, hts⟩ (m_tunedP l dC dI H.size h qa x0 x2 x3 x4 x13 x14 x15 x16 x17 x18 x19 x20 x21 x22 x23 x24 x26 x27 x28 cI g33 cv tv_18 (hcv)) (cwV 2 hts (gG_V kw_872 kw_873 kw_874 kw_5 kw_875) rfl rfl rfl (by decide +kernel) ⟨Nat.le_of_ble_eq_true rfl, Nat.le_of_ble_eq_true rfl⟩) (g_preV (C := RX11) (T := TX11) (N := 53) hP hD hK hS hA hN hZ (q0 := 0) rfl rfl [0, 6] (by decide +kernel) rfl [0] rfl) rfl rfl hl.1 rfl (lv_room (Nat.le_of_ble_eq_true rfl)) dX11_comes_101 ⟨Nat.le_of_ble_eq_true rfl, Nat.le_of_ble_eq_true rfl⟩) hP hD hK hS hA [0, 6] [1, 2, 3, 4, 5, 7, 8, 9, 10, 11, 12, 13, 14] rfl rfl (by decide +kernel) (by decide +kernel) (fun r_101 w ty1 H locs hw_101 hP hD _ hS => ?_)
        rcases hw_101 with ⟨hu, hw_101⟩
        cases hu
        have hP : va_P (dC, dI) vwCl [(qa 5, .inl (cI, 32, .inl g5)), (qa 6, .inl (cI, 32, .inl g6)), (qa 7, .inl (cI, 32, .inl g7)), (qa 31, .inl (cI, 4, .inl g31)), (qa 32, .inl (cI, 4, .inl g32)), (qa 34, .inl (cI, 4, .inl g34)), (qa 35, .inl (cI, 4, .inl g35)), (qa 36, .inl (cI, 4, .inl g36)), (qa 39, .inl (cI, 4, .inl g39)), (qa 42, .inl (cI, 4, .inl g42)), (qa 47, .inl (cI, 4, .inl g47)), (qa 50, .inl (cJ, 4, .inr (.inl g50))), (qa 51, .inl (cZ, 4, .inl g51)), (h, .inr (10, mdF qa x0 x2 x3 x4 x13 x14 x15 x16 x17 x18 x19 x20 x21 x22 x23 x24 x26 x27 x28)), (qa 33, .inl (cI, 4, .inl g33))] H := hP
        have hD : va_D A [(qa 5, .inl (cI, 32, .inl g5)), (qa 6, .inl (cI, 32, .inl g6)), (qa 7, .inl (cI, 32, .inl g7)), (qa 31, .inl (cI, 4, .inl g31)), (qa 32, .inl (cI, 4, .inl g32)), (qa 34, .inl (cI, 4, .inl g34)), (qa 35, .inl (cI, 4, .inl g35)), (qa 36, .inl (cI, 4, .inl g36)), (qa 39, .inl (cI, 4, .inl g39)), (qa 42, .inl (cI, 4, .inl g42)), (qa 47, .inl (cI, 4, .inl g47)), (qa 50, .inl (cJ, 4, .inr (.inl g50))), (qa 51, .inl (cZ, 4, .inl g51)), (h, .inr (10, mdF qa x0 x2 x3 x4 x13 x14 x15 x16 x17 x18 x19 x20 x21 x22 x23 x24 x26 x27 x28)), (qa 33, .inl (cI, 4, .inl g33))] := hD
        refine g_iast hx hb hK hP hD hS 5 0 rfl rfl cv (nI_clamp (Nat.lt_trans (show cv < 4 from by omega) (by decide))) (vp_in_nI (by omega) (by decide)) dX11_comes_104 (fun H locs hP hD hS => ?_)
        have hP : va_P (dC, dI) vwCl [(qa 5, .inl (cI, 32, .inl g5)), (qa 6, .inl (cI, 32, .inl g6)), (qa 7, .inl (cI, 32, .inl g7)), (qa 31, .inl (cI, 4, .inl g31)), (qa 32, .inl (cI, 4, .inl g32)), (qa 34, .inl (cI, 4, .inl (upd g34 cv r_101))), (qa 35, .inl (cI, 4, .inl g35)), (qa 36, .inl (cI, 4, .inl g36)), (qa 39, .inl (cI, 4, .inl g39)), (qa 42, .inl (cI, 4, .inl g42)), (qa 47, .inl (cI, 4, .inl g47)), (qa 50, .inl (cJ, 4, .inr (.inl g50))), (qa 51, .inl (cZ, 4, .inl g51)), (h, .inr (10, mdF qa x0 x2 x3 x4 x13 x14 x15 x16 x17 x18 x19 x20 x21 x22 x23 x24 x26 x27 x28)), (qa 33, .inl (cI, 4, .inl g33))] H := hP
        have hD : va_D A [(qa 5, .inl (cI, 32, .inl g5)), (qa 6, .inl (cI, 32, .inl g6)), (qa 7, .inl (cI, 32, .inl g7)), (qa 31, .inl (cI, 4, .inl g31)), (qa 32, .inl (cI, 4, .inl g32)), (qa 34, .inl (cI, 4, .inl (upd g34 cv r_101))), (qa 35, .inl (cI, 4, .inl g35)), (qa 36, .inl (cI, 4, .inl g36)), (qa 39, .inl (cI, 4, .inl g39)), (qa 42, .inl (cI, 4, .inl g42)), (qa 47, .inl (cI, 4, .inl g47)), (qa 50, .inl (cJ, 4, .inr (.inl g50))), (qa 51, .inl (cZ, 4, .inl g51)), (h, .inr (10, mdF qa x0 x2 x3 x4 x13 x14 x15 x16 x17 x18 x19 x20 x21 x22 x23 x24 x26 x27 x28)), (qa 33, .inl (cI, 4, .inl g33))] := hD
        obtain ⟨u34_104, r_u34_104, eu34_104⟩ : ∃ ff : Nat → Int32, rg 4 0 856 ff ∧ ff = upd g34 cv r_101 := ⟨upd g34 cv r_101, rg_upd2 r_g34 (⟨by omega, hw_101.2⟩), rfl⟩
        rw [← eu34_104] at hP hD
        refine lv_aload_n hx hb dX11_comes_105 rfl (lv_at hl 3 rfl) ?_
        refine va_get (D := (dC, dI)) (ci := 10) (v := .ref (qa 35)) (C := RX11) (T := TX11) (N := 53) hx hb hts iwX11 hown hK hP 13 rfl rfl 35 (by decide) (hts (.fieldLink RX11 68 "ModulePlayerModel" "note" "[I") (List.mem_cons_of_mem _ kw_191)) (fun _ h9 => h9) rfl dX11_comes_106 ?_
        refine lv_iload_n hx hb dX11_comes_109 rfl (lv_at hl 4 rfl) ?_
        refine lv_aload_n hx hb dX11_comes_110 rfl (lv_at hl 3 rfl) ?_
        refine va_get (D := (dC, dI)) (ci := 10) (v := .ref (qa 34)) (C := RX11) (T := TX11) (N := 53) hx hb hts iwX11 hown hK hP 13 rfl rfl 34 (by decide) (hts (.fieldLink RX11 65 "ModulePlayerModel" "period" "[I") (List.mem_cons_of_mem _ kw_190)) (fun _ h9 => h9) rfl dX11_comes_111 ?_
        refine lv_iload_n hx hb dX11_comes_114 rfl (lv_at hl 4 rfl) ?_
        refine g_iald hx hb hK hP 5 0 rfl rfl cv (nI_clamp (Nat.lt_trans (show cv < 4 from by omega) (by decide))) (vp_in_nI (by omega) (by decide)) dX11_comes_115 ?_
        obtain ⟨jn_115, hjn_115, ejn_115⟩ := rg_nat (kx := cv) (mx := 856) r_u34_104 (by omega) rfl
        refine g_topi (y := nI jn_115) ejn_115 ?_
        refine g_iast hx hb hK hP hD hS 6 0 rfl rfl cv (nI_clamp (Nat.lt_trans (show cv < 4 from by omega) (by decide))) (vp_in_nI (by omega) (by decide)) dX11_comes_116 (fun H locs hP hD hS => ?_)
        have hP : va_P (dC, dI) vwCl [(qa 5, .inl (cI, 32, .inl g5)), (qa 6, .inl (cI, 32, .inl g6)), (qa 7, .inl (cI, 32, .inl g7)), (qa 31, .inl (cI, 4, .inl g31)), (qa 32, .inl (cI, 4, .inl g32)), (qa 34, .inl (cI, 4, .inl u34_104)), (qa 35, .inl (cI, 4, .inl (upd g35 cv (nI jn_115)))), (qa 36, .inl (cI, 4, .inl g36)), (qa 39, .inl (cI, 4, .inl g39)), (qa 42, .inl (cI, 4, .inl g42)), (qa 47, .inl (cI, 4, .inl g47)), (qa 50, .inl (cJ, 4, .inr (.inl g50))), (qa 51, .inl (cZ, 4, .inl g51)), (h, .inr (10, mdF qa x0 x2 x3 x4 x13 x14 x15 x16 x17 x18 x19 x20 x21 x22 x23 x24 x26 x27 x28)), (qa 33, .inl (cI, 4, .inl g33))] H := hP
        have hD : va_D A [(qa 5, .inl (cI, 32, .inl g5)), (qa 6, .inl (cI, 32, .inl g6)), (qa 7, .inl (cI, 32, .inl g7)), (qa 31, .inl (cI, 4, .inl g31)), (qa 32, .inl (cI, 4, .inl g32)), (qa 34, .inl (cI, 4, .inl u34_104)), (qa 35, .inl (cI, 4, .inl (upd g35 cv (nI jn_115)))), (qa 36, .inl (cI, 4, .inl g36)), (qa 39, .inl (cI, 4, .inl g39)), (qa 42, .inl (cI, 4, .inl g42)), (qa 47, .inl (cI, 4, .inl g47)), (qa 50, .inl (cJ, 4, .inr (.inl g50))), (qa 51, .inl (cZ, 4, .inl g51)), (h, .inr (10, mdF qa x0 x2 x3 x4 x13 x14 x15 x16 x17 x18 x19 x20 x21 x22 x23 x24 x26 x27 x28)), (qa 33, .inl (cI, 4, .inl g33))] := hD
        generalize upd g35 cv (nI jn_115) = u35_116 at hP hD
        refine lv_aload_n hx hb dX11_comes_117 rfl (lv_at hl 3 rfl) ?_
        refine lv_iload_n hx hb dX11_comes_118 rfl (lv_at hl 4 rfl) ?_
        refine g_callv (wr := [(qa 6, .inl (cI, 32, .inl g6)), (qa 7, .inl (cI, 32, .inl g7)), (qa 32, .inl (cI, 4, .inl g32)), (qa 34, .inl (cI, 4, .inl u34_104)), (qa 35, .inl (cI, 4, .inl u35_116)), (qa 36, .inl (cI, 4, .inl g36)), (qa 39, .inl (cI, 4, .inl g39)), (qa 42, .inl (cI, 4, .inl g42)), (qa 47, .inl (cI, 4, .inl g47)), (qa 33, .inl (cI, 4, .inl g33))]) (va_runV (As := [.int (nI cv)]) (rest := []) ⟨hx, hb, hml, hown, hts⟩ (m_begins l dC dI H.size h qa x0 x2 x3 x4 x13 x14 x15 x16 x17 x18 x19 x20 x21 x22 x23 x24 x26 x27 x28 cI cJ cZ g5 g31 g51 g50 cv (hcv) (r_g5) (r_g31) (r_g50)) (cwV 1 hts (gG_V kw_879 kw_880 kw_881 kw_5 kw_882) rfl rfl rfl (by decide +kernel) ⟨Nat.le_of_ble_eq_true rfl, Nat.le_of_ble_eq_true rfl⟩) (g_preV (C := RX11) (T := TX11) (N := 53) hP hD hK hS hA hN hZ (q0 := 13) rfl rfl [13, 0, 3, 11, 12] (by decide +kernel) rfl [0, 1, 2] rfl) rfl rfl hl.1 rfl (lv_room (Nat.le_of_ble_eq_true rfl)) dX11_comes_119 ⟨Nat.le_of_ble_eq_true rfl, Nat.le_of_ble_eq_true rfl⟩) hP hD hK hS hA [13, 0, 3, 11, 12] [1, 2, 4, 5, 6, 7, 8, 9, 10, 14] rfl rfl (by decide +kernel) (by decide +kernel) (fun w ty1 H locs hw_119 hP hD _ hS => ?_)
        rcases hw_119 with ⟨k51_119, k50_119, hu, r_k50_119⟩
        cases hu
        have hP : va_P (dC, dI) vwCl [(qa 6, .inl (cI, 32, .inl g6)), (qa 7, .inl (cI, 32, .inl g7)), (qa 32, .inl (cI, 4, .inl g32)), (qa 34, .inl (cI, 4, .inl u34_104)), (qa 35, .inl (cI, 4, .inl u35_116)), (qa 36, .inl (cI, 4, .inl g36)), (qa 39, .inl (cI, 4, .inl g39)), (qa 42, .inl (cI, 4, .inl g42)), (qa 47, .inl (cI, 4, .inl g47)), (qa 33, .inl (cI, 4, .inl g33)), (h, .inr (10, mdF qa x0 x2 x3 x4 x13 x14 x15 x16 x17 x18 x19 x20 x21 x22 x23 x24 x26 x27 x28)), (qa 5, .inl (cI, 32, .inl g5)), (qa 31, .inl (cI, 4, .inl g31)), (qa 50, .inl (cJ, 4, .inr (.inl k50_119))), (qa 51, .inl (cZ, 4, .inl k51_119))] H := hP
        have hD : va_D A [(qa 6, .inl (cI, 32, .inl g6)), (qa 7, .inl (cI, 32, .inl g7)), (qa 32, .inl (cI, 4, .inl g32)), (qa 34, .inl (cI, 4, .inl u34_104)), (qa 35, .inl (cI, 4, .inl u35_116)), (qa 36, .inl (cI, 4, .inl g36)), (qa 39, .inl (cI, 4, .inl g39)), (qa 42, .inl (cI, 4, .inl g42)), (qa 47, .inl (cI, 4, .inl g47)), (qa 33, .inl (cI, 4, .inl g33)), (h, .inr (10, mdF qa x0 x2 x3 x4 x13 x14 x15 x16 x17 x18 x19 x20 x21 x22 x23 x24 x26 x27 x28)), (qa 5, .inl (cI, 32, .inl g5)), (qa 31, .inl (cI, 4, .inl g31)), (qa 50, .inl (cJ, 4, .inr (.inl k50_119))), (qa 51, .inl (cZ, 4, .inl k51_119))] := hD
        refine lv_aload_n hx hb dX11_comes_122 rfl (lv_at hl 3 rfl) ?_
        refine va_get (D := (dC, dI)) (ci := 10) (v := .ref (qa 39)) (C := RX11) (T := TX11) (N := 53) hx hb hts iwX11 hown hK hP 10 rfl rfl 39 (by decide) (hts (.fieldLink RX11 80 "ModulePlayerModel" "vibPlace" "[I") (List.mem_cons_of_mem _ kw_195)) (fun _ h9 => h9) rfl dX11_comes_123 ?_
        refine lv_iload_n hx hb dX11_comes_126 rfl (lv_at hl 4 rfl) ?_
        refine lv_iconst (v := 0) hx hb dX11_comes_127 (by decide) ?_
        refine g_iast hx hb hK hP hD hS 6 0 rfl rfl cv (nI_clamp (Nat.lt_trans (show cv < 4 from by omega) (by decide))) (vp_in_nI (by omega) (by decide)) dX11_comes_128 (fun H locs hP hD hS => ?_)
        have hP : va_P (dC, dI) vwCl [(qa 6, .inl (cI, 32, .inl g6)), (qa 7, .inl (cI, 32, .inl g7)), (qa 32, .inl (cI, 4, .inl g32)), (qa 34, .inl (cI, 4, .inl u34_104)), (qa 35, .inl (cI, 4, .inl u35_116)), (qa 36, .inl (cI, 4, .inl g36)), (qa 39, .inl (cI, 4, .inl (upd g39 cv 0))), (qa 42, .inl (cI, 4, .inl g42)), (qa 47, .inl (cI, 4, .inl g47)), (qa 33, .inl (cI, 4, .inl g33)), (h, .inr (10, mdF qa x0 x2 x3 x4 x13 x14 x15 x16 x17 x18 x19 x20 x21 x22 x23 x24 x26 x27 x28)), (qa 5, .inl (cI, 32, .inl g5)), (qa 31, .inl (cI, 4, .inl g31)), (qa 50, .inl (cJ, 4, .inr (.inl k50_119))), (qa 51, .inl (cZ, 4, .inl k51_119))] H := hP
        have hD : va_D A [(qa 6, .inl (cI, 32, .inl g6)), (qa 7, .inl (cI, 32, .inl g7)), (qa 32, .inl (cI, 4, .inl g32)), (qa 34, .inl (cI, 4, .inl u34_104)), (qa 35, .inl (cI, 4, .inl u35_116)), (qa 36, .inl (cI, 4, .inl g36)), (qa 39, .inl (cI, 4, .inl (upd g39 cv 0))), (qa 42, .inl (cI, 4, .inl g42)), (qa 47, .inl (cI, 4, .inl g47)), (qa 33, .inl (cI, 4, .inl g33)), (h, .inr (10, mdF qa x0 x2 x3 x4 x13 x14 x15 x16 x17 x18 x19 x20 x21 x22 x23 x24 x26 x27 x28)), (qa 5, .inl (cI, 32, .inl g5)), (qa 31, .inl (cI, 4, .inl g31)), (qa 50, .inl (cJ, 4, .inr (.inl k50_119))), (qa 51, .inl (cZ, 4, .inl k51_119))] := hD
        generalize upd g39 cv 0 = u39_128 at hP hD
        refine lv_aload_n hx hb dX11_comes_129 rfl (lv_at hl 3 rfl) ?_
        refine va_get (D := (dC, dI)) (ci := 10) (v := .ref (qa 42)) (C := RX11) (T := TX11) (N := 53) hx hb hts iwX11 hown hK hP 10 rfl rfl 42 (by decide) (hts (.fieldLink RX11 89 "ModulePlayerModel" "tremPlace" "[I") (List.mem_cons_of_mem _ kw_198)) (fun _ h9 => h9) rfl dX11_comes_130 ?_
        refine lv_iload_n hx hb dX11_comes_133 rfl (lv_at hl 4 rfl) ?_
        refine lv_iconst (v := 0) hx hb dX11_comes_134 (by decide) ?_
        refine g_iast hx hb hK hP hD hS 7 0 rfl rfl cv (nI_clamp (Nat.lt_trans (show cv < 4 from by omega) (by decide))) (vp_in_nI (by omega) (by decide)) dX11_comes_135 (fun H locs hP hD hS => ?_)
        have hP : va_P (dC, dI) vwCl [(qa 6, .inl (cI, 32, .inl g6)), (qa 7, .inl (cI, 32, .inl g7)), (qa 32, .inl (cI, 4, .inl g32)), (qa 34, .inl (cI, 4, .inl u34_104)), (qa 35, .inl (cI, 4, .inl u35_116)), (qa 36, .inl (cI, 4, .inl g36)), (qa 39, .inl (cI, 4, .inl u39_128)), (qa 42, .inl (cI, 4, .inl (upd g42 cv 0))), (qa 47, .inl (cI, 4, .inl g47)), (qa 33, .inl (cI, 4, .inl g33)), (h, .inr (10, mdF qa x0 x2 x3 x4 x13 x14 x15 x16 x17 x18 x19 x20 x21 x22 x23 x24 x26 x27 x28)), (qa 5, .inl (cI, 32, .inl g5)), (qa 31, .inl (cI, 4, .inl g31)), (qa 50, .inl (cJ, 4, .inr (.inl k50_119))), (qa 51, .inl (cZ, 4, .inl k51_119))] H := hP
        have hD : va_D A [(qa 6, .inl (cI, 32, .inl g6)), (qa 7, .inl (cI, 32, .inl g7)), (qa 32, .inl (cI, 4, .inl g32)), (qa 34, .inl (cI, 4, .inl u34_104)), (qa 35, .inl (cI, 4, .inl u35_116)), (qa 36, .inl (cI, 4, .inl g36)), (qa 39, .inl (cI, 4, .inl u39_128)), (qa 42, .inl (cI, 4, .inl (upd g42 cv 0))), (qa 47, .inl (cI, 4, .inl g47)), (qa 33, .inl (cI, 4, .inl g33)), (h, .inr (10, mdF qa x0 x2 x3 x4 x13 x14 x15 x16 x17 x18 x19 x20 x21 x22 x23 x24 x26 x27 x28)), (qa 5, .inl (cI, 32, .inl g5)), (qa 31, .inl (cI, 4, .inl g31)), (qa 50, .inl (cJ, 4, .inr (.inl k50_119))), (qa 51, .inl (cZ, 4, .inl k51_119))] := hD
        generalize upd g42 cv 0 = u42_135 at hP hD
        have hP9 := hP.sub (ws' := [(h, .inr (10, mdF qa x0 x2 x3 x4 x13 x14 x15 x16 x17 x18 x19 x20 x21 x22 x23 x24 x26 x27 x28)), (qa 5, .inl (cI, 32, .inl g5)), (qa 6, .inl (cI, 32, .inl g6)), (qa 7, .inl (cI, 32, .inl g7)), (qa 31, .inl (cI, 4, .inl g31)), (qa 32, .inl (cI, 4, .inl g32)), (qa 33, .inl (cI, 4, .inl g33)), (qa 34, .inl (cI, 4, .inl u34_104)), (qa 35, .inl (cI, 4, .inl u35_116)), (qa 36, .inl (cI, 4, .inl g36)), (qa 39, .inl (cI, 4, .inl u39_128)), (qa 42, .inl (cI, 4, .inl u42_135)), (qa 47, .inl (cI, 4, .inl g47)), (qa 50, .inl (cJ, 4, .inr (.inl k50_119))), (qa 51, .inl (cZ, 4, .inl k51_119))]) [10, 11, 0, 1, 12, 2, 9, 3, 4, 5, 6, 7, 8, 13, 14] rfl
        have hD9 := hD.sub (ws' := [(h, .inr (10, mdF qa x0 x2 x3 x4 x13 x14 x15 x16 x17 x18 x19 x20 x21 x22 x23 x24 x26 x27 x28)), (qa 5, .inl (cI, 32, .inl g5)), (qa 6, .inl (cI, 32, .inl g6)), (qa 7, .inl (cI, 32, .inl g7)), (qa 31, .inl (cI, 4, .inl g31)), (qa 32, .inl (cI, 4, .inl g32)), (qa 33, .inl (cI, 4, .inl g33)), (qa 34, .inl (cI, 4, .inl u34_104)), (qa 35, .inl (cI, 4, .inl u35_116)), (qa 36, .inl (cI, 4, .inl g36)), (qa 39, .inl (cI, 4, .inl u39_128)), (qa 42, .inl (cI, 4, .inl u42_135)), (qa 47, .inl (cI, 4, .inl g47)), (qa 50, .inl (cJ, 4, .inr (.inl k50_119))), (qa 51, .inl (cZ, 4, .inl k51_119))]) [10, 11, 0, 1, 12, 2, 9, 3, 4, 5, 6, 7, 8, 13, 14] (by decide +kernel) rfl
        have hK9 := hK.sub (tys' := []) [] rfl
        exact W.vret hx hb hr (fun t ht hW => ⟨⟨_, rfl, ⟨g31, g32, g33, u34_104, u35_116, g36, u39_128, u42_135, k51_119, k50_119, rfl, r_g31, r_u34_104, r_g36, r_k50_119⟩, by rw [ht]; exact hP9, va_K.moved hW.alike hK9, hD9⟩, hS.F ht⟩) hS.2.2 dX11_comes_136
      refine lv_aload_n hx hb dX11_comes_78 rfl (lv_at hl 3 rfl) ?_
      refine va_get (D := (dC, dI)) (ci := 10) (v := .ref (qa 36)) (C := RX11) (T := TX11) (N := 53) hx hb hts iwX11 hown hK hP 0 rfl rfl 36 (by decide) (hts (.fieldLink RX11 71 "ModulePlayerModel" "target" "[I") (List.mem_cons_of_mem _ kw_192)) (fun _ h9 => h9) rfl dX11_comes_79 ?_
      refine lv_iload_n hx hb dX11_comes_82 rfl (lv_at hl 4 rfl) ?_
      refine lv_aload_n hx hb dX11_comes_83 rfl (lv_at hl 3 rfl) ?_
      refine lv_iload_n hx hb dX11_comes_84 rfl (lv_at hl 4 rfl) ?_
      refine lv_iload hx hb dX11_comes_85 (lv_at hl 0 rfl) ?_
      refine g_calli (wr := [(qa 5, .inl (cI, 32, .inl g5)), (qa 6, .inl (cI, 32, .inl g6)), (qa 7, .inl (cI, 32, .inl g7)), (qa 31, .inl (cI, 4, .inl g31)), (qa 32, .inl (cI, 4, .inl g32)), (qa 34, .inl (cI, 4, .inl g34)), (qa 35, .inl (cI, 4, .inl g35)), (qa 36, .inl (cI, 4, .inl g36)), (qa 39, .inl (cI, 4, .inl g39)), (qa 42, .inl (cI, 4, .inl g42)), (qa 47, .inl (cI, 4, .inl g47)), (qa 50, .inl (cJ, 4, .inr (.inl g50))), (qa 51, .inl (cZ, 4, .inl g51))]) (va_runV (As := [.int (nI cv), .int tv_18]) (rest := [.int (nI cv), .ref (qa 36)]) ⟨hx, hb, hml, hown, hts⟩ (m_tunedP l dC dI H.size h qa x0 x2 x3 x4 x13 x14 x15 x16 x17 x18 x19 x20 x21 x22 x23 x24 x26 x27 x28 cI g33 cv tv_18 (hcv)) (cwV 2 hts (gG_V kw_872 kw_873 kw_874 kw_5 kw_875) rfl rfl rfl (by decide +kernel) ⟨Nat.le_of_ble_eq_true rfl, Nat.le_of_ble_eq_true rfl⟩) (g_preV (C := RX11) (T := TX11) (N := 53) hP hD hK hS hA hN hZ (q0 := 0) rfl rfl [0, 6] (by decide +kernel) rfl [0] rfl) rfl rfl hl.1 rfl (lv_room (Nat.le_of_ble_eq_true rfl)) dX11_comes_87 ⟨Nat.le_of_ble_eq_true rfl, Nat.le_of_ble_eq_true rfl⟩) hP hD hK hS hA [0, 6] [1, 2, 3, 4, 5, 7, 8, 9, 10, 11, 12, 13, 14] rfl rfl (by decide +kernel) (by decide +kernel) (fun r_87 w ty1 H locs hw_87 hP hD _ hS => ?_)
      rcases hw_87 with ⟨hu, hw_87⟩
      cases hu
      have hP : va_P (dC, dI) vwCl [(qa 5, .inl (cI, 32, .inl g5)), (qa 6, .inl (cI, 32, .inl g6)), (qa 7, .inl (cI, 32, .inl g7)), (qa 31, .inl (cI, 4, .inl g31)), (qa 32, .inl (cI, 4, .inl g32)), (qa 34, .inl (cI, 4, .inl g34)), (qa 35, .inl (cI, 4, .inl g35)), (qa 36, .inl (cI, 4, .inl g36)), (qa 39, .inl (cI, 4, .inl g39)), (qa 42, .inl (cI, 4, .inl g42)), (qa 47, .inl (cI, 4, .inl g47)), (qa 50, .inl (cJ, 4, .inr (.inl g50))), (qa 51, .inl (cZ, 4, .inl g51)), (h, .inr (10, mdF qa x0 x2 x3 x4 x13 x14 x15 x16 x17 x18 x19 x20 x21 x22 x23 x24 x26 x27 x28)), (qa 33, .inl (cI, 4, .inl g33))] H := hP
      have hD : va_D A [(qa 5, .inl (cI, 32, .inl g5)), (qa 6, .inl (cI, 32, .inl g6)), (qa 7, .inl (cI, 32, .inl g7)), (qa 31, .inl (cI, 4, .inl g31)), (qa 32, .inl (cI, 4, .inl g32)), (qa 34, .inl (cI, 4, .inl g34)), (qa 35, .inl (cI, 4, .inl g35)), (qa 36, .inl (cI, 4, .inl g36)), (qa 39, .inl (cI, 4, .inl g39)), (qa 42, .inl (cI, 4, .inl g42)), (qa 47, .inl (cI, 4, .inl g47)), (qa 50, .inl (cJ, 4, .inr (.inl g50))), (qa 51, .inl (cZ, 4, .inl g51)), (h, .inr (10, mdF qa x0 x2 x3 x4 x13 x14 x15 x16 x17 x18 x19 x20 x21 x22 x23 x24 x26 x27 x28)), (qa 33, .inl (cI, 4, .inl g33))] := hD
      refine g_iast hx hb hK hP hD hS 7 0 rfl rfl cv (nI_clamp (Nat.lt_trans (show cv < 4 from by omega) (by decide))) (vp_in_nI (by omega) (by decide)) dX11_comes_90 (fun H locs hP hD hS => ?_)
      have hP : va_P (dC, dI) vwCl [(qa 5, .inl (cI, 32, .inl g5)), (qa 6, .inl (cI, 32, .inl g6)), (qa 7, .inl (cI, 32, .inl g7)), (qa 31, .inl (cI, 4, .inl g31)), (qa 32, .inl (cI, 4, .inl g32)), (qa 34, .inl (cI, 4, .inl g34)), (qa 35, .inl (cI, 4, .inl g35)), (qa 36, .inl (cI, 4, .inl (upd g36 cv r_87))), (qa 39, .inl (cI, 4, .inl g39)), (qa 42, .inl (cI, 4, .inl g42)), (qa 47, .inl (cI, 4, .inl g47)), (qa 50, .inl (cJ, 4, .inr (.inl g50))), (qa 51, .inl (cZ, 4, .inl g51)), (h, .inr (10, mdF qa x0 x2 x3 x4 x13 x14 x15 x16 x17 x18 x19 x20 x21 x22 x23 x24 x26 x27 x28)), (qa 33, .inl (cI, 4, .inl g33))] H := hP
      have hD : va_D A [(qa 5, .inl (cI, 32, .inl g5)), (qa 6, .inl (cI, 32, .inl g6)), (qa 7, .inl (cI, 32, .inl g7)), (qa 31, .inl (cI, 4, .inl g31)), (qa 32, .inl (cI, 4, .inl g32)), (qa 34, .inl (cI, 4, .inl g34)), (qa 35, .inl (cI, 4, .inl g35)), (qa 36, .inl (cI, 4, .inl (upd g36 cv r_87))), (qa 39, .inl (cI, 4, .inl g39)), (qa 42, .inl (cI, 4, .inl g42)), (qa 47, .inl (cI, 4, .inl g47)), (qa 50, .inl (cJ, 4, .inr (.inl g50))), (qa 51, .inl (cZ, 4, .inl g51)), (h, .inr (10, mdF qa x0 x2 x3 x4 x13 x14 x15 x16 x17 x18 x19 x20 x21 x22 x23 x24 x26 x27 x28)), (qa 33, .inl (cI, 4, .inl g33))] := hD
      obtain ⟨u36_90, r_u36_90, eu36_90⟩ : ∃ ff : Nat → Int32, rg 4 0 856 ff ∧ ff = upd g36 cv r_87 := ⟨upd g36 cv r_87, rg_upd2 r_g36 (⟨by omega, hw_87.2⟩), rfl⟩
      rw [← eu36_90] at hP hD
      have hP9 := hP.sub (ws' := [(h, .inr (10, mdF qa x0 x2 x3 x4 x13 x14 x15 x16 x17 x18 x19 x20 x21 x22 x23 x24 x26 x27 x28)), (qa 5, .inl (cI, 32, .inl g5)), (qa 6, .inl (cI, 32, .inl g6)), (qa 7, .inl (cI, 32, .inl g7)), (qa 31, .inl (cI, 4, .inl g31)), (qa 32, .inl (cI, 4, .inl g32)), (qa 33, .inl (cI, 4, .inl g33)), (qa 34, .inl (cI, 4, .inl g34)), (qa 35, .inl (cI, 4, .inl g35)), (qa 36, .inl (cI, 4, .inl u36_90)), (qa 39, .inl (cI, 4, .inl g39)), (qa 42, .inl (cI, 4, .inl g42)), (qa 47, .inl (cI, 4, .inl g47)), (qa 50, .inl (cJ, 4, .inr (.inl g50))), (qa 51, .inl (cZ, 4, .inl g51))]) [13, 0, 1, 2, 3, 4, 14, 5, 6, 7, 8, 9, 10, 11, 12] rfl
      have hD9 := hD.sub (ws' := [(h, .inr (10, mdF qa x0 x2 x3 x4 x13 x14 x15 x16 x17 x18 x19 x20 x21 x22 x23 x24 x26 x27 x28)), (qa 5, .inl (cI, 32, .inl g5)), (qa 6, .inl (cI, 32, .inl g6)), (qa 7, .inl (cI, 32, .inl g7)), (qa 31, .inl (cI, 4, .inl g31)), (qa 32, .inl (cI, 4, .inl g32)), (qa 33, .inl (cI, 4, .inl g33)), (qa 34, .inl (cI, 4, .inl g34)), (qa 35, .inl (cI, 4, .inl g35)), (qa 36, .inl (cI, 4, .inl u36_90)), (qa 39, .inl (cI, 4, .inl g39)), (qa 42, .inl (cI, 4, .inl g42)), (qa 47, .inl (cI, 4, .inl g47)), (qa 50, .inl (cJ, 4, .inr (.inl g50))), (qa 51, .inl (cZ, 4, .inl g51))]) [13, 0, 1, 2, 3, 4, 14, 5, 6, 7, 8, 9, 10, 11, 12] (by decide +kernel) rfl
      have hK9 := hK.sub (tys' := []) [] rfl
      exact W.vret hx hb hr (fun t ht hW => ⟨⟨_, rfl, ⟨g31, g32, g33, g34, g35, u36_90, g39, g42, g51, g50, rfl, r_g31, r_g34, r_u36_90, r_g50⟩, by rw [ht]; exact hP9, va_K.moved hW.alike hK9, hD9⟩, hS.F ht⟩) hS.2.2 dX11_comes_91
    have hP9 := hP
    have hD9 := hD
    have hK9 := hK.sub (tys' := []) [] rfl
    exact W.vret hx hb hr (fun t ht hW => ⟨⟨_, rfl, ⟨g31, g32, g33, g34, g35, g36, g39, g42, g51, g50, rfl, r_g31, r_g34, r_g36, r_g50⟩, by rw [ht]; exact hP9, va_K.moved hW.alike hK9, hD9⟩, hS.F ht⟩) hS.2.2 dX11_comes_61
  refine lv_aload_n hx hb dX11_comes_25 rfl (lv_at hl 3 rfl) ?_
  refine va_get (D := (dC, dI)) (ci := 10) (v := .ref (qa 31)) (C := RX11) (T := TX11) (N := 53) hx hb hts iwX11 hown hK hP 0 rfl rfl 31 (by decide) (hts (.fieldLink RX11 56 "ModulePlayerModel" "sample" "[I") (List.mem_cons_of_mem _ kw_187)) (fun _ h9 => h9) rfl dX11_comes_26 ?_
  refine lv_iload_n hx hb dX11_comes_29 rfl (lv_at hl 4 rfl) ?_
  refine lv_iload_n hx hb dX11_comes_30 rfl (lv_at hl 1 rfl) ?_
  refine g_iast hx hb hK hP hD hS 4 0 rfl rfl cv (nI_clamp (Nat.lt_trans (show cv < 4 from by omega) (by decide))) (vp_in_nI (by omega) (by decide)) dX11_comes_31 (fun H locs hP hD hS => ?_)
  have hP : va_P (dC, dI) vwCl [(h, .inr (10, mdF qa x0 x2 x3 x4 x13 x14 x15 x16 x17 x18 x19 x20 x21 x22 x23 x24 x26 x27 x28)), (qa 5, .inl (cI, 32, .inl g5)), (qa 6, .inl (cI, 32, .inl g6)), (qa 7, .inl (cI, 32, .inl g7)), (qa 31, .inl (cI, 4, .inl (upd g31 cv (nI sq)))), (qa 32, .inl (cI, 4, .inl g32)), (qa 33, .inl (cI, 4, .inl g33)), (qa 34, .inl (cI, 4, .inl g34)), (qa 35, .inl (cI, 4, .inl g35)), (qa 36, .inl (cI, 4, .inl g36)), (qa 39, .inl (cI, 4, .inl g39)), (qa 42, .inl (cI, 4, .inl g42)), (qa 47, .inl (cI, 4, .inl g47)), (qa 50, .inl (cJ, 4, .inr (.inl g50))), (qa 51, .inl (cZ, 4, .inl g51))] H := hP
  have hD : va_D A [(h, .inr (10, mdF qa x0 x2 x3 x4 x13 x14 x15 x16 x17 x18 x19 x20 x21 x22 x23 x24 x26 x27 x28)), (qa 5, .inl (cI, 32, .inl g5)), (qa 6, .inl (cI, 32, .inl g6)), (qa 7, .inl (cI, 32, .inl g7)), (qa 31, .inl (cI, 4, .inl (upd g31 cv (nI sq)))), (qa 32, .inl (cI, 4, .inl g32)), (qa 33, .inl (cI, 4, .inl g33)), (qa 34, .inl (cI, 4, .inl g34)), (qa 35, .inl (cI, 4, .inl g35)), (qa 36, .inl (cI, 4, .inl g36)), (qa 39, .inl (cI, 4, .inl g39)), (qa 42, .inl (cI, 4, .inl g42)), (qa 47, .inl (cI, 4, .inl g47)), (qa 50, .inl (cJ, 4, .inr (.inl g50))), (qa 51, .inl (cZ, 4, .inl g51))] := hD
  obtain ⟨u31_31, r_u31_31, eu31_31⟩ : ∃ ff : Nat → Int32, rg 4 0 31 ff ∧ ff = upd g31 cv (nI sq) := ⟨upd g31 cv (nI sq), rg_upd2 r_g31 (nI_rg (by omega) (by omega) (by omega)), rfl⟩
  rw [← eu31_31] at hP hD
  refine lv_aload_n hx hb dX11_comes_32 rfl (lv_at hl 3 rfl) ?_
  refine va_get (D := (dC, dI)) (ci := 10) (v := .ref (qa 32)) (C := RX11) (T := TX11) (N := 53) hx hb hts iwX11 hown hK hP 0 rfl rfl 32 (by decide) (hts (.fieldLink RX11 59 "ModulePlayerModel" "volume" "[I") (List.mem_cons_of_mem _ kw_188)) (fun _ h9 => h9) rfl dX11_comes_33 ?_
  refine lv_iload_n hx hb dX11_comes_36 rfl (lv_at hl 4 rfl) ?_
  refine lv_aload_n hx hb dX11_comes_37 rfl (lv_at hl 3 rfl) ?_
  refine va_get (D := (dC, dI)) (ci := 10) (v := .ref (qa 7)) (C := RX11) (T := TX11) (N := 53) hx hb hts iwX11 hown hK hP 0 rfl rfl 7 (by decide) (hts (.fieldLink RX11 24 "ModulePlayerModel" "loud" "[I") (List.mem_cons_of_mem _ kw_175)) (fun _ h9 => h9) rfl dX11_comes_38 ?_
  refine lv_iload_n hx hb dX11_comes_41 rfl (lv_at hl 1 rfl) ?_
  refine g_iald hx hb hK hP 3 0 rfl rfl sq (nI_clamp (Nat.lt_trans (show sq < 32 from by omega) (by decide))) (vp_in_nI (by omega) (by decide)) dX11_comes_42 ?_
  refine lv_topi (fun tv_42 etv_42 => ?_)
  refine g_iast hx hb hK hP hD hS 5 0 rfl rfl cv (nI_clamp (Nat.lt_trans (show cv < 4 from by omega) (by decide))) (vp_in_nI (by omega) (by decide)) dX11_comes_43 (fun H locs hP hD hS => ?_)
  have hP : va_P (dC, dI) vwCl [(h, .inr (10, mdF qa x0 x2 x3 x4 x13 x14 x15 x16 x17 x18 x19 x20 x21 x22 x23 x24 x26 x27 x28)), (qa 5, .inl (cI, 32, .inl g5)), (qa 6, .inl (cI, 32, .inl g6)), (qa 7, .inl (cI, 32, .inl g7)), (qa 31, .inl (cI, 4, .inl u31_31)), (qa 32, .inl (cI, 4, .inl (upd g32 cv tv_42))), (qa 33, .inl (cI, 4, .inl g33)), (qa 34, .inl (cI, 4, .inl g34)), (qa 35, .inl (cI, 4, .inl g35)), (qa 36, .inl (cI, 4, .inl g36)), (qa 39, .inl (cI, 4, .inl g39)), (qa 42, .inl (cI, 4, .inl g42)), (qa 47, .inl (cI, 4, .inl g47)), (qa 50, .inl (cJ, 4, .inr (.inl g50))), (qa 51, .inl (cZ, 4, .inl g51))] H := hP
  have hD : va_D A [(h, .inr (10, mdF qa x0 x2 x3 x4 x13 x14 x15 x16 x17 x18 x19 x20 x21 x22 x23 x24 x26 x27 x28)), (qa 5, .inl (cI, 32, .inl g5)), (qa 6, .inl (cI, 32, .inl g6)), (qa 7, .inl (cI, 32, .inl g7)), (qa 31, .inl (cI, 4, .inl u31_31)), (qa 32, .inl (cI, 4, .inl (upd g32 cv tv_42))), (qa 33, .inl (cI, 4, .inl g33)), (qa 34, .inl (cI, 4, .inl g34)), (qa 35, .inl (cI, 4, .inl g35)), (qa 36, .inl (cI, 4, .inl g36)), (qa 39, .inl (cI, 4, .inl g39)), (qa 42, .inl (cI, 4, .inl g42)), (qa 47, .inl (cI, 4, .inl g47)), (qa 50, .inl (cJ, 4, .inr (.inl g50))), (qa 51, .inl (cZ, 4, .inl g51))] := hD
  generalize upd g32 cv tv_42 = u32_43 at hP hD
  refine lv_aload_n hx hb dX11_comes_44 rfl (lv_at hl 3 rfl) ?_
  refine va_get (D := (dC, dI)) (ci := 10) (v := .ref (qa 33)) (C := RX11) (T := TX11) (N := 53) hx hb hts iwX11 hown hK hP 0 rfl rfl 33 (by decide) (hts (.fieldLink RX11 62 "ModulePlayerModel" "tuned" "[I") (List.mem_cons_of_mem _ kw_189)) (fun _ h9 => h9) rfl dX11_comes_45 ?_
  refine lv_iload_n hx hb dX11_comes_48 rfl (lv_at hl 4 rfl) ?_
  refine lv_aload_n hx hb dX11_comes_49 rfl (lv_at hl 3 rfl) ?_
  refine va_get (D := (dC, dI)) (ci := 10) (v := .ref (qa 6)) (C := RX11) (T := TX11) (N := 53) hx hb hts iwX11 hown hK hP 0 rfl rfl 6 (by decide) (hts (.fieldLink RX11 21 "ModulePlayerModel" "tune" "[I") (List.mem_cons_of_mem _ kw_174)) (fun _ h9 => h9) rfl dX11_comes_50 ?_
  refine lv_iload_n hx hb dX11_comes_53 rfl (lv_at hl 1 rfl) ?_
  refine g_iald hx hb hK hP 2 0 rfl rfl sq (nI_clamp (Nat.lt_trans (show sq < 32 from by omega) (by decide))) (vp_in_nI (by omega) (by decide)) dX11_comes_54 ?_
  refine lv_topi (fun tv_54 etv_54 => ?_)
  refine g_iast hx hb hK hP hD hS 6 0 rfl rfl cv (nI_clamp (Nat.lt_trans (show cv < 4 from by omega) (by decide))) (vp_in_nI (by omega) (by decide)) dX11_comes_55 (fun H locs hP hD hS => ?_)
  have hP : va_P (dC, dI) vwCl [(h, .inr (10, mdF qa x0 x2 x3 x4 x13 x14 x15 x16 x17 x18 x19 x20 x21 x22 x23 x24 x26 x27 x28)), (qa 5, .inl (cI, 32, .inl g5)), (qa 6, .inl (cI, 32, .inl g6)), (qa 7, .inl (cI, 32, .inl g7)), (qa 31, .inl (cI, 4, .inl u31_31)), (qa 32, .inl (cI, 4, .inl u32_43)), (qa 33, .inl (cI, 4, .inl (upd g33 cv tv_54))), (qa 34, .inl (cI, 4, .inl g34)), (qa 35, .inl (cI, 4, .inl g35)), (qa 36, .inl (cI, 4, .inl g36)), (qa 39, .inl (cI, 4, .inl g39)), (qa 42, .inl (cI, 4, .inl g42)), (qa 47, .inl (cI, 4, .inl g47)), (qa 50, .inl (cJ, 4, .inr (.inl g50))), (qa 51, .inl (cZ, 4, .inl g51))] H := hP
  have hD : va_D A [(h, .inr (10, mdF qa x0 x2 x3 x4 x13 x14 x15 x16 x17 x18 x19 x20 x21 x22 x23 x24 x26 x27 x28)), (qa 5, .inl (cI, 32, .inl g5)), (qa 6, .inl (cI, 32, .inl g6)), (qa 7, .inl (cI, 32, .inl g7)), (qa 31, .inl (cI, 4, .inl u31_31)), (qa 32, .inl (cI, 4, .inl u32_43)), (qa 33, .inl (cI, 4, .inl (upd g33 cv tv_54))), (qa 34, .inl (cI, 4, .inl g34)), (qa 35, .inl (cI, 4, .inl g35)), (qa 36, .inl (cI, 4, .inl g36)), (qa 39, .inl (cI, 4, .inl g39)), (qa 42, .inl (cI, 4, .inl g42)), (qa 47, .inl (cI, 4, .inl g47)), (qa 50, .inl (cJ, 4, .inr (.inl g50))), (qa 51, .inl (cZ, 4, .inl g51))] := hD
  generalize upd g33 cv tv_54 = u33_55 at hP hD
  refine lv_iload hx hb dX11_comes_56 (lv_at hl 0 rfl) ?_
  refine lv_if_ne (tgt := 62) hx hb dX11_comes_58 (by decide) (fun c_58 => ?_) (fun c_58 => ?_)
  · refine lv_iload_n hx hb dX11_comes_62 rfl (lv_at hl 2 rfl) ?_
    refine g_calli (wr := [(h, .inr (10, mdF qa x0 x2 x3 x4 x13 x14 x15 x16 x17 x18 x19 x20 x21 x22 x23 x24 x26 x27 x28)), (qa 5, .inl (cI, 32, .inl g5)), (qa 6, .inl (cI, 32, .inl g6)), (qa 7, .inl (cI, 32, .inl g7)), (qa 31, .inl (cI, 4, .inl u31_31)), (qa 32, .inl (cI, 4, .inl u32_43)), (qa 33, .inl (cI, 4, .inl u33_55)), (qa 34, .inl (cI, 4, .inl g34)), (qa 35, .inl (cI, 4, .inl g35)), (qa 36, .inl (cI, 4, .inl g36)), (qa 39, .inl (cI, 4, .inl g39)), (qa 42, .inl (cI, 4, .inl g42)), (qa 47, .inl (cI, 4, .inl g47)), (qa 50, .inl (cJ, 4, .inr (.inl g50))), (qa 51, .inl (cZ, 4, .inl g51))]) (va_runS (As := [.int tv_5]) (rest := []) ⟨hx, hb, hml, hown, hts⟩ (m_effect l dC dI H.size tv_5 ) (va_cwS 1 hts (gG_S kw_859 kw_860 kw_5 kw_861) rfl rfl rfl (by decide +kernel) ⟨Nat.le_of_ble_eq_true rfl, Nat.le_of_ble_eq_true rfl⟩) (g_preS hP hD hK hS hA hN hZ [] (by decide) rfl [] rfl) rfl rfl hl.1 rfl (lv_room (Nat.le_of_ble_eq_true rfl)) dX11_comes_63 ⟨Nat.le_of_ble_eq_true rfl, Nat.le_of_ble_eq_true rfl⟩) hP hD hK hS hA [] [0, 1, 2, 3, 4, 5, 6, 7, 8, 9, 10, 11, 12, 13, 14] rfl rfl (by decide +kernel) (by decide +kernel) (fun r_63 w ty1 H locs hw_63 hP hD _ hS => ?_)
    rcases hw_63 with ⟨hu, hr_63⟩
    cases hu
    have hP : va_P (dC, dI) vwCl [(h, .inr (10, mdF qa x0 x2 x3 x4 x13 x14 x15 x16 x17 x18 x19 x20 x21 x22 x23 x24 x26 x27 x28)), (qa 5, .inl (cI, 32, .inl g5)), (qa 6, .inl (cI, 32, .inl g6)), (qa 7, .inl (cI, 32, .inl g7)), (qa 31, .inl (cI, 4, .inl u31_31)), (qa 32, .inl (cI, 4, .inl u32_43)), (qa 33, .inl (cI, 4, .inl u33_55)), (qa 34, .inl (cI, 4, .inl g34)), (qa 35, .inl (cI, 4, .inl g35)), (qa 36, .inl (cI, 4, .inl g36)), (qa 39, .inl (cI, 4, .inl g39)), (qa 42, .inl (cI, 4, .inl g42)), (qa 47, .inl (cI, 4, .inl g47)), (qa 50, .inl (cJ, 4, .inr (.inl g50))), (qa 51, .inl (cZ, 4, .inl g51))] H := hP
    have hD : va_D A [(h, .inr (10, mdF qa x0 x2 x3 x4 x13 x14 x15 x16 x17 x18 x19 x20 x21 x22 x23 x24 x26 x27 x28)), (qa 5, .inl (cI, 32, .inl g5)), (qa 6, .inl (cI, 32, .inl g6)), (qa 7, .inl (cI, 32, .inl g7)), (qa 31, .inl (cI, 4, .inl u31_31)), (qa 32, .inl (cI, 4, .inl u32_43)), (qa 33, .inl (cI, 4, .inl u33_55)), (qa 34, .inl (cI, 4, .inl g34)), (qa 35, .inl (cI, 4, .inl g35)), (qa 36, .inl (cI, 4, .inl g36)), (qa 39, .inl (cI, 4, .inl g39)), (qa 42, .inl (cI, 4, .inl g42)), (qa 47, .inl (cI, 4, .inl g47)), (qa 50, .inl (cJ, 4, .inr (.inl g50))), (qa 51, .inl (cZ, 4, .inl g51))] := hD
    refine g_topi (y := (tv_5 >>> (8 &&& 31)) &&& 15) hr_63 ?_
    refine lv_iconst (v := 3) hx hb dX11_comes_66 (by decide) ?_
    refine lv_icmp_eq (tgt := 78) hx hb dX11_comes_67 (by decide) (fun c_67 => ?_) (fun c_67 => ?_)
    · refine lv_aload_n hx hb dX11_comes_78 rfl (lv_at hl 3 rfl) ?_
      refine va_get (D := (dC, dI)) (ci := 10) (v := .ref (qa 36)) (C := RX11) (T := TX11) (N := 53) hx hb hts iwX11 hown hK hP 0 rfl rfl 36 (by decide) (hts (.fieldLink RX11 71 "ModulePlayerModel" "target" "[I") (List.mem_cons_of_mem _ kw_192)) (fun _ h9 => h9) rfl dX11_comes_79 ?_
      refine lv_iload_n hx hb dX11_comes_82 rfl (lv_at hl 4 rfl) ?_
      refine lv_aload_n hx hb dX11_comes_83 rfl (lv_at hl 3 rfl) ?_
      refine lv_iload_n hx hb dX11_comes_84 rfl (lv_at hl 4 rfl) ?_
      refine lv_iload hx hb dX11_comes_85 (lv_at hl 0 rfl) ?_
      refine g_calli (wr := [(qa 5, .inl (cI, 32, .inl g5)), (qa 6, .inl (cI, 32, .inl g6)), (qa 7, .inl (cI, 32, .inl g7)), (qa 31, .inl (cI, 4, .inl u31_31)), (qa 32, .inl (cI, 4, .inl u32_43)), (qa 34, .inl (cI, 4, .inl g34)), (qa 35, .inl (cI, 4, .inl g35)), (qa 36, .inl (cI, 4, .inl g36)), (qa 39, .inl (cI, 4, .inl g39)), (qa 42, .inl (cI, 4, .inl g42)), (qa 47, .inl (cI, 4, .inl g47)), (qa 50, .inl (cJ, 4, .inr (.inl g50))), (qa 51, .inl (cZ, 4, .inl g51))]) (va_runV (As := [.int (nI cv), .int tv_18]) (rest := [.int (nI cv), .ref (qa 36)]) ⟨hx, hb, hml, hown, hts⟩ (m_tunedP l dC dI H.size h qa x0 x2 x3 x4 x13 x14 x15 x16 x17 x18 x19 x20 x21 x22 x23 x24 x26 x27 x28 cI u33_55 cv tv_18 (hcv)) (cwV 2 hts (gG_V kw_872 kw_873 kw_874 kw_5 kw_875) rfl rfl rfl (by decide +kernel) ⟨Nat.le_of_ble_eq_true rfl, Nat.le_of_ble_eq_true rfl⟩) (g_preV (C := RX11) (T := TX11) (N := 53) hP hD hK hS hA hN hZ (q0 := 0) rfl rfl [0, 6] (by decide +kernel) rfl [0] rfl) rfl rfl hl.1 rfl (lv_room (Nat.le_of_ble_eq_true rfl)) dX11_comes_87 ⟨Nat.le_of_ble_eq_true rfl, Nat.le_of_ble_eq_true rfl⟩) hP hD hK hS hA [0, 6] [1, 2, 3, 4, 5, 7, 8, 9, 10, 11, 12, 13, 14] rfl rfl (by decide +kernel) (by decide +kernel) (fun r_87 w ty1 H locs hw_87 hP hD _ hS => ?_)
      rcases hw_87 with ⟨hu, hw_87⟩
      cases hu
      have hP : va_P (dC, dI) vwCl [(qa 5, .inl (cI, 32, .inl g5)), (qa 6, .inl (cI, 32, .inl g6)), (qa 7, .inl (cI, 32, .inl g7)), (qa 31, .inl (cI, 4, .inl u31_31)), (qa 32, .inl (cI, 4, .inl u32_43)), (qa 34, .inl (cI, 4, .inl g34)), (qa 35, .inl (cI, 4, .inl g35)), (qa 36, .inl (cI, 4, .inl g36)), (qa 39, .inl (cI, 4, .inl g39)), (qa 42, .inl (cI, 4, .inl g42)), (qa 47, .inl (cI, 4, .inl g47)), (qa 50, .inl (cJ, 4, .inr (.inl g50))), (qa 51, .inl (cZ, 4, .inl g51)), (h, .inr (10, mdF qa x0 x2 x3 x4 x13 x14 x15 x16 x17 x18 x19 x20 x21 x22 x23 x24 x26 x27 x28)), (qa 33, .inl (cI, 4, .inl u33_55))] H := hP
      have hD : va_D A [(qa 5, .inl (cI, 32, .inl g5)), (qa 6, .inl (cI, 32, .inl g6)), (qa 7, .inl (cI, 32, .inl g7)), (qa 31, .inl (cI, 4, .inl u31_31)), (qa 32, .inl (cI, 4, .inl u32_43)), (qa 34, .inl (cI, 4, .inl g34)), (qa 35, .inl (cI, 4, .inl g35)), (qa 36, .inl (cI, 4, .inl g36)), (qa 39, .inl (cI, 4, .inl g39)), (qa 42, .inl (cI, 4, .inl g42)), (qa 47, .inl (cI, 4, .inl g47)), (qa 50, .inl (cJ, 4, .inr (.inl g50))), (qa 51, .inl (cZ, 4, .inl g51)), (h, .inr (10, mdF qa x0 x2 x3 x4 x13 x14 x15 x16 x17 x18 x19 x20 x21 x22 x23 x24 x26 x27 x28)), (qa 33, .inl (cI, 4, .inl u33_55))] := hD
      refine g_iast hx hb hK hP hD hS 7 0 rfl rfl cv (nI_clamp (Nat.lt_trans (show cv < 4 from by omega) (by decide))) (vp_in_nI (by omega) (by decide)) dX11_comes_90 (fun H locs hP hD hS => ?_)
      have hP : va_P (dC, dI) vwCl [(qa 5, .inl (cI, 32, .inl g5)), (qa 6, .inl (cI, 32, .inl g6)), (qa 7, .inl (cI, 32, .inl g7)), (qa 31, .inl (cI, 4, .inl u31_31)), (qa 32, .inl (cI, 4, .inl u32_43)), (qa 34, .inl (cI, 4, .inl g34)), (qa 35, .inl (cI, 4, .inl g35)), (qa 36, .inl (cI, 4, .inl (upd g36 cv r_87))), (qa 39, .inl (cI, 4, .inl g39)), (qa 42, .inl (cI, 4, .inl g42)), (qa 47, .inl (cI, 4, .inl g47)), (qa 50, .inl (cJ, 4, .inr (.inl g50))), (qa 51, .inl (cZ, 4, .inl g51)), (h, .inr (10, mdF qa x0 x2 x3 x4 x13 x14 x15 x16 x17 x18 x19 x20 x21 x22 x23 x24 x26 x27 x28)), (qa 33, .inl (cI, 4, .inl u33_55))] H := hP
      have hD : va_D A [(qa 5, .inl (cI, 32, .inl g5)), (qa 6, .inl (cI, 32, .inl g6)), (qa 7, .inl (cI, 32, .inl g7)), (qa 31, .inl (cI, 4, .inl u31_31)), (qa 32, .inl (cI, 4, .inl u32_43)), (qa 34, .inl (cI, 4, .inl g34)), (qa 35, .inl (cI, 4, .inl g35)), (qa 36, .inl (cI, 4, .inl (upd g36 cv r_87))), (qa 39, .inl (cI, 4, .inl g39)), (qa 42, .inl (cI, 4, .inl g42)), (qa 47, .inl (cI, 4, .inl g47)), (qa 50, .inl (cJ, 4, .inr (.inl g50))), (qa 51, .inl (cZ, 4, .inl g51)), (h, .inr (10, mdF qa x0 x2 x3 x4 x13 x14 x15 x16 x17 x18 x19 x20 x21 x22 x23 x24 x26 x27 x28)), (qa 33, .inl (cI, 4, .inl u33_55))] := hD
      obtain ⟨u36_90, r_u36_90, eu36_90⟩ : ∃ ff : Nat → Int32, rg 4 0 856 ff ∧ ff = upd g36 cv r_87 := ⟨upd g36 cv r_87, rg_upd2 r_g36 (⟨by omega, hw_87.2⟩), rfl⟩
      rw [← eu36_90] at hP hD
      have hP9 := hP.sub (ws' := [(h, .inr (10, mdF qa x0 x2 x3 x4 x13 x14 x15 x16 x17 x18 x19 x20 x21 x22 x23 x24 x26 x27 x28)), (qa 5, .inl (cI, 32, .inl g5)), (qa 6, .inl (cI, 32, .inl g6)), (qa 7, .inl (cI, 32, .inl g7)), (qa 31, .inl (cI, 4, .inl u31_31)), (qa 32, .inl (cI, 4, .inl u32_43)), (qa 33, .inl (cI, 4, .inl u33_55)), (qa 34, .inl (cI, 4, .inl g34)), (qa 35, .inl (cI, 4, .inl g35)), (qa 36, .inl (cI, 4, .inl u36_90)), (qa 39, .inl (cI, 4, .inl g39)), (qa 42, .inl (cI, 4, .inl g42)), (qa 47, .inl (cI, 4, .inl g47)), (qa 50, .inl (cJ, 4, .inr (.inl g50))), (qa 51, .inl (cZ, 4, .inl g51))]) [13, 0, 1, 2, 3, 4, 14, 5, 6, 7, 8, 9, 10, 11, 12] rfl
      have hD9 := hD.sub (ws' := [(h, .inr (10, mdF qa x0 x2 x3 x4 x13 x14 x15 x16 x17 x18 x19 x20 x21 x22 x23 x24 x26 x27 x28)), (qa 5, .inl (cI, 32, .inl g5)), (qa 6, .inl (cI, 32, .inl g6)), (qa 7, .inl (cI, 32, .inl g7)), (qa 31, .inl (cI, 4, .inl u31_31)), (qa 32, .inl (cI, 4, .inl u32_43)), (qa 33, .inl (cI, 4, .inl u33_55)), (qa 34, .inl (cI, 4, .inl g34)), (qa 35, .inl (cI, 4, .inl g35)), (qa 36, .inl (cI, 4, .inl u36_90)), (qa 39, .inl (cI, 4, .inl g39)), (qa 42, .inl (cI, 4, .inl g42)), (qa 47, .inl (cI, 4, .inl g47)), (qa 50, .inl (cJ, 4, .inr (.inl g50))), (qa 51, .inl (cZ, 4, .inl g51))]) [13, 0, 1, 2, 3, 4, 14, 5, 6, 7, 8, 9, 10, 11, 12] (by decide +kernel) rfl
      have hK9 := hK.sub (tys' := []) [] rfl
      exact W.vret hx hb hr (fun t ht hW => ⟨⟨_, rfl, ⟨u31_31, u32_43, u33_55, g34, g35, u36_90, g39, g42, g51, g50, rfl, r_u31_31, r_g34, r_u36_90, r_g50⟩, by rw [ht]; exact hP9, va_K.moved hW.alike hK9, hD9⟩, hS.F ht⟩) hS.2.2 dX11_comes_91
    refine lv_iload_n hx hb dX11_comes_70 rfl (lv_at hl 2 rfl) ?_
    refine g_calli (wr := [(h, .inr (10, mdF qa x0 x2 x3 x4 x13 x14 x15 x16 x17 x18 x19 x20 x21 x22 x23 x24 x26 x27 x28)), (qa 5, .inl (cI, 32, .inl g5)), (qa 6, .inl (cI, 32, .inl g6)), (qa 7, .inl (cI, 32, .inl g7)), (qa 31, .inl (cI, 4, .inl u31_31)), (qa 32, .inl (cI, 4, .inl u32_43)), (qa 33, .inl (cI, 4, .inl u33_55)), (qa 34, .inl (cI, 4, .inl g34)), (qa 35, .inl (cI, 4, .inl g35)), (qa 36, .inl (cI, 4, .inl g36)), (qa 39, .inl (cI, 4, .inl g39)), (qa 42, .inl (cI, 4, .inl g42)), (qa 47, .inl (cI, 4, .inl g47)), (qa 50, .inl (cJ, 4, .inr (.inl g50))), (qa 51, .inl (cZ, 4, .inl g51))]) (va_runS (As := [.int tv_5]) (rest := []) ⟨hx, hb, hml, hown, hts⟩ (m_effect l dC dI H.size tv_5 ) (va_cwS 1 hts (gG_S kw_859 kw_860 kw_5 kw_861) rfl rfl rfl (by decide +kernel) ⟨Nat.le_of_ble_eq_true rfl, Nat.le_of_ble_eq_true rfl⟩) (g_preS hP hD hK hS hA hN hZ [] (by decide) rfl [] rfl) rfl rfl hl.1 rfl (lv_room (Nat.le_of_ble_eq_true rfl)) dX11_comes_71 ⟨Nat.le_of_ble_eq_true rfl, Nat.le_of_ble_eq_true rfl⟩) hP hD hK hS hA [] [0, 1, 2, 3, 4, 5, 6, 7, 8, 9, 10, 11, 12, 13, 14] rfl rfl (by decide +kernel) (by decide +kernel) (fun r_71 w ty1 H locs hw_71 hP hD _ hS => ?_)
    rcases hw_71 with ⟨hu, hr_71⟩
    cases hu
    have hP : va_P (dC, dI) vwCl [(h, .inr (10, mdF qa x0 x2 x3 x4 x13 x14 x15 x16 x17 x18 x19 x20 x21 x22 x23 x24 x26 x27 x28)), (qa 5, .inl (cI, 32, .inl g5)), (qa 6, .inl (cI, 32, .inl g6)), (qa 7, .inl (cI, 32, .inl g7)), (qa 31, .inl (cI, 4, .inl u31_31)), (qa 32, .inl (cI, 4, .inl u32_43)), (qa 33, .inl (cI, 4, .inl u33_55)), (qa 34, .inl (cI, 4, .inl g34)), (qa 35, .inl (cI, 4, .inl g35)), (qa 36, .inl (cI, 4, .inl g36)), (qa 39, .inl (cI, 4, .inl g39)), (qa 42, .inl (cI, 4, .inl g42)), (qa 47, .inl (cI, 4, .inl g47)), (qa 50, .inl (cJ, 4, .inr (.inl g50))), (qa 51, .inl (cZ, 4, .inl g51))] H := hP
    have hD : va_D A [(h, .inr (10, mdF qa x0 x2 x3 x4 x13 x14 x15 x16 x17 x18 x19 x20 x21 x22 x23 x24 x26 x27 x28)), (qa 5, .inl (cI, 32, .inl g5)), (qa 6, .inl (cI, 32, .inl g6)), (qa 7, .inl (cI, 32, .inl g7)), (qa 31, .inl (cI, 4, .inl u31_31)), (qa 32, .inl (cI, 4, .inl u32_43)), (qa 33, .inl (cI, 4, .inl u33_55)), (qa 34, .inl (cI, 4, .inl g34)), (qa 35, .inl (cI, 4, .inl g35)), (qa 36, .inl (cI, 4, .inl g36)), (qa 39, .inl (cI, 4, .inl g39)), (qa 42, .inl (cI, 4, .inl g42)), (qa 47, .inl (cI, 4, .inl g47)), (qa 50, .inl (cJ, 4, .inr (.inl g50))), (qa 51, .inl (cZ, 4, .inl g51))] := hD
    refine g_topi (y := (tv_5 >>> (8 &&& 31)) &&& 15) hr_71 ?_
    refine lv_iconst (v := 5) hx hb dX11_comes_74 (by decide) ?_
    refine lv_icmp_ne (tgt := 92) hx hb dX11_comes_75 (by decide) (fun c_75 => ?_) (fun c_75 => ?_)
    · refine lv_aload_n hx hb dX11_comes_92 rfl (lv_at hl 3 rfl) ?_
      refine va_get (D := (dC, dI)) (ci := 10) (v := .ref (qa 34)) (C := RX11) (T := TX11) (N := 53) hx hb hts iwX11 hown hK hP 0 rfl rfl 34 (by decide) (hts (.fieldLink RX11 65 "ModulePlayerModel" "period" "[I") (List.mem_cons_of_mem _ kw_190)) (fun _ h9 => h9) rfl dX11_comes_93 ?_
      refine lv_iload_n hx hb dX11_comes_96 rfl (lv_at hl 4 rfl) ?_
      refine lv_aload_n hx hb dX11_comes_97 rfl (lv_at hl 3 rfl) ?_
      refine lv_iload_n hx hb dX11_comes_98 rfl (lv_at hl 4 rfl) ?_
      refine lv_iload hx hb dX11_comes_99 (lv_at hl 0 rfl) ?_
      refine g_calli (wr := [(qa 5, .inl (cI, 32, .inl g5)), (qa 6, .inl (cI, 32, .inl g6)), (qa 7, .inl (cI, 32, .inl g7)), (qa 31, .inl (cI, 4, .inl u31_31)), (qa 32, .inl (cI, 4, .inl u32_43)), (qa 34, .inl (cI, 4, .inl g34)), (qa 35, .inl (cI, 4, .inl g35)), (qa 36, .inl (cI, 4, .inl g36)), (qa 39, .inl (cI, 4, .inl g39)), (qa 42, .inl (cI, 4, .inl g42)), (qa 47, .inl (cI, 4, .inl g47)), (qa 50, .inl (cJ, 4, .inr (.inl g50))), (qa 51, .inl (cZ, 4, .inl g51))]) (va_runV (As := [.int (nI cv), .int tv_18]) (rest := [.int (nI cv), .ref (qa 34)]) ⟨hx, hb, hml, hown, hts⟩ (m_tunedP l dC dI H.size h qa x0 x2 x3 x4 x13 x14 x15 x16 x17 x18 x19 x20 x21 x22 x23 x24 x26 x27 x28 cI u33_55 cv tv_18 (hcv)) (cwV 2 hts (gG_V kw_872 kw_873 kw_874 kw_5 kw_875) rfl rfl rfl (by decide +kernel) ⟨Nat.le_of_ble_eq_true rfl, Nat.le_of_ble_eq_true rfl⟩) (g_preV (C := RX11) (T := TX11) (N := 53) hP hD hK hS hA hN hZ (q0 := 0) rfl rfl [0, 6] (by decide +kernel) rfl [0] rfl) rfl rfl hl.1 rfl (lv_room (Nat.le_of_ble_eq_true rfl)) dX11_comes_101 ⟨Nat.le_of_ble_eq_true rfl, Nat.le_of_ble_eq_true rfl⟩) hP hD hK hS hA [0, 6] [1, 2, 3, 4, 5, 7, 8, 9, 10, 11, 12, 13, 14] rfl rfl (by decide +kernel) (by decide +kernel) (fun r_101 w ty1 H locs hw_101 hP hD _ hS => ?_)
      rcases hw_101 with ⟨hu, hw_101⟩
      cases hu
      have hP : va_P (dC, dI) vwCl [(qa 5, .inl (cI, 32, .inl g5)), (qa 6, .inl (cI, 32, .inl g6)), (qa 7, .inl (cI, 32, .inl g7)), (qa 31, .inl (cI, 4, .inl u31_31)), (qa 32, .inl (cI, 4, .inl u32_43)), (qa 34, .inl (cI, 4, .inl g34)), (qa 35, .inl (cI, 4, .inl g35)), (qa 36, .inl (cI, 4, .inl g36)), (qa 39, .inl (cI, 4, .inl g39)), (qa 42, .inl (cI, 4, .inl g42)), (qa 47, .inl (cI, 4, .inl g47)), (qa 50, .inl (cJ, 4, .inr (.inl g50))), (qa 51, .inl (cZ, 4, .inl g51)), (h, .inr (10, mdF qa x0 x2 x3 x4 x13 x14 x15 x16 x17 x18 x19 x20 x21 x22 x23 x24 x26 x27 x28)), (qa 33, .inl (cI, 4, .inl u33_55))] H := hP
      have hD : va_D A [(qa 5, .inl (cI, 32, .inl g5)), (qa 6, .inl (cI, 32, .inl g6)), (qa 7, .inl (cI, 32, .inl g7)), (qa 31, .inl (cI, 4, .inl u31_31)), (qa 32, .inl (cI, 4, .inl u32_43)), (qa 34, .inl (cI, 4, .inl g34)), (qa 35, .inl (cI, 4, .inl g35)), (qa 36, .inl (cI, 4, .inl g36)), (qa 39, .inl (cI, 4, .inl g39)), (qa 42, .inl (cI, 4, .inl g42)), (qa 47, .inl (cI, 4, .inl g47)), (qa 50, .inl (cJ, 4, .inr (.inl g50))), (qa 51, .inl (cZ, 4, .inl g51)), (h, .inr (10, mdF qa x0 x2 x3 x4 x13 x14 x15 x16 x17 x18 x19 x20 x21 x22 x23 x24 x26 x27 x28)), (qa 33, .inl (cI, 4, .inl u33_55))] := hD
      refine g_iast hx hb hK hP hD hS 5 0 rfl rfl cv (nI_clamp (Nat.lt_trans (show cv < 4 from by omega) (by decide))) (vp_in_nI (by omega) (by decide)) dX11_comes_104 (fun H locs hP hD hS => ?_)
      have hP : va_P (dC, dI) vwCl [(qa 5, .inl (cI, 32, .inl g5)), (qa 6, .inl (cI, 32, .inl g6)), (qa 7, .inl (cI, 32, .inl g7)), (qa 31, .inl (cI, 4, .inl u31_31)), (qa 32, .inl (cI, 4, .inl u32_43)), (qa 34, .inl (cI, 4, .inl (upd g34 cv r_101))), (qa 35, .inl (cI, 4, .inl g35)), (qa 36, .inl (cI, 4, .inl g36)), (qa 39, .inl (cI, 4, .inl g39)), (qa 42, .inl (cI, 4, .inl g42)), (qa 47, .inl (cI, 4, .inl g47)), (qa 50, .inl (cJ, 4, .inr (.inl g50))), (qa 51, .inl (cZ, 4, .inl g51)), (h, .inr (10, mdF qa x0 x2 x3 x4 x13 x14 x15 x16 x17 x18 x19 x20 x21 x22 x23 x24 x26 x27 x28)), (qa 33, .inl (cI, 4, .inl u33_55))] H := hP
      have hD : va_D A [(qa 5, .inl (cI, 32, .inl g5)), (qa 6, .inl (cI, 32, .inl g6)), (qa 7, .inl (cI, 32, .inl g7)), (qa 31, .inl (cI, 4, .inl u31_31)), (qa 32, .inl (cI, 4, .inl u32_43)), (qa 34, .inl (cI, 4, .inl (upd g34 cv r_101))), (qa 35, .inl (cI, 4, .inl g35)), (qa 36, .inl (cI, 4, .inl g36)), (qa 39, .inl (cI, 4, .inl g39)), (qa 42, .inl (cI, 4, .inl g42)), (qa 47, .inl (cI, 4, .inl g47)), (qa 50, .inl (cJ, 4, .inr (.inl g50))), (qa 51, .inl (cZ, 4, .inl g51)), (h, .inr (10, mdF qa x0 x2 x3 x4 x13 x14 x15 x16 x17 x18 x19 x20 x21 x22 x23 x24 x26 x27 x28)), (qa 33, .inl (cI, 4, .inl u33_55))] := hD
      obtain ⟨u34_104, r_u34_104, eu34_104⟩ : ∃ ff : Nat → Int32, rg 4 0 856 ff ∧ ff = upd g34 cv r_101 := ⟨upd g34 cv r_101, rg_upd2 r_g34 (⟨by omega, hw_101.2⟩), rfl⟩
      rw [← eu34_104] at hP hD
      refine lv_aload_n hx hb dX11_comes_105 rfl (lv_at hl 3 rfl) ?_
      refine va_get (D := (dC, dI)) (ci := 10) (v := .ref (qa 35)) (C := RX11) (T := TX11) (N := 53) hx hb hts iwX11 hown hK hP 13 rfl rfl 35 (by decide) (hts (.fieldLink RX11 68 "ModulePlayerModel" "note" "[I") (List.mem_cons_of_mem _ kw_191)) (fun _ h9 => h9) rfl dX11_comes_106 ?_
      refine lv_iload_n hx hb dX11_comes_109 rfl (lv_at hl 4 rfl) ?_
      refine lv_aload_n hx hb dX11_comes_110 rfl (lv_at hl 3 rfl) ?_
      refine va_get (D := (dC, dI)) (ci := 10) (v := .ref (qa 34)) (C := RX11) (T := TX11) (N := 53) hx hb hts iwX11 hown hK hP 13 rfl rfl 34 (by decide) (hts (.fieldLink RX11 65 "ModulePlayerModel" "period" "[I") (List.mem_cons_of_mem _ kw_190)) (fun _ h9 => h9) rfl dX11_comes_111 ?_
      refine lv_iload_n hx hb dX11_comes_114 rfl (lv_at hl 4 rfl) ?_
      refine g_iald hx hb hK hP 5 0 rfl rfl cv (nI_clamp (Nat.lt_trans (show cv < 4 from by omega) (by decide))) (vp_in_nI (by omega) (by decide)) dX11_comes_115 ?_
      obtain ⟨jn_115, hjn_115, ejn_115⟩ := rg_nat (kx := cv) (mx := 856) r_u34_104 (by omega) rfl
      refine g_topi (y := nI jn_115) ejn_115 ?_
      refine g_iast hx hb hK hP hD hS 6 0 rfl rfl cv (nI_clamp (Nat.lt_trans (show cv < 4 from by omega) (by decide))) (vp_in_nI (by omega) (by decide)) dX11_comes_116 (fun H locs hP hD hS => ?_)
      have hP : va_P (dC, dI) vwCl [(qa 5, .inl (cI, 32, .inl g5)), (qa 6, .inl (cI, 32, .inl g6)), (qa 7, .inl (cI, 32, .inl g7)), (qa 31, .inl (cI, 4, .inl u31_31)), (qa 32, .inl (cI, 4, .inl u32_43)), (qa 34, .inl (cI, 4, .inl u34_104)), (qa 35, .inl (cI, 4, .inl (upd g35 cv (nI jn_115)))), (qa 36, .inl (cI, 4, .inl g36)), (qa 39, .inl (cI, 4, .inl g39)), (qa 42, .inl (cI, 4, .inl g42)), (qa 47, .inl (cI, 4, .inl g47)), (qa 50, .inl (cJ, 4, .inr (.inl g50))), (qa 51, .inl (cZ, 4, .inl g51)), (h, .inr (10, mdF qa x0 x2 x3 x4 x13 x14 x15 x16 x17 x18 x19 x20 x21 x22 x23 x24 x26 x27 x28)), (qa 33, .inl (cI, 4, .inl u33_55))] H := hP
      have hD : va_D A [(qa 5, .inl (cI, 32, .inl g5)), (qa 6, .inl (cI, 32, .inl g6)), (qa 7, .inl (cI, 32, .inl g7)), (qa 31, .inl (cI, 4, .inl u31_31)), (qa 32, .inl (cI, 4, .inl u32_43)), (qa 34, .inl (cI, 4, .inl u34_104)), (qa 35, .inl (cI, 4, .inl (upd g35 cv (nI jn_115)))), (qa 36, .inl (cI, 4, .inl g36)), (qa 39, .inl (cI, 4, .inl g39)), (qa 42, .inl (cI, 4, .inl g42)), (qa 47, .inl (cI, 4, .inl g47)), (qa 50, .inl (cJ, 4, .inr (.inl g50))), (qa 51, .inl (cZ, 4, .inl g51)), (h, .inr (10, mdF qa x0 x2 x3 x4 x13 x14 x15 x16 x17 x18 x19 x20 x21 x22 x23 x24 x26 x27 x28)), (qa 33, .inl (cI, 4, .inl u33_55))] := hD
      generalize upd g35 cv (nI jn_115) = u35_116 at hP hD
      refine lv_aload_n hx hb dX11_comes_117 rfl (lv_at hl 3 rfl) ?_
      refine lv_iload_n hx hb dX11_comes_118 rfl (lv_at hl 4 rfl) ?_
      refine g_callv (wr := [(qa 6, .inl (cI, 32, .inl g6)), (qa 7, .inl (cI, 32, .inl g7)), (qa 32, .inl (cI, 4, .inl u32_43)), (qa 34, .inl (cI, 4, .inl u34_104)), (qa 35, .inl (cI, 4, .inl u35_116)), (qa 36, .inl (cI, 4, .inl g36)), (qa 39, .inl (cI, 4, .inl g39)), (qa 42, .inl (cI, 4, .inl g42)), (qa 47, .inl (cI, 4, .inl g47)), (qa 33, .inl (cI, 4, .inl u33_55))]) (va_runV (As := [.int (nI cv)]) (rest := []) ⟨hx, hb, hml, hown, hts⟩ (m_begins l dC dI H.size h qa x0 x2 x3 x4 x13 x14 x15 x16 x17 x18 x19 x20 x21 x22 x23 x24 x26 x27 x28 cI cJ cZ g5 u31_31 g51 g50 cv (hcv) (r_g5) (r_u31_31) (r_g50)) (cwV 1 hts (gG_V kw_879 kw_880 kw_881 kw_5 kw_882) rfl rfl rfl (by decide +kernel) ⟨Nat.le_of_ble_eq_true rfl, Nat.le_of_ble_eq_true rfl⟩) (g_preV (C := RX11) (T := TX11) (N := 53) hP hD hK hS hA hN hZ (q0 := 13) rfl rfl [13, 0, 3, 11, 12] (by decide +kernel) rfl [0, 1, 2] rfl) rfl rfl hl.1 rfl (lv_room (Nat.le_of_ble_eq_true rfl)) dX11_comes_119 ⟨Nat.le_of_ble_eq_true rfl, Nat.le_of_ble_eq_true rfl⟩) hP hD hK hS hA [13, 0, 3, 11, 12] [1, 2, 4, 5, 6, 7, 8, 9, 10, 14] rfl rfl (by decide +kernel) (by decide +kernel) (fun w ty1 H locs hw_119 hP hD _ hS => ?_)
      rcases hw_119 with ⟨k51_119, k50_119, hu, r_k50_119⟩
      cases hu
      have hP : va_P (dC, dI) vwCl [(qa 6, .inl (cI, 32, .inl g6)), (qa 7, .inl (cI, 32, .inl g7)), (qa 32, .inl (cI, 4, .inl u32_43)), (qa 34, .inl (cI, 4, .inl u34_104)), (qa 35, .inl (cI, 4, .inl u35_116)), (qa 36, .inl (cI, 4, .inl g36)), (qa 39, .inl (cI, 4, .inl g39)), (qa 42, .inl (cI, 4, .inl g42)), (qa 47, .inl (cI, 4, .inl g47)), (qa 33, .inl (cI, 4, .inl u33_55)), (h, .inr (10, mdF qa x0 x2 x3 x4 x13 x14 x15 x16 x17 x18 x19 x20 x21 x22 x23 x24 x26 x27 x28)), (qa 5, .inl (cI, 32, .inl g5)), (qa 31, .inl (cI, 4, .inl u31_31)), (qa 50, .inl (cJ, 4, .inr (.inl k50_119))), (qa 51, .inl (cZ, 4, .inl k51_119))] H := hP
      have hD : va_D A [(qa 6, .inl (cI, 32, .inl g6)), (qa 7, .inl (cI, 32, .inl g7)), (qa 32, .inl (cI, 4, .inl u32_43)), (qa 34, .inl (cI, 4, .inl u34_104)), (qa 35, .inl (cI, 4, .inl u35_116)), (qa 36, .inl (cI, 4, .inl g36)), (qa 39, .inl (cI, 4, .inl g39)), (qa 42, .inl (cI, 4, .inl g42)), (qa 47, .inl (cI, 4, .inl g47)), (qa 33, .inl (cI, 4, .inl u33_55)), (h, .inr (10, mdF qa x0 x2 x3 x4 x13 x14 x15 x16 x17 x18 x19 x20 x21 x22 x23 x24 x26 x27 x28)), (qa 5, .inl (cI, 32, .inl g5)), (qa 31, .inl (cI, 4, .inl u31_31)), (qa 50, .inl (cJ, 4, .inr (.inl k50_119))), (qa 51, .inl (cZ, 4, .inl k51_119))] := hD
      refine lv_aload_n hx hb dX11_comes_122 rfl (lv_at hl 3 rfl) ?_
      refine va_get (D := (dC, dI)) (ci := 10) (v := .ref (qa 39)) (C := RX11) (T := TX11) (N := 53) hx hb hts iwX11 hown hK hP 10 rfl rfl 39 (by decide) (hts (.fieldLink RX11 80 "ModulePlayerModel" "vibPlace" "[I") (List.mem_cons_of_mem _ kw_195)) (fun _ h9 => h9) rfl dX11_comes_123 ?_
      refine lv_iload_n hx hb dX11_comes_126 rfl (lv_at hl 4 rfl) ?_
      refine lv_iconst (v := 0) hx hb dX11_comes_127 (by decide) ?_
      refine g_iast hx hb hK hP hD hS 6 0 rfl rfl cv (nI_clamp (Nat.lt_trans (show cv < 4 from by omega) (by decide))) (vp_in_nI (by omega) (by decide)) dX11_comes_128 (fun H locs hP hD hS => ?_)
      have hP : va_P (dC, dI) vwCl [(qa 6, .inl (cI, 32, .inl g6)), (qa 7, .inl (cI, 32, .inl g7)), (qa 32, .inl (cI, 4, .inl u32_43)), (qa 34, .inl (cI, 4, .inl u34_104)), (qa 35, .inl (cI, 4, .inl u35_116)), (qa 36, .inl (cI, 4, .inl g36)), (qa 39, .inl (cI, 4, .inl (upd g39 cv 0))), (qa 42, .inl (cI, 4, .inl g42)), (qa 47, .inl (cI, 4, .inl g47)), (qa 33, .inl (cI, 4, .inl u33_55)), (h, .inr (10, mdF qa x0 x2 x3 x4 x13 x14 x15 x16 x17 x18 x19 x20 x21 x22 x23 x24 x26 x27 x28)), (qa 5, .inl (cI, 32, .inl g5)), (qa 31, .inl (cI, 4, .inl u31_31)), (qa 50, .inl (cJ, 4, .inr (.inl k50_119))), (qa 51, .inl (cZ, 4, .inl k51_119))] H := hP
      have hD : va_D A [(qa 6, .inl (cI, 32, .inl g6)), (qa 7, .inl (cI, 32, .inl g7)), (qa 32, .inl (cI, 4, .inl u32_43)), (qa 34, .inl (cI, 4, .inl u34_104)), (qa 35, .inl (cI, 4, .inl u35_116)), (qa 36, .inl (cI, 4, .inl g36)), (qa 39, .inl (cI, 4, .inl (upd g39 cv 0))), (qa 42, .inl (cI, 4, .inl g42)), (qa 47, .inl (cI, 4, .inl g47)), (qa 33, .inl (cI, 4, .inl u33_55)), (h, .inr (10, mdF qa x0 x2 x3 x4 x13 x14 x15 x16 x17 x18 x19 x20 x21 x22 x23 x24 x26 x27 x28)), (qa 5, .inl (cI, 32, .inl g5)), (qa 31, .inl (cI, 4, .inl u31_31)), (qa 50, .inl (cJ, 4, .inr (.inl k50_119))), (qa 51, .inl (cZ, 4, .inl k51_119))] := hD
      generalize upd g39 cv 0 = u39_128 at hP hD
      refine lv_aload_n hx hb dX11_comes_129 rfl (lv_at hl 3 rfl) ?_
      refine va_get (D := (dC, dI)) (ci := 10) (v := .ref (qa 42)) (C := RX11) (T := TX11) (N := 53) hx hb hts iwX11 hown hK hP 10 rfl rfl 42 (by decide) (hts (.fieldLink RX11 89 "ModulePlayerModel" "tremPlace" "[I") (List.mem_cons_of_mem _ kw_198)) (fun _ h9 => h9) rfl dX11_comes_130 ?_
      refine lv_iload_n hx hb dX11_comes_133 rfl (lv_at hl 4 rfl) ?_
      refine lv_iconst (v := 0) hx hb dX11_comes_134 (by decide) ?_
      refine g_iast hx hb hK hP hD hS 7 0 rfl rfl cv (nI_clamp (Nat.lt_trans (show cv < 4 from by omega) (by decide))) (vp_in_nI (by omega) (by decide)) dX11_comes_135 (fun H locs hP hD hS => ?_)
      have hP : va_P (dC, dI) vwCl [(qa 6, .inl (cI, 32, .inl g6)), (qa 7, .inl (cI, 32, .inl g7)), (qa 32, .inl (cI, 4, .inl u32_43)), (qa 34, .inl (cI, 4, .inl u34_104)), (qa 35, .inl (cI, 4, .inl u35_116)), (qa 36, .inl (cI, 4, .inl g36)), (qa 39, .inl (cI, 4, .inl u39_128)), (qa 42, .inl (cI, 4, .inl (upd g42 cv 0))), (qa 47, .inl (cI, 4, .inl g47)), (qa 33, .inl (cI, 4, .inl u33_55)), (h, .inr (10, mdF qa x0 x2 x3 x4 x13 x14 x15 x16 x17 x18 x19 x20 x21 x22 x23 x24 x26 x27 x28)), (qa 5, .inl (cI, 32, .inl g5)), (qa 31, .inl (cI, 4, .inl u31_31)), (qa 50, .inl (cJ, 4, .inr (.inl k50_119))), (qa 51, .inl (cZ, 4, .inl k51_119))] H := hP
      have hD : va_D A [(qa 6, .inl (cI, 32, .inl g6)), (qa 7, .inl (cI, 32, .inl g7)), (qa 32, .inl (cI, 4, .inl u32_43)), (qa 34, .inl (cI, 4, .inl u34_104)), (qa 35, .inl (cI, 4, .inl u35_116)), (qa 36, .inl (cI, 4, .inl g36)), (qa 39, .inl (cI, 4, .inl u39_128)), (qa 42, .inl (cI, 4, .inl (upd g42 cv 0))), (qa 47, .inl (cI, 4, .inl g47)), (qa 33, .inl (cI, 4, .inl u33_55)), (h, .inr (10, mdF qa x0 x2 x3 x4 x13 x14 x15 x16 x17 x18 x19 x20 x21 x22 x23 x24 x26 x27 x28)), (qa 5, .inl (cI, 32, .inl g5)), (qa 31, .inl (cI, 4, .inl u31_31)), (qa 50, .inl (cJ, 4, .inr (.inl k50_119))), (qa 51, .inl (cZ, 4, .inl k51_119))] := hD
      generalize upd g42 cv 0 = u42_135 at hP hD
      have hP9 := hP.sub (ws' := [(h, .inr (10, mdF qa x0 x2 x3 x4 x13 x14 x15 x16 x17 x18 x19 x20 x21 x22 x23 x24 x26 x27 x28)), (qa 5, .inl (cI, 32, .inl g5)), (qa 6, .inl (cI, 32, .inl g6)), (qa 7, .inl (cI, 32, .inl g7)), (qa 31, .inl (cI, 4, .inl u31_31)), (qa 32, .inl (cI, 4, .inl u32_43)), (qa 33, .inl (cI, 4, .inl u33_55)), (qa 34, .inl (cI, 4, .inl u34_104)), (qa 35, .inl (cI, 4, .inl u35_116)), (qa 36, .inl (cI, 4, .inl g36)), (qa 39, .inl (cI, 4, .inl u39_128)), (qa 42, .inl (cI, 4, .inl u42_135)), (qa 47, .inl (cI, 4, .inl g47)), (qa 50, .inl (cJ, 4, .inr (.inl k50_119))), (qa 51, .inl (cZ, 4, .inl k51_119))]) [10, 11, 0, 1, 12, 2, 9, 3, 4, 5, 6, 7, 8, 13, 14] rfl
      have hD9 := hD.sub (ws' := [(h, .inr (10, mdF qa x0 x2 x3 x4 x13 x14 x15 x16 x17 x18 x19 x20 x21 x22 x23 x24 x26 x27 x28)), (qa 5, .inl (cI, 32, .inl g5)), (qa 6, .inl (cI, 32, .inl g6)), (qa 7, .inl (cI, 32, .inl g7)), (qa 31, .inl (cI, 4, .inl u31_31)), (qa 32, .inl (cI, 4, .inl u32_43)), (qa 33, .inl (cI, 4, .inl u33_55)), (qa 34, .inl (cI, 4, .inl u34_104)), (qa 35, .inl (cI, 4, .inl u35_116)), (qa 36, .inl (cI, 4, .inl g36)), (qa 39, .inl (cI, 4, .inl u39_128)), (qa 42, .inl (cI, 4, .inl u42_135)), (qa 47, .inl (cI, 4, .inl g47)), (qa 50, .inl (cJ, 4, .inr (.inl k50_119))), (qa 51, .inl (cZ, 4, .inl k51_119))]) [10, 11, 0, 1, 12, 2, 9, 3, 4, 5, 6, 7, 8, 13, 14] (by decide +kernel) rfl
      have hK9 := hK.sub (tys' := []) [] rfl
      exact W.vret hx hb hr (fun t ht hW => ⟨⟨_, rfl, ⟨u31_31, u32_43, u33_55, u34_104, u35_116, g36, u39_128, u42_135, k51_119, k50_119, rfl, r_u31_31, r_u34_104, r_g36, r_k50_119⟩, by rw [ht]; exact hP9, va_K.moved hW.alike hK9, hD9⟩, hS.F ht⟩) hS.2.2 dX11_comes_136
    refine lv_aload_n hx hb dX11_comes_78 rfl (lv_at hl 3 rfl) ?_
    refine va_get (D := (dC, dI)) (ci := 10) (v := .ref (qa 36)) (C := RX11) (T := TX11) (N := 53) hx hb hts iwX11 hown hK hP 0 rfl rfl 36 (by decide) (hts (.fieldLink RX11 71 "ModulePlayerModel" "target" "[I") (List.mem_cons_of_mem _ kw_192)) (fun _ h9 => h9) rfl dX11_comes_79 ?_
    refine lv_iload_n hx hb dX11_comes_82 rfl (lv_at hl 4 rfl) ?_
    refine lv_aload_n hx hb dX11_comes_83 rfl (lv_at hl 3 rfl) ?_
    refine lv_iload_n hx hb dX11_comes_84 rfl (lv_at hl 4 rfl) ?_
    refine lv_iload hx hb dX11_comes_85 (lv_at hl 0 rfl) ?_
    refine g_calli (wr := [(qa 5, .inl (cI, 32, .inl g5)), (qa 6, .inl (cI, 32, .inl g6)), (qa 7, .inl (cI, 32, .inl g7)), (qa 31, .inl (cI, 4, .inl u31_31)), (qa 32, .inl (cI, 4, .inl u32_43)), (qa 34, .inl (cI, 4, .inl g34)), (qa 35, .inl (cI, 4, .inl g35)), (qa 36, .inl (cI, 4, .inl g36)), (qa 39, .inl (cI, 4, .inl g39)), (qa 42, .inl (cI, 4, .inl g42)), (qa 47, .inl (cI, 4, .inl g47)), (qa 50, .inl (cJ, 4, .inr (.inl g50))), (qa 51, .inl (cZ, 4, .inl g51))]) (va_runV (As := [.int (nI cv), .int tv_18]) (rest := [.int (nI cv), .ref (qa 36)]) ⟨hx, hb, hml, hown, hts⟩ (m_tunedP l dC dI H.size h qa x0 x2 x3 x4 x13 x14 x15 x16 x17 x18 x19 x20 x21 x22 x23 x24 x26 x27 x28 cI u33_55 cv tv_18 (hcv)) (cwV 2 hts (gG_V kw_872 kw_873 kw_874 kw_5 kw_875) rfl rfl rfl (by decide +kernel) ⟨Nat.le_of_ble_eq_true rfl, Nat.le_of_ble_eq_true rfl⟩) (g_preV (C := RX11) (T := TX11) (N := 53) hP hD hK hS hA hN hZ (q0 := 0) rfl rfl [0, 6] (by decide +kernel) rfl [0] rfl) rfl rfl hl.1 rfl (lv_room (Nat.le_of_ble_eq_true rfl)) dX11_comes_87 ⟨Nat.le_of_ble_eq_true rfl, Nat.le_of_ble_eq_true rfl⟩) hP hD hK hS hA [0, 6] [1, 2, 3, 4, 5, 7, 8, 9, 10, 11, 12, 13, 14] rfl rfl (by decide +kernel) (by decide +kernel) (fun r_87 w ty1 H locs hw_87 hP hD _ hS => ?_)
    rcases hw_87 with ⟨hu, hw_87⟩
    cases hu
    have hP : va_P (dC, dI) vwCl [(qa 5, .inl (cI, 32, .inl g5)), (qa 6, .inl (cI, 32, .inl g6)), (qa 7, .inl (cI, 32, .inl g7)), (qa 31, .inl (cI, 4, .inl u31_31)), (qa 32, .inl (cI, 4, .inl u32_43)), (qa 34, .inl (cI, 4, .inl g34)), (qa 35, .inl (cI, 4, .inl g35)), (qa 36, .inl (cI, 4, .inl g36)), (qa 39, .inl (cI, 4, .inl g39)), (qa 42, .inl (cI, 4, .inl g42)), (qa 47, .inl (cI, 4, .inl g47)), (qa 50, .inl (cJ, 4, .inr (.inl g50))), (qa 51, .inl (cZ, 4, .inl g51)), (h, .inr (10, mdF qa x0 x2 x3 x4 x13 x14 x15 x16 x17 x18 x19 x20 x21 x22 x23 x24 x26 x27 x28)), (qa 33, .inl (cI, 4, .inl u33_55))] H := hP
    have hD : va_D A [(qa 5, .inl (cI, 32, .inl g5)), (qa 6, .inl (cI, 32, .inl g6)), (qa 7, .inl (cI, 32, .inl g7)), (qa 31, .inl (cI, 4, .inl u31_31)), (qa 32, .inl (cI, 4, .inl u32_43)), (qa 34, .inl (cI, 4, .inl g34)), (qa 35, .inl (cI, 4, .inl g35)), (qa 36, .inl (cI, 4, .inl g36)), (qa 39, .inl (cI, 4, .inl g39)), (qa 42, .inl (cI, 4, .inl g42)), (qa 47, .inl (cI, 4, .inl g47)), (qa 50, .inl (cJ, 4, .inr (.inl g50))), (qa 51, .inl (cZ, 4, .inl g51)), (h, .inr (10, mdF qa x0 x2 x3 x4 x13 x14 x15 x16 x17 x18 x19 x20 x21 x22 x23 x24 x26 x27 x28)), (qa 33, .inl (cI, 4, .inl u33_55))] := hD
    refine g_iast hx hb hK hP hD hS 7 0 rfl rfl cv (nI_clamp (Nat.lt_trans (show cv < 4 from by omega) (by decide))) (vp_in_nI (by omega) (by decide)) dX11_comes_90 (fun H locs hP hD hS => ?_)
    have hP : va_P (dC, dI) vwCl [(qa 5, .inl (cI, 32, .inl g5)), (qa 6, .inl (cI, 32, .inl g6)), (qa 7, .inl (cI, 32, .inl g7)), (qa 31, .inl (cI, 4, .inl u31_31)), (qa 32, .inl (cI, 4, .inl u32_43)), (qa 34, .inl (cI, 4, .inl g34)), (qa 35, .inl (cI, 4, .inl g35)), (qa 36, .inl (cI, 4, .inl (upd g36 cv r_87))), (qa 39, .inl (cI, 4, .inl g39)), (qa 42, .inl (cI, 4, .inl g42)), (qa 47, .inl (cI, 4, .inl g47)), (qa 50, .inl (cJ, 4, .inr (.inl g50))), (qa 51, .inl (cZ, 4, .inl g51)), (h, .inr (10, mdF qa x0 x2 x3 x4 x13 x14 x15 x16 x17 x18 x19 x20 x21 x22 x23 x24 x26 x27 x28)), (qa 33, .inl (cI, 4, .inl u33_55))] H := hP
    have hD : va_D A [(qa 5, .inl (cI, 32, .inl g5)), (qa 6, .inl (cI, 32, .inl g6)), (qa 7, .inl (cI, 32, .inl g7)), (qa 31, .inl (cI, 4, .inl u31_31)), (qa 32, .inl (cI, 4, .inl u32_43)), (qa 34, .inl (cI, 4, .inl g34)), (qa 35, .inl (cI, 4, .inl g35)), (qa 36, .inl (cI, 4, .inl (upd g36 cv r_87))), (qa 39, .inl (cI, 4, .inl g39)), (qa 42, .inl (cI, 4, .inl g42)), (qa 47, .inl (cI, 4, .inl g47)), (qa 50, .inl (cJ, 4, .inr (.inl g50))), (qa 51, .inl (cZ, 4, .inl g51)), (h, .inr (10, mdF qa x0 x2 x3 x4 x13 x14 x15 x16 x17 x18 x19 x20 x21 x22 x23 x24 x26 x27 x28)), (qa 33, .inl (cI, 4, .inl u33_55))] := hD
    obtain ⟨u36_90, r_u36_90, eu36_90⟩ : ∃ ff : Nat → Int32, rg 4 0 856 ff ∧ ff = upd g36 cv r_87 := ⟨upd g36 cv r_87, rg_upd2 r_g36 (⟨by omega, hw_87.2⟩), rfl⟩
    rw [← eu36_90] at hP hD
    have hP9 := hP.sub (ws' := [(h, .inr (10, mdF qa x0 x2 x3 x4 x13 x14 x15 x16 x17 x18 x19 x20 x21 x22 x23 x24 x26 x27 x28)), (qa 5, .inl (cI, 32, .inl g5)), (qa 6, .inl (cI, 32, .inl g6)), (qa 7, .inl (cI, 32, .inl g7)), (qa 31, .inl (cI, 4, .inl u31_31)), (qa 32, .inl (cI, 4, .inl u32_43)), (qa 33, .inl (cI, 4, .inl u33_55)), (qa 34, .inl (cI, 4, .inl g34)), (qa 35, .inl (cI, 4, .inl g35)), (qa 36, .inl (cI, 4, .inl u36_90)), (qa 39, .inl (cI, 4, .inl g39)), (qa 42, .inl (cI, 4, .inl g42)), (qa 47, .inl (cI, 4, .inl g47)), (qa 50, .inl (cJ, 4, .inr (.inl g50))), (qa 51, .inl (cZ, 4, .inl g51))]) [13, 0, 1, 2, 3, 4, 14, 5, 6, 7, 8, 9, 10, 11, 12] rfl
    have hD9 := hD.sub (ws' := [(h, .inr (10, mdF qa x0 x2 x3 x4 x13 x14 x15 x16 x17 x18 x19 x20 x21 x22 x23 x24 x26 x27 x28)), (qa 5, .inl (cI, 32, .inl g5)), (qa 6, .inl (cI, 32, .inl g6)), (qa 7, .inl (cI, 32, .inl g7)), (qa 31, .inl (cI, 4, .inl u31_31)), (qa 32, .inl (cI, 4, .inl u32_43)), (qa 33, .inl (cI, 4, .inl u33_55)), (qa 34, .inl (cI, 4, .inl g34)), (qa 35, .inl (cI, 4, .inl g35)), (qa 36, .inl (cI, 4, .inl u36_90)), (qa 39, .inl (cI, 4, .inl g39)), (qa 42, .inl (cI, 4, .inl g42)), (qa 47, .inl (cI, 4, .inl g47)), (qa 50, .inl (cJ, 4, .inr (.inl g50))), (qa 51, .inl (cZ, 4, .inl g51))]) [13, 0, 1, 2, 3, 4, 14, 5, 6, 7, 8, 9, 10, 11, 12] (by decide +kernel) rfl
    have hK9 := hK.sub (tys' := []) [] rfl
    exact W.vret hx hb hr (fun t ht hW => ⟨⟨_, rfl, ⟨u31_31, u32_43, u33_55, g34, g35, u36_90, g39, g42, g51, g50, rfl, r_u31_31, r_g34, r_u36_90, r_g50⟩, by rw [ht]; exact hP9, va_K.moved hW.alike hK9, hD9⟩, hS.F ht⟩) hS.2.2 dX11_comes_91
  have hP9 := hP
  have hD9 := hD
  have hK9 := hK.sub (tys' := []) [] rfl
  exact W.vret hx hb hr (fun t ht hW => ⟨⟨_, rfl, ⟨u31_31, u32_43, u33_55, g34, g35, g36, g39, g42, g51, g50, rfl, r_u31_31, r_g34, r_g36, r_g50⟩, by rw [ht]; exact hP9, va_K.moved hW.alike hK9, hD9⟩, hS.F ht⟩) hS.2.2 dX11_comes_61

set_option maxHeartbeats 400000 in
set_option maxRecDepth 100000 in
theorem m_periodBy (l : Launch) (dC : Nat → ClassId) (dI : Nat → Nat → Nat) (sz : Nat) (h : Nat) (qa : Nat → Nat) (x0 x2 x3 x4 x13 x14 x15 x16 x17 x18 x19 x20 x21 x22 x23 x24 x26 x27 x28 : Int32) (cI : ClassId) (g34 : Nat → Int32) (cv : Nat) (dv : Int32) (hcv : cv < 4) (r_g34 : rg 4 0 856 g34) : Met l yX11_periodBy (wsG (.code yX11_periodBy cX11_periodBy 3 none)) ({ frames := 2, cells := 0, slots := 0, locals := 36 }) (va_Pc [.ref h, .int (nI cv), .int dv] (gP (dC, dI) [(cI, .int)] [(h, .inr (10, mdF qa x0 x2 x3 x4 x13 x14 x15 x16 x17 x18 x19 x20 x21 x22 x23 x24 x26 x27 x28)), (qa 34, .inl (cI, 4, .inl g34))] sz)) (va_Qv (fun u : va_W × gT => ∃ (k34 : Nat → Int32), u = ([(h, .inr (10, mdF qa x0 x2 x3 x4 x13 x14 x15 x16 x17 x18 x19 x20 x21 x22 x23 x24 x26 x27 x28)), (qa 34, .inl (cI, 4, .inl k34))], []) ∧ rg 4 0 856 k34) (gB (dC, dI) (va_A [(h, .inr (10, mdF qa x0 x2 x3 x4 x13 x14 x15 x16 x17 x18 x19 x20 x21 x22 x23 x24 x26 x27 x28)), (qa 34, .inl (cI, 4, .inl g34))] sz)) (va_A [(h, .inr (10, mdF qa x0 x2 x3 x4 x13 x14 x15 x16 x17 x18 x19 x20 x21 x22 x23 x24 x26 x27 x28)), (qa 34, .inl (cI, 4, .inl g34))] sz)) 0 0 (va_A [(h, .inr (10, mdF qa x0 x2 x3 x4 x13 x14 x15 x16 x17 x18 x19 x20 x21 x22 x23 x24 x26 x27 x28)), (qa 34, .inl (cI, 4, .inl g34))] sz) := by
  refine Met.ofW (cc := cX11_periodBy) (maxL := 3) (ret := none) (by decide) rfl ?_
  intro p e s m args below meth c s₁ B hml hv
  obtain ⟨rfl, hsz, hP, hK, hD0, hN, hZ⟩ := hv
  have hx := B.exec
  have hb := B.bytes
  have hr := B.returns
  have hts := atoms_spec (ws := (wsG (.code yX11_periodBy cX11_periodBy 3 none))) B.pre
  have hown : s.vm.findClass RX11 = some m.cls := findClass_of_methodNamed B.named
  have hlocks := B.notSynchronized
  subst hsz
  have hD := hD0.self (sz := s.heap.size)
  generalize hAe : va_A [(h, .inr (10, mdF qa x0 x2 x3 x4 x13 x14 x15 x16 x17 x18 x19 x20 x21 x22 x23 x24 x26 x27 x28)), (qa 34, .inl (cI, 4, .inl g34))] s.heap.size = A at hD hZ ⊢
  have hA : ∀ q : Nat, s.heap.size ≤ q → A q := fun q h => by rw [← hAe]; exact Or.inr h
  have hl := lv_entry ([.ref h, .int (nI cv), .int dv]) (n := 3) (Nat.le_of_ble_eq_true rfl)
  rw [lg_entry_eq]
  generalize (lg_sl ([.ref h, .int (nI cv), .int dv]) ++ List.replicate (3 - (lg_sl ([.ref h, .int (nI cv), .int dv])).length) Slot.unset).toArray = ls at hl ⊢
  have hl : lv_has ls 3 [(0, .ref h), (1, .int (nI cv)), (2, .int dv)] := hl
  refine g_start (A := A) hP (fun H locs hP hS => ?_)
  refine lv_aload_n hx hb dX11_periodBy_0 rfl (lv_at hl 0 rfl) ?_
  refine va_get (D := (dC, dI)) (ci := 10) (v := .ref (qa 34)) (C := RX11) (T := TX11) (N := 53) hx hb hts iwX11 hown hK hP 0 rfl rfl 34 (by decide) (hts (.fieldLink RX11 65 "ModulePlayerModel" "period" "[I") (List.mem_cons_of_mem _ kw_190)) (fun _ h9 => h9) rfl dX11_periodBy_1 ?_
  refine lv_iload_n hx hb dX11_periodBy_4 rfl (lv_at hl 1 rfl) ?_
  refine g_iald hx hb hK hP 1 0 rfl rfl cv (nI_clamp (Nat.lt_trans (show cv < 4 from by omega) (by decide))) (vp_in_nI (by omega) (by decide)) dX11_periodBy_5 ?_
  obtain ⟨jn_5, hjn_5, ejn_5⟩ := rg_nat (kx := cv) (mx := 856) r_g34 (by omega) rfl
  refine g_topi (y := nI jn_5) ejn_5 ?_
  refine lv_if_eq (tgt := 31) hx hb dX11_periodBy_6 (by decide) (fun c_6 => ?_) (fun c_6 => ?_)
  · have hP9 := hP
    have hD9 := hD
    have hK9 := hK.sub (tys' := []) [] rfl
    exact W.vret hx hb hr (fun t ht hW => ⟨⟨_, rfl, ⟨g34, rfl, r_g34⟩, by rw [ht]; exact hP9, va_K.moved hW.alike hK9, hD9⟩, hS.F ht⟩) hS.2.2 dX11_periodBy_31
  refine lv_aload_n hx hb dX11_periodBy_9 rfl (lv_at hl 0 rfl) ?_
  refine va_get (D := (dC, dI)) (ci := 10) (v := .ref (qa 34)) (C := RX11) (T := TX11) (N := 53) hx hb hts iwX11 hown hK hP 0 rfl rfl 34 (by decide) (hts (.fieldLink RX11 65 "ModulePlayerModel" "period" "[I") (List.mem_cons_of_mem _ kw_190)) (fun _ h9 => h9) rfl dX11_periodBy_10 ?_
  refine lv_iload_n hx hb dX11_periodBy_13 rfl (lv_at hl 1 rfl) ?_
  refine lv_aload_n hx hb dX11_periodBy_14 rfl (lv_at hl 0 rfl) ?_
  refine va_get (D := (dC, dI)) (ci := 10) (v := .ref (qa 34)) (C := RX11) (T := TX11) (N := 53) hx hb hts iwX11 hown hK hP 0 rfl rfl 34 (by decide) (hts (.fieldLink RX11 65 "ModulePlayerModel" "period" "[I") (List.mem_cons_of_mem _ kw_190)) (fun _ h9 => h9) rfl dX11_periodBy_15 ?_
  refine lv_iload_n hx hb dX11_periodBy_18 rfl (lv_at hl 1 rfl) ?_
  refine g_iald hx hb hK hP 1 0 rfl rfl cv (nI_clamp (Nat.lt_trans (show cv < 4 from by omega) (by decide))) (vp_in_nI (by omega) (by decide)) dX11_periodBy_19 ?_
  obtain ⟨jn_19, hjn_19, ejn_19⟩ := rg_nat (kx := cv) (mx := 856) r_g34 (by omega) rfl
  refine g_topi (y := nI jn_19) ejn_19 ?_
  refine lv_iload_n hx hb dX11_periodBy_20 rfl (lv_at hl 2 rfl) ?_
  refine lv_iadd hx hb dX11_periodBy_21 ?_
  refine lv_topi (fun tv_21 etv_21 => ?_)
  refine lv_bipush (v := 113) hx hb dX11_periodBy_22 (by decide) ?_
  refine lv_sipush (v := 856) hx hb dX11_periodBy_24 (by decide) ?_
  refine g_calli (wr := [(h, .inr (10, mdF qa x0 x2 x3 x4 x13 x14 x15 x16 x17 x18 x19 x20 x21 x22 x23 x24 x26 x27 x28)), (qa 34, .inl (cI, 4, .inl g34))]) (va_runS (As := [.int tv_21, .int 113, .int 856]) (rest := [.int (nI cv), .ref (qa 34)]) ⟨hx, hb, hml, hown, hts⟩ (m_within l dC dI H.size tv_21 113 856 ) (va_cwS 3 hts (gG_S kw_876 kw_877 kw_5 kw_878) rfl rfl rfl (by decide +kernel) ⟨Nat.le_of_ble_eq_true rfl, Nat.le_of_ble_eq_true rfl⟩) (g_preS hP hD hK hS hA hN hZ [] (by decide) rfl [] rfl) rfl rfl hl.1 rfl (lv_room (Nat.le_of_ble_eq_true rfl)) dX11_periodBy_27 ⟨Nat.le_of_ble_eq_true rfl, Nat.le_of_ble_eq_true rfl⟩) hP hD hK hS hA [] [0, 1] rfl rfl (by decide +kernel) (by decide +kernel) (fun r_27 w ty1 H locs hw_27 hP hD _ hS => ?_)
  rcases hw_27 with ⟨hu, hw_27⟩
  cases hu
  have hP : va_P (dC, dI) vwCl [(h, .inr (10, mdF qa x0 x2 x3 x4 x13 x14 x15 x16 x17 x18 x19 x20 x21 x22 x23 x24 x26 x27 x28)), (qa 34, .inl (cI, 4, .inl g34))] H := hP
  have hD : va_D A [(h, .inr (10, mdF qa x0 x2 x3 x4 x13 x14 x15 x16 x17 x18 x19 x20 x21 x22 x23 x24 x26 x27 x28)), (qa 34, .inl (cI, 4, .inl g34))] := hD
  refine g_iast hx hb hK hP hD hS 1 0 rfl rfl cv (nI_clamp (Nat.lt_trans (show cv < 4 from by omega) (by decide))) (vp_in_nI (by omega) (by decide)) dX11_periodBy_30 (fun H locs hP hD hS => ?_)
  have hP : va_P (dC, dI) vwCl [(h, .inr (10, mdF qa x0 x2 x3 x4 x13 x14 x15 x16 x17 x18 x19 x20 x21 x22 x23 x24 x26 x27 x28)), (qa 34, .inl (cI, 4, .inl (upd g34 cv r_27)))] H := hP
  have hD : va_D A [(h, .inr (10, mdF qa x0 x2 x3 x4 x13 x14 x15 x16 x17 x18 x19 x20 x21 x22 x23 x24 x26 x27 x28)), (qa 34, .inl (cI, 4, .inl (upd g34 cv r_27)))] := hD
  obtain ⟨u34_30, r_u34_30, eu34_30⟩ : ∃ ff : Nat → Int32, rg 4 0 856 ff ∧ ff = upd g34 cv r_27 := ⟨upd g34 cv r_27, rg_upd2 r_g34 (wthn_p0 hw_27), rfl⟩
  rw [← eu34_30] at hP hD
  have hP9 := hP
  have hD9 := hD
  have hK9 := hK.sub (tys' := []) [] rfl
  exact W.vret hx hb hr (fun t ht hW => ⟨⟨_, rfl, ⟨u34_30, rfl, r_u34_30⟩, by rw [ht]; exact hP9, va_K.moved hW.alike hK9, hD9⟩, hS.F ht⟩) hS.2.2 dX11_periodBy_31

set_option maxHeartbeats 400000 in
set_option maxRecDepth 100000 in
theorem m_volumeBy (l : Launch) (dC : Nat → ClassId) (dI : Nat → Nat → Nat) (sz : Nat) (h : Nat) (qa : Nat → Nat) (x0 x2 x3 x4 x13 x14 x15 x16 x17 x18 x19 x20 x21 x22 x23 x24 x26 x27 x28 : Int32) (cI : ClassId) (g32 : Nat → Int32) (cv : Nat) (dv : Int32) (hcv : cv < 4) : Met l yX11_volumeBy (wsG (.code yX11_volumeBy cX11_volumeBy 3 none)) ({ frames := 2, cells := 0, slots := 0, locals := 36 }) (va_Pc [.ref h, .int (nI cv), .int dv] (gP (dC, dI) [(cI, .int)] [(h, .inr (10, mdF qa x0 x2 x3 x4 x13 x14 x15 x16 x17 x18 x19 x20 x21 x22 x23 x24 x26 x27 x28)), (qa 32, .inl (cI, 4, .inl g32))] sz)) (va_Qv (fun u : va_W × gT => ∃ (k32 : Nat → Int32), u = ([(h, .inr (10, mdF qa x0 x2 x3 x4 x13 x14 x15 x16 x17 x18 x19 x20 x21 x22 x23 x24 x26 x27 x28)), (qa 32, .inl (cI, 4, .inl k32))], [])) (gB (dC, dI) (va_A [(h, .inr (10, mdF qa x0 x2 x3 x4 x13 x14 x15 x16 x17 x18 x19 x20 x21 x22 x23 x24 x26 x27 x28)), (qa 32, .inl (cI, 4, .inl g32))] sz)) (va_A [(h, .inr (10, mdF qa x0 x2 x3 x4 x13 x14 x15 x16 x17 x18 x19 x20 x21 x22 x23 x24 x26 x27 x28)), (qa 32, .inl (cI, 4, .inl g32))] sz)) 0 0 (va_A [(h, .inr (10, mdF qa x0 x2 x3 x4 x13 x14 x15 x16 x17 x18 x19 x20 x21 x22 x23 x24 x26 x27 x28)), (qa 32, .inl (cI, 4, .inl g32))] sz) := by
  refine Met.ofW (cc := cX11_volumeBy) (maxL := 3) (ret := none) (by decide) rfl ?_
  intro p e s m args below meth c s₁ B hml hv
  obtain ⟨rfl, hsz, hP, hK, hD0, hN, hZ⟩ := hv
  have hx := B.exec
  have hb := B.bytes
  have hr := B.returns
  have hts := atoms_spec (ws := (wsG (.code yX11_volumeBy cX11_volumeBy 3 none))) B.pre
  have hown : s.vm.findClass RX11 = some m.cls := findClass_of_methodNamed B.named
  have hlocks := B.notSynchronized
  subst hsz
  have hD := hD0.self (sz := s.heap.size)
  generalize hAe : va_A [(h, .inr (10, mdF qa x0 x2 x3 x4 x13 x14 x15 x16 x17 x18 x19 x20 x21 x22 x23 x24 x26 x27 x28)), (qa 32, .inl (cI, 4, .inl g32))] s.heap.size = A at hD hZ ⊢
  have hA : ∀ q : Nat, s.heap.size ≤ q → A q := fun q h => by rw [← hAe]; exact Or.inr h
  have hl := lv_entry ([.ref h, .int (nI cv), .int dv]) (n := 3) (Nat.le_of_ble_eq_true rfl)
  rw [lg_entry_eq]
  generalize (lg_sl ([.ref h, .int (nI cv), .int dv]) ++ List.replicate (3 - (lg_sl ([.ref h, .int (nI cv), .int dv])).length) Slot.unset).toArray = ls at hl ⊢
  have hl : lv_has ls 3 [(0, .ref h), (1, .int (nI cv)), (2, .int dv)] := hl
  refine g_start (A := A) hP (fun H locs hP hS => ?_)
  refine lv_aload_n hx hb dX11_volumeBy_0 rfl (lv_at hl 0 rfl) ?_
  refine va_get (D := (dC, dI)) (ci := 10) (v := .ref (qa 32)) (C := RX11) (T := TX11) (N := 53) hx hb hts iwX11 hown hK hP 0 rfl rfl 32 (by decide) (hts (.fieldLink RX11 59 "ModulePlayerModel" "volume" "[I") (List.mem_cons_of_mem _ kw_188)) (fun _ h9 => h9) rfl dX11_volumeBy_1 ?_
  refine lv_iload_n hx hb dX11_volumeBy_4 rfl (lv_at hl 1 rfl) ?_
  refine lv_aload_n hx hb dX11_volumeBy_5 rfl (lv_at hl 0 rfl) ?_
  refine va_get (D := (dC, dI)) (ci := 10) (v := .ref (qa 32)) (C := RX11) (T := TX11) (N := 53) hx hb hts iwX11 hown hK hP 0 rfl rfl 32 (by decide) (hts (.fieldLink RX11 59 "ModulePlayerModel" "volume" "[I") (List.mem_cons_of_mem _ kw_188)) (fun _ h9 => h9) rfl dX11_volumeBy_6 ?_
  refine lv_iload_n hx hb dX11_volumeBy_9 rfl (lv_at hl 1 rfl) ?_
  refine g_iald hx hb hK hP 1 0 rfl rfl cv (nI_clamp (Nat.lt_trans (show cv < 4 from by omega) (by decide))) (vp_in_nI (by omega) (by decide)) dX11_volumeBy_10 ?_
  refine lv_topi (fun tv_10 etv_10 => ?_)
  refine lv_iload_n hx hb dX11_volumeBy_11 rfl (lv_at hl 2 rfl) ?_
  refine lv_iadd hx hb dX11_volumeBy_12 ?_
  refine lv_topi (fun tv_12 etv_12 => ?_)
  refine lv_iconst (v := 0) hx hb dX11_volumeBy_13 (by decide) ?_
  refine lv_bipush (v := 64) hx hb dX11_volumeBy_14 (by decide) ?_
  refine g_calli (wr := [(h, .inr (10, mdF qa x0 x2 x3 x4 x13 x14 x15 x16 x17 x18 x19 x20 x21 x22 x23 x24 x26 x27 x28)), (qa 32, .inl (cI, 4, .inl g32))]) (va_runS (As := [.int tv_12, .int 0, .int 64]) (rest := [.int (nI cv), .ref (qa 32)]) ⟨hx, hb, hml, hown, hts⟩ (m_within l dC dI H.size tv_12 0 64 ) (va_cwS 3 hts (gG_S kw_876 kw_877 kw_5 kw_878) rfl rfl rfl (by decide +kernel) ⟨Nat.le_of_ble_eq_true rfl, Nat.le_of_ble_eq_true rfl⟩) (g_preS hP hD hK hS hA hN hZ [] (by decide) rfl [] rfl) rfl rfl hl.1 rfl (lv_room (Nat.le_of_ble_eq_true rfl)) dX11_volumeBy_16 ⟨Nat.le_of_ble_eq_true rfl, Nat.le_of_ble_eq_true rfl⟩) hP hD hK hS hA [] [0, 1] rfl rfl (by decide +kernel) (by decide +kernel) (fun r_16 w ty1 H locs hw_16 hP hD _ hS => ?_)
  rcases hw_16 with ⟨hu, hw_16⟩
  cases hu
  have hP : va_P (dC, dI) vwCl [(h, .inr (10, mdF qa x0 x2 x3 x4 x13 x14 x15 x16 x17 x18 x19 x20 x21 x22 x23 x24 x26 x27 x28)), (qa 32, .inl (cI, 4, .inl g32))] H := hP
  have hD : va_D A [(h, .inr (10, mdF qa x0 x2 x3 x4 x13 x14 x15 x16 x17 x18 x19 x20 x21 x22 x23 x24 x26 x27 x28)), (qa 32, .inl (cI, 4, .inl g32))] := hD
  refine g_iast hx hb hK hP hD hS 1 0 rfl rfl cv (nI_clamp (Nat.lt_trans (show cv < 4 from by omega) (by decide))) (vp_in_nI (by omega) (by decide)) dX11_volumeBy_19 (fun H locs hP hD hS => ?_)
  have hP : va_P (dC, dI) vwCl [(h, .inr (10, mdF qa x0 x2 x3 x4 x13 x14 x15 x16 x17 x18 x19 x20 x21 x22 x23 x24 x26 x27 x28)), (qa 32, .inl (cI, 4, .inl (upd g32 cv r_16)))] H := hP
  have hD : va_D A [(h, .inr (10, mdF qa x0 x2 x3 x4 x13 x14 x15 x16 x17 x18 x19 x20 x21 x22 x23 x24 x26 x27 x28)), (qa 32, .inl (cI, 4, .inl (upd g32 cv r_16)))] := hD
  generalize upd g32 cv r_16 = u32_19 at hP hD
  have hP9 := hP
  have hD9 := hD
  have hK9 := hK.sub (tys' := []) [] rfl
  exact W.vret hx hb hr (fun t ht hW => ⟨⟨_, rfl, ⟨u32_19, rfl⟩, by rw [ht]; exact hP9, va_K.moved hW.alike hK9, hD9⟩, hS.F ht⟩) hS.2.2 dX11_volumeBy_20

set_option maxHeartbeats 400000 in
set_option maxRecDepth 100000 in
theorem m_firstE (l : Launch) (dC : Nat → ClassId) (dI : Nat → Nat → Nat) (sz : Nat) (h : Nat) (qa : Nat → Nat) (x0 x2 x3 x4 x13 x14 x15 x16 x17 x18 x19 x20 x21 x22 x23 x24 x26 x27 x28 : Int32) (cI : ClassId) (g32 g33 g34 g40 g43 g45 g46 : Nat → Int32) (cv : Nat) (wv nv : Int32) (hcv : cv < 4) (r_g34 : rg 4 0 856 g34) (r_g45 : rg 4 0 63 g45) (h_x18 : rg1 0 63 x18) (h_x28 : stp x28) : Met l yX11_firstE (wsG (.code yX11_firstE cX11_firstE 4 none)) ({ frames := 3, cells := 0, slots := 0, locals := 58 }) (va_Pc [.ref h, .int (nI cv), .int wv, .int nv] (gP (dC, dI) [(cI, .int)] [(h, .inr (10, mdF qa x0 x2 x3 x4 x13 x14 x15 x16 x17 x18 x19 x20 x21 x22 x23 x24 x26 x27 x28)), (qa 32, .inl (cI, 4, .inl g32)), (qa 33, .inl (cI, 4, .inl g33)), (qa 34, .inl (cI, 4, .inl g34)), (qa 40, .inl (cI, 4, .inl g40)), (qa 43, .inl (cI, 4, .inl g43)), (qa 45, .inl (cI, 4, .inl g45)), (qa 46, .inl (cI, 4, .inl g46))] sz)) (va_Qv (fun u : va_W × gT => ∃ (y20 : Int32) (y28 : Int32) (k32 : Nat → Int32) (k33 : Nat → Int32) (k34 : Nat → Int32) (k40 : Nat → Int32) (k43 : Nat → Int32) (k45 : Nat → Int32) (k46 : Nat → Int32), u = ([(h, .inr (10, mdF qa x0 x2 x3 x4 x13 x14 x15 x16 x17 x18 x19 y20 x21 x22 x23 x24 x26 x27 y28)), (qa 32, .inl (cI, 4, .inl k32)), (qa 33, .inl (cI, 4, .inl k33)), (qa 34, .inl (cI, 4, .inl k34)), (qa 40, .inl (cI, 4, .inl k40)), (qa 43, .inl (cI, 4, .inl k43)), (qa 45, .inl (cI, 4, .inl k45)), (qa 46, .inl (cI, 4, .inl k46))], []) ∧ rg 4 0 856 k34 ∧ rg 4 0 63 k45 ∧ stp y28) (gB (dC, dI) (va_A [(h, .inr (10, mdF qa x0 x2 x3 x4 x13 x14 x15 x16 x17 x18 x19 x20 x21 x22 x23 x24 x26 x27 x28)), (qa 32, .inl (cI, 4, .inl g32)), (qa 33, .inl (cI, 4, .inl g33)), (qa 34, .inl (cI, 4, .inl g34)), (qa 40, .inl (cI, 4, .inl g40)), (qa 43, .inl (cI, 4, .inl g43)), (qa 45, .inl (cI, 4, .inl g45)), (qa 46, .inl (cI, 4, .inl g46))] sz)) (va_A [(h, .inr (10, mdF qa x0 x2 x3 x4 x13 x14 x15 x16 x17 x18 x19 x20 x21 x22 x23 x24 x26 x27 x28)), (qa 32, .inl (cI, 4, .inl g32)), (qa 33, .inl (cI, 4, .inl g33)), (qa 34, .inl (cI, 4, .inl g34)), (qa 40, .inl (cI, 4, .inl g40)), (qa 43, .inl (cI, 4, .inl g43)), (qa 45, .inl (cI, 4, .inl g45)), (qa 46, .inl (cI, 4, .inl g46))] sz)) 0 0 (va_A [(h, .inr (10, mdF qa x0 x2 x3 x4 x13 x14 x15 x16 x17 x18 x19 x20 x21 x22 x23 x24 x26 x27 x28)), (qa 32, .inl (cI, 4, .inl g32)), (qa 33, .inl (cI, 4, .inl g33)), (qa 34, .inl (cI, 4, .inl g34)), (qa 40, .inl (cI, 4, .inl g40)), (qa 43, .inl (cI, 4, .inl g43)), (qa 45, .inl (cI, 4, .inl g45)), (qa 46, .inl (cI, 4, .inl g46))] sz) := by
  refine Met.ofW (cc := cX11_firstE) (maxL := 4) (ret := none) (by decide) rfl ?_
  intro p e s m args below meth c s₁ B hml hv
  obtain ⟨rfl, hsz, hP, hK, hD0, hN, hZ⟩ := hv
  have hx := B.exec
  have hb := B.bytes
  have hr := B.returns
  have hts := atoms_spec (ws := (wsG (.code yX11_firstE cX11_firstE 4 none))) B.pre
  have hown : s.vm.findClass RX11 = some m.cls := findClass_of_methodNamed B.named
  have hlocks := B.notSynchronized
  subst hsz
  have hD := hD0.self (sz := s.heap.size)
  generalize hAe : va_A [(h, .inr (10, mdF qa x0 x2 x3 x4 x13 x14 x15 x16 x17 x18 x19 x20 x21 x22 x23 x24 x26 x27 x28)), (qa 32, .inl (cI, 4, .inl g32)), (qa 33, .inl (cI, 4, .inl g33)), (qa 34, .inl (cI, 4, .inl g34)), (qa 40, .inl (cI, 4, .inl g40)), (qa 43, .inl (cI, 4, .inl g43)), (qa 45, .inl (cI, 4, .inl g45)), (qa 46, .inl (cI, 4, .inl g46))] s.heap.size = A at hD hZ ⊢
  have hA : ∀ q : Nat, s.heap.size ≤ q → A q := fun q h => by rw [← hAe]; exact Or.inr h
  have hl := lv_entry ([.ref h, .int (nI cv), .int wv, .int nv]) (n := 4) (Nat.le_of_ble_eq_true rfl)
  rw [lg_entry_eq]
  generalize (lg_sl ([.ref h, .int (nI cv), .int wv, .int nv]) ++ List.replicate (4 - (lg_sl ([.ref h, .int (nI cv), .int wv, .int nv])).length) Slot.unset).toArray = ls at hl ⊢
  have hl : lv_has ls 4 [(0, .ref h), (1, .int (nI cv)), (2, .int wv), (3, .int nv)] := hl
  refine g_start (A := A) hP (fun H locs hP hS => ?_)
  refine lv_iload_n hx hb dX11_firstE_0 rfl (lv_at hl 2 rfl) ?_
  by_cases hlo_1 : wv.toInt < 1
  · refine lv_tableOut (tgt := 231) hx hb dX11_firstE_1 (Or.inl hlo_1) (by decide) ?_
    have hP9 := hP
    have hD9 := hD
    have hK9 := hK.sub (tys' := []) [] rfl
    exact W.vret hx hb hr (fun t ht hW => ⟨⟨_, rfl, ⟨x20, x28, g32, g33, g34, g40, g43, g45, g46, rfl, r_g34, r_g45, h_x28⟩, by rw [ht]; exact hP9, va_K.moved hW.alike hK9, hD9⟩, hS.F ht⟩) hS.2.2 dX11_firstE_231
  by_cases hhi_1 : 14 < wv.toInt
  · refine lv_tableOut (tgt := 231) hx hb dX11_firstE_1 (Or.inr hhi_1) (by decide) ?_
    have hP9 := hP
    have hD9 := hD
    have hK9 := hK.sub (tys' := []) [] rfl
    exact W.vret hx hb hr (fun t ht hW => ⟨⟨_, rfl, ⟨x20, x28, g32, g33, g34, g40, g43, g45, g46, rfl, r_g34, r_g45, h_x28⟩, by rw [ht]; exact hP9, va_K.moved hW.alike hK9, hD9⟩, hS.F ht⟩) hS.2.2 dX11_firstE_231
  have hsw_1 : wv = 1 ∨ wv = 2 ∨ wv = 3 ∨ wv = 4 ∨ wv = 5 ∨ wv = 6 ∨ wv = 7 ∨ wv = 8 ∨ wv = 9 ∨ wv = 10 ∨ wv = 11 ∨ wv = 12 ∨ wv = 13 ∨ wv = 14 := by
    have h1 : wv.toInt = 1 ∨ wv.toInt = 2 ∨ wv.toInt = 3 ∨ wv.toInt = 4 ∨ wv.toInt = 5 ∨ wv.toInt = 6 ∨ wv.toInt = 7 ∨ wv.toInt = 8 ∨ wv.toInt = 9 ∨ wv.toInt = 10 ∨ wv.toInt = 11 ∨ wv.toInt = 12 ∨ wv.toInt = 13 ∨ wv.toInt = 14 := by omega
    rcases h1 with h1 | h1 | h1 | h1 | h1 | h1 | h1 | h1 | h1 | h1 | h1 | h1 | h1 | h1 <;> simp only [i_eq, h1] <;> decide
  rcases hsw_1 with hq | hq | hq | hq | hq | hq | hq | hq | hq | hq | hq | hq | hq | hq
  · refine lv_tableIn (off := 71) (tgt := 72) hx hb dX11_firstE_1 (by rw [hq]; decide) (by rw [hq]; decide) (by rw [hq]; decide) (by decide) ?_
    refine lv_aload_n hx hb dX11_firstE_72 rfl (lv_at hl 0 rfl) ?_
    refine lv_iload_n hx hb dX11_firstE_73 rfl (lv_at hl 1 rfl) ?_
    refine lv_iload_n hx hb dX11_firstE_74 rfl (lv_at hl 3 rfl) ?_
    refine lv_ineg hx hb dX11_firstE_75 ?_
    refine lv_topi (fun tv_75 etv_75 => ?_)
    refine g_callv (wr := [(qa 32, .inl (cI, 4, .inl g32)), (qa 33, .inl (cI, 4, .inl g33)), (qa 40, .inl (cI, 4, .inl g40)), (qa 43, .inl (cI, 4, .inl g43)), (qa 45, .inl (cI, 4, .inl g45)), (qa 46, .inl (cI, 4, .inl g46))]) (va_runV (As := [.int (nI cv), .int tv_75]) (rest := []) ⟨hx, hb, hml, hown, hts⟩ (m_periodBy l dC dI H.size h qa x0 x2 x3 x4 x13 x14 x15 x16 x17 x18 x19 x20 x21 x22 x23 x24 x26 x27 x28 cI g34 cv tv_75 (hcv) (r_g34)) (cwV 2 hts (gG_V kw_895 kw_896 kw_897 kw_5 kw_898) rfl rfl rfl (by decide +kernel) ⟨Nat.le_of_ble_eq_true rfl, Nat.le_of_ble_eq_true rfl⟩) (g_preV (C := RX11) (T := TX11) (N := 53) hP hD hK hS hA hN hZ (q0 := 0) rfl rfl [0, 3] (by decide +kernel) rfl [0] rfl) rfl rfl hl.1 rfl (lv_room (Nat.le_of_ble_eq_true rfl)) dX11_firstE_76 ⟨Nat.le_of_ble_eq_true rfl, Nat.le_of_ble_eq_true rfl⟩) hP hD hK hS hA [0, 3] [1, 2, 4, 5, 6, 7] rfl rfl (by decide +kernel) (by decide +kernel) (fun w ty1 H locs hw_76 hP hD _ hS => ?_)
    rcases hw_76 with ⟨k34_76, hu, r_k34_76⟩
    cases hu
    have hP : va_P (dC, dI) vwCl [(qa 32, .inl (cI, 4, .inl g32)), (qa 33, .inl (cI, 4, .inl g33)), (qa 40, .inl (cI, 4, .inl g40)), (qa 43, .inl (cI, 4, .inl g43)), (qa 45, .inl (cI, 4, .inl g45)), (qa 46, .inl (cI, 4, .inl g46)), (h, .inr (10, mdF qa x0 x2 x3 x4 x13 x14 x15 x16 x17 x18 x19 x20 x21 x22 x23 x24 x26 x27 x28)), (qa 34, .inl (cI, 4, .inl k34_76))] H := hP
    have hD : va_D A [(qa 32, .inl (cI, 4, .inl g32)), (qa 33, .inl (cI, 4, .inl g33)), (qa 40, .inl (cI, 4, .inl g40)), (qa 43, .inl (cI, 4, .inl g43)), (qa 45, .inl (cI, 4, .inl g45)), (qa 46, .inl (cI, 4, .inl g46)), (h, .inr (10, mdF qa x0 x2 x3 x4 x13 x14 x15 x16 x17 x18 x19 x20 x21 x22 x23 x24 x26 x27 x28)), (qa 34, .inl (cI, 4, .inl k34_76))] := hD
    refine lv_goto (tgt := 231) hx hb dX11_firstE_79 (by decide) ?_
    have hP9 := hP.sub (ws' := [(h, .inr (10, mdF qa x0 x2 x3 x4 x13 x14 x15 x16 x17 x18 x19 x20 x21 x22 x23 x24 x26 x27 x28)), (qa 32, .inl (cI, 4, .inl g32)), (qa 33, .inl (cI, 4, .inl g33)), (qa 34, .inl (cI, 4, .inl k34_76)), (qa 40, .inl (cI, 4, .inl g40)), (qa 43, .inl (cI, 4, .inl g43)), (qa 45, .inl (cI, 4, .inl g45)), (qa 46, .inl (cI, 4, .inl g46))]) [6, 0, 1, 7, 2, 3, 4, 5] rfl
    have hD9 := hD.sub (ws' := [(h, .inr (10, mdF qa x0 x2 x3 x4 x13 x14 x15 x16 x17 x18 x19 x20 x21 x22 x23 x24 x26 x27 x28)), (qa 32, .inl (cI, 4, .inl g32)), (qa 33, .inl (cI, 4, .inl g33)), (qa 34, .inl (cI, 4, .inl k34_76)), (qa 40, .inl (cI, 4, .inl g40)), (qa 43, .inl (cI, 4, .inl g43)), (qa 45, .inl (cI, 4, .inl g45)), (qa 46, .inl (cI, 4, .inl g46))]) [6, 0, 1, 7, 2, 3, 4, 5] (by decide +kernel) rfl
    have hK9 := hK.sub (tys' := []) [] rfl
    exact W.vret hx hb hr (fun t ht hW => ⟨⟨_, rfl, ⟨x20, x28, g32, g33, k34_76, g40, g43, g45, g46, rfl, r_k34_76, r_g45, h_x28⟩, by rw [ht]; exact hP9, va_K.moved hW.alike hK9, hD9⟩, hS.F ht⟩) hS.2.2 dX11_firstE_231
  · refine lv_tableIn (off := 81) (tgt := 82) hx hb dX11_firstE_1 (by rw [hq]; decide) (by rw [hq]; decide) (by rw [hq]; decide) (by decide) ?_
    refine lv_aload_n hx hb dX11_firstE_82 rfl (lv_at hl 0 rfl) ?_
    refine lv_iload_n hx hb dX11_firstE_83 rfl (lv_at hl 1 rfl) ?_
    refine lv_iload_n hx hb dX11_firstE_84 rfl (lv_at hl 3 rfl) ?_
    refine g_callv (wr := [(qa 32, .inl (cI, 4, .inl g32)), (qa 33, .inl (cI, 4, .inl g33)), (qa 40, .inl (cI, 4, .inl g40)), (qa 43, .inl (cI, 4, .inl g43)), (qa 45, .inl (cI, 4, .inl g45)), (qa 46, .inl (cI, 4, .inl g46))]) (va_runV (As := [.int (nI cv), .int nv]) (rest := []) ⟨hx, hb, hml, hown, hts⟩ (m_periodBy l dC dI H.size h qa x0 x2 x3 x4 x13 x14 x15 x16 x17 x18 x19 x20 x21 x22 x23 x24 x26 x27 x28 cI g34 cv nv (hcv) (r_g34)) (cwV 2 hts (gG_V kw_895 kw_896 kw_897 kw_5 kw_898) rfl rfl rfl (by decide +kernel) ⟨Nat.le_of_ble_eq_true rfl, Nat.le_of_ble_eq_true rfl⟩) (g_preV (C := RX11) (T := TX11) (N := 53) hP hD hK hS hA hN hZ (q0 := 0) rfl rfl [0, 3] (by decide +kernel) rfl [0] rfl) rfl rfl hl.1 rfl (lv_room (Nat.le_of_ble_eq_true rfl)) dX11_firstE_85 ⟨Nat.le_of_ble_eq_true rfl, Nat.le_of_ble_eq_true rfl⟩) hP hD hK hS hA [0, 3] [1, 2, 4, 5, 6, 7] rfl rfl (by decide +kernel) (by decide +kernel) (fun w ty1 H locs hw_85 hP hD _ hS => ?_)
    rcases hw_85 with ⟨k34_85, hu, r_k34_85⟩
    cases hu
    have hP : va_P (dC, dI) vwCl [(qa 32, .inl (cI, 4, .inl g32)), (qa 33, .inl (cI, 4, .inl g33)), (qa 40, .inl (cI, 4, .inl g40)), (qa 43, .inl (cI, 4, .inl g43)), (qa 45, .inl (cI, 4, .inl g45)), (qa 46, .inl (cI, 4, .inl g46)), (h, .inr (10, mdF qa x0 x2 x3 x4 x13 x14 x15 x16 x17 x18 x19 x20 x21 x22 x23 x24 x26 x27 x28)), (qa 34, .inl (cI, 4, .inl k34_85))] H := hP
    have hD : va_D A [(qa 32, .inl (cI, 4, .inl g32)), (qa 33, .inl (cI, 4, .inl g33)), (qa 40, .inl (cI, 4, .inl g40)), (qa 43, .inl (cI, 4, .inl g43)), (qa 45, .inl (cI, 4, .inl g45)), (qa 46, .inl (cI, 4, .inl g46)), (h, .inr (10, mdF qa x0 x2 x3 x4 x13 x14 x15 x16 x17 x18 x19 x20 x21 x22 x23 x24 x26 x27 x28)), (qa 34, .inl (cI, 4, .inl k34_85))] := hD
    refine lv_goto (tgt := 231) hx hb dX11_firstE_88 (by decide) ?_
    have hP9 := hP.sub (ws' := [(h, .inr (10, mdF qa x0 x2 x3 x4 x13 x14 x15 x16 x17 x18 x19 x20 x21 x22 x23 x24 x26 x27 x28)), (qa 32, .inl (cI, 4, .inl g32)), (qa 33, .inl (cI, 4, .inl g33)), (qa 34, .inl (cI, 4, .inl k34_85)), (qa 40, .inl (cI, 4, .inl g40)), (qa 43, .inl (cI, 4, .inl g43)), (qa 45, .inl (cI, 4, .inl g45)), (qa 46, .inl (cI, 4, .inl g46))]) [6, 0, 1, 7, 2, 3, 4, 5] rfl
    have hD9 := hD.sub (ws' := [(h, .inr (10, mdF qa x0 x2 x3 x4 x13 x14 x15 x16 x17 x18 x19 x20 x21 x22 x23 x24 x26 x27 x28)), (qa 32, .inl (cI, 4, .inl g32)), (qa 33, .inl (cI, 4, .inl g33)), (qa 34, .inl (cI, 4, .inl k34_85)), (qa 40, .inl (cI, 4, .inl g40)), (qa 43, .inl (cI, 4, .inl g43)), (qa 45, .inl (cI, 4, .inl g45)), (qa 46, .inl (cI, 4, .inl g46))]) [6, 0, 1, 7, 2, 3, 4, 5] (by decide +kernel) rfl
    have hK9 := hK.sub (tys' := []) [] rfl
    exact W.vret hx hb hr (fun t ht hW => ⟨⟨_, rfl, ⟨x20, x28, g32, g33, k34_85, g40, g43, g45, g46, rfl, r_k34_85, r_g45, h_x28⟩, by rw [ht]; exact hP9, va_K.moved hW.alike hK9, hD9⟩, hS.F ht⟩) hS.2.2 dX11_firstE_231
  · refine lv_tableIn (off := 230) (tgt := 231) hx hb dX11_firstE_1 (by rw [hq]; decide) (by rw [hq]; decide) (by rw [hq]; decide) (by decide) ?_
    have hP9 := hP
    have hD9 := hD
    have hK9 := hK.sub (tys' := []) [] rfl
    exact W.vret hx hb hr (fun t ht hW => ⟨⟨_, rfl, ⟨x20, x28, g32, g33, g34, g40, g43, g45, g46, rfl, r_g34, r_g45, h_x28⟩, by rw [ht]; exact hP9, va_K.moved hW.alike hK9, hD9⟩, hS.F ht⟩) hS.2.2 dX11_firstE_231
  · refine lv_tableIn (off := 90) (tgt := 91) hx hb dX11_firstE_1 (by rw [hq]; decide) (by rw [hq]; decide) (by rw [hq]; decide) (by decide) ?_
    refine lv_aload_n hx hb dX11_firstE_91 rfl (lv_at hl 0 rfl) ?_
    refine va_get (D := (dC, dI)) (ci := 10) (v := .ref (qa 40)) (C := RX11) (T := TX11) (N := 53) hx hb hts iwX11 hown hK hP 0 rfl rfl 40 (by decide) (hts (.fieldLink RX11 83 "ModulePlayerModel" "vibForm" "[I") (List.mem_cons_of_mem _ kw_196)) (fun _ h9 => h9) rfl dX11_firstE_92 ?_
    refine lv_iload_n hx hb dX11_firstE_95 rfl (lv_at hl 1 rfl) ?_
    refine lv_iload_n hx hb dX11_firstE_96 rfl (lv_at hl 3 rfl) ?_
    refine lv_iconst (v := 4) hx hb dX11_firstE_97 (by decide) ?_
    refine lv_irem hx hb dX11_firstE_98 (by decide) ?_
    refine lv_topi (fun tv_98 etv_98 => ?_)
    refine g_iast hx hb hK hP hD hS 4 0 rfl rfl cv (nI_clamp (Nat.lt_trans (show cv < 4 from by omega) (by decide))) (vp_in_nI (by omega) (by decide)) dX11_firstE_99 (fun H locs hP hD hS => ?_)
    have hP : va_P (dC, dI) vwCl [(h, .inr (10, mdF qa x0 x2 x3 x4 x13 x14 x15 x16 x17 x18 x19 x20 x21 x22 x23 x24 x26 x27 x28)), (qa 32, .inl (cI, 4, .inl g32)), (qa 33, .inl (cI, 4, .inl g33)), (qa 34, .inl (cI, 4, .inl g34)), (qa 40, .inl (cI, 4, .inl (upd g40 cv tv_98))), (qa 43, .inl (cI, 4, .inl g43)), (qa 45, .inl (cI, 4, .inl g45)), (qa 46, .inl (cI, 4, .inl g46))] H := hP
    have hD : va_D A [(h, .inr (10, mdF qa x0 x2 x3 x4 x13 x14 x15 x16 x17 x18 x19 x20 x21 x22 x23 x24 x26 x27 x28)), (qa 32, .inl (cI, 4, .inl g32)), (qa 33, .inl (cI, 4, .inl g33)), (qa 34, .inl (cI, 4, .inl g34)), (qa 40, .inl (cI, 4, .inl (upd g40 cv tv_98))), (qa 43, .inl (cI, 4, .inl g43)), (qa 45, .inl (cI, 4, .inl g45)), (qa 46, .inl (cI, 4, .inl g46))] := hD
    generalize upd g40 cv tv_98 = u40_99 at hP hD
    refine lv_goto (tgt := 231) hx hb dX11_firstE_100 (by decide) ?_
    have hP9 := hP
    have hD9 := hD
    have hK9 := hK.sub (tys' := []) [] rfl
    exact W.vret hx hb hr (fun t ht hW => ⟨⟨_, rfl, ⟨x20, x28, g32, g33, g34, u40_99, g43, g45, g46, rfl, r_g34, r_g45, h_x28⟩, by rw [ht]; exact hP9, va_K.moved hW.alike hK9, hD9⟩, hS.F ht⟩) hS.2.2 dX11_firstE_231
  · refine lv_tableIn (off := 102) (tgt := 103) hx hb dX11_firstE_1 (by rw [hq]; decide) (by rw [hq]; decide) (by rw [hq]; decide) (by decide) ?_
    refine lv_aload_n hx hb dX11_firstE_103 rfl (lv_at hl 0 rfl) ?_
    refine va_get (D := (dC, dI)) (ci := 10) (v := .ref (qa 33)) (C := RX11) (T := TX11) (N := 53) hx hb hts iwX11 hown hK hP 0 rfl rfl 33 (by decide) (hts (.fieldLink RX11 62 "ModulePlayerModel" "tuned" "[I") (List.mem_cons_of_mem _ kw_189)) (fun _ h9 => h9) rfl dX11_firstE_104 ?_
    refine lv_iload_n hx hb dX11_firstE_107 rfl (lv_at hl 1 rfl) ?_
    refine lv_iload_n hx hb dX11_firstE_108 rfl (lv_at hl 3 rfl) ?_
    refine lv_bipush (v := 7) hx hb dX11_firstE_109 (by decide) ?_
    refine lv_icmp_le (tgt := 121) hx hb dX11_firstE_111 (by decide) (fun c_111 => ?_) (fun c_111 => ?_)
    · refine lv_iload_n hx hb dX11_firstE_121 rfl (lv_at hl 3 rfl) ?_
      refine g_iast hx hb hK hP hD hS 2 0 rfl rfl cv (nI_clamp (Nat.lt_trans (show cv < 4 from by omega) (by decide))) (vp_in_nI (by omega) (by decide)) dX11_firstE_122 (fun H locs hP hD hS => ?_)
      have hP : va_P (dC, dI) vwCl [(h, .inr (10, mdF qa x0 x2 x3 x4 x13 x14 x15 x16 x17 x18 x19 x20 x21 x22 x23 x24 x26 x27 x28)), (qa 32, .inl (cI, 4, .inl g32)), (qa 33, .inl (cI, 4, .inl (upd g33 cv nv))), (qa 34, .inl (cI, 4, .inl g34)), (qa 40, .inl (cI, 4, .inl g40)), (qa 43, .inl (cI, 4, .inl g43)), (qa 45, .inl (cI, 4, .inl g45)), (qa 46, .inl (cI, 4, .inl g46))] H := hP
      have hD : va_D A [(h, .inr (10, mdF qa x0 x2 x3 x4 x13 x14 x15 x16 x17 x18 x19 x20 x21 x22 x23 x24 x26 x27 x28)), (qa 32, .inl (cI, 4, .inl g32)), (qa 33, .inl (cI, 4, .inl (upd g33 cv nv))), (qa 34, .inl (cI, 4, .inl g34)), (qa 40, .inl (cI, 4, .inl g40)), (qa 43, .inl (cI, 4, .inl g43)), (qa 45, .inl (cI, 4, .inl g45)), (qa 46, .inl (cI, 4, .inl g46))] := hD
      generalize upd g33 cv nv = u33_122 at hP hD
      refine lv_goto (tgt := 231) hx hb dX11_firstE_123 (by decide) ?_
      have hP9 := hP
      have hD9 := hD
      have hK9 := hK.sub (tys' := []) [] rfl
      exact W.vret hx hb hr (fun t ht hW => ⟨⟨_, rfl, ⟨x20, x28, g32, u33_122, g34, g40, g43, g45, g46, rfl, r_g34, r_g45, h_x28⟩, by rw [ht]; exact hP9, va_K.moved hW.alike hK9, hD9⟩, hS.F ht⟩) hS.2.2 dX11_firstE_231
    refine lv_iload_n hx hb dX11_firstE_114 rfl (lv_at hl 3 rfl) ?_
    refine lv_bipush (v := 16) hx hb dX11_firstE_115 (by decide) ?_
    refine lv_isub hx hb dX11_firstE_117 ?_
    refine lv_topi (fun tv_117 etv_117 => ?_)
    refine lv_goto (tgt := 122) hx hb dX11_firstE_118 (by decide) ?_
    refine g_iast hx hb hK hP hD hS 2 0 rfl rfl cv (nI_clamp (Nat.lt_trans (show cv < 4 from by omega) (by decide))) (vp_in_nI (by omega) (by decide)) dX11_firstE_122 (fun H locs hP hD hS => ?_)
    have hP : va_P (dC, dI) vwCl [(h, .inr (10, mdF qa x0 x2 x3 x4 x13 x14 x15 x16 x17 x18 x19 x20 x21 x22 x23 x24 x26 x27 x28)), (qa 32, .inl (cI, 4, .inl g32)), (qa 33, .inl (cI, 4, .inl (upd g33 cv tv_117))), (qa 34, .inl (cI, 4, .inl g34)), (qa 40, .inl (cI, 4, .inl g40)), (qa 43, .inl (cI, 4, .inl g43)), (qa 45, .inl (cI, 4, .inl g45)), (qa 46, .inl (cI, 4, .inl g46))] H := hP
    have hD : va_D A [(h, .inr (10, mdF qa x0 x2 x3 x4 x13 x14 x15 x16 x17 x18 x19 x20 x21 x22 x23 x24 x26 x27 x28)), (qa 32, .inl (cI, 4, .inl g32)), (qa 33, .inl (cI, 4, .inl (upd g33 cv tv_117))), (qa 34, .inl (cI, 4, .inl g34)), (qa 40, .inl (cI, 4, .inl g40)), (qa 43, .inl (cI, 4, .inl g43)), (qa 45, .inl (cI, 4, .inl g45)), (qa 46, .inl (cI, 4, .inl g46))] := hD
    generalize upd g33 cv tv_117 = u33_122 at hP hD
    refine lv_goto (tgt := 231) hx hb dX11_firstE_123 (by decide) ?_
    have hP9 := hP
    have hD9 := hD
    have hK9 := hK.sub (tys' := []) [] rfl
    exact W.vret hx hb hr (fun t ht hW => ⟨⟨_, rfl, ⟨x20, x28, g32, u33_122, g34, g40, g43, g45, g46, rfl, r_g34, r_g45, h_x28⟩, by rw [ht]; exact hP9, va_K.moved hW.alike hK9, hD9⟩, hS.F ht⟩) hS.2.2 dX11_firstE_231
  · refine lv_tableIn (off := 125) (tgt := 126) hx hb dX11_firstE_1 (by rw [hq]; decide) (by rw [hq]; decide) (by rw [hq]; decide) (by decide) ?_
    refine lv_iload_n hx hb dX11_firstE_126 rfl (lv_at hl 3 rfl) ?_
    refine lv_if_ne (tgt := 143) hx hb dX11_firstE_127 (by decide) (fun c_127 => ?_) (fun c_127 => ?_)
    · refine lv_aload_n hx hb dX11_firstE_143 rfl (lv_at hl 0 rfl) ?_
      refine va_get (D := (dC, dI)) (ci := 10) (v := .ref (qa 46)) (C := RX11) (T := TX11) (N := 53) hx hb hts iwX11 hown hK hP 0 rfl rfl 46 (by decide) (hts (.fieldLink RX11 101 "ModulePlayerModel" "loopLeft" "[I") (List.mem_cons_of_mem _ kw_202)) (fun _ h9 => h9) rfl dX11_firstE_144 ?_
      refine lv_iload_n hx hb dX11_firstE_147 rfl (lv_at hl 1 rfl) ?_
      refine lv_aload_n hx hb dX11_firstE_148 rfl (lv_at hl 0 rfl) ?_
      refine va_get (D := (dC, dI)) (ci := 10) (v := .ref (qa 46)) (C := RX11) (T := TX11) (N := 53) hx hb hts iwX11 hown hK hP 0 rfl rfl 46 (by decide) (hts (.fieldLink RX11 101 "ModulePlayerModel" "loopLeft" "[I") (List.mem_cons_of_mem _ kw_202)) (fun _ h9 => h9) rfl dX11_firstE_149 ?_
      refine lv_iload_n hx hb dX11_firstE_152 rfl (lv_at hl 1 rfl) ?_
      refine g_iald hx hb hK hP 7 0 rfl rfl cv (nI_clamp (Nat.lt_trans (show cv < 4 from by omega) (by decide))) (vp_in_nI (by omega) (by decide)) dX11_firstE_153 ?_
      refine lv_topi (fun tv_153 etv_153 => ?_)
      refine lv_if_ne (tgt := 161) hx hb dX11_firstE_154 (by decide) (fun c_154 => ?_) (fun c_154 => ?_)
      · refine lv_aload_n hx hb dX11_firstE_161 rfl (lv_at hl 0 rfl) ?_
        refine va_get (D := (dC, dI)) (ci := 10) (v := .ref (qa 46)) (C := RX11) (T := TX11) (N := 53) hx hb hts iwX11 hown hK hP 0 rfl rfl 46 (by decide) (hts (.fieldLink RX11 101 "ModulePlayerModel" "loopLeft" "[I") (List.mem_cons_of_mem _ kw_202)) (fun _ h9 => h9) rfl dX11_firstE_162 ?_
        refine lv_iload_n hx hb dX11_firstE_165 rfl (lv_at hl 1 rfl) ?_
        refine g_iald hx hb hK hP 7 0 rfl rfl cv (nI_clamp (Nat.lt_trans (show cv < 4 from by omega) (by decide))) (vp_in_nI (by omega) (by decide)) dX11_firstE_166 ?_
        refine lv_topi (fun tv_166 etv_166 => ?_)
        refine lv_iconst (v := 1) hx hb dX11_firstE_167 (by decide) ?_
        refine lv_isub hx hb dX11_firstE_168 ?_
        refine lv_topi (fun tv_168 etv_168 => ?_)
        refine g_iast hx hb hK hP hD hS 7 0 rfl rfl cv (nI_clamp (Nat.lt_trans (show cv < 4 from by omega) (by decide))) (vp_in_nI (by omega) (by decide)) dX11_firstE_169 (fun H locs hP hD hS => ?_)
        have hP : va_P (dC, dI) vwCl [(h, .inr (10, mdF qa x0 x2 x3 x4 x13 x14 x15 x16 x17 x18 x19 x20 x21 x22 x23 x24 x26 x27 x28)), (qa 32, .inl (cI, 4, .inl g32)), (qa 33, .inl (cI, 4, .inl g33)), (qa 34, .inl (cI, 4, .inl g34)), (qa 40, .inl (cI, 4, .inl g40)), (qa 43, .inl (cI, 4, .inl g43)), (qa 45, .inl (cI, 4, .inl g45)), (qa 46, .inl (cI, 4, .inl (upd g46 cv tv_168)))] H := hP
        have hD : va_D A [(h, .inr (10, mdF qa x0 x2 x3 x4 x13 x14 x15 x16 x17 x18 x19 x20 x21 x22 x23 x24 x26 x27 x28)), (qa 32, .inl (cI, 4, .inl g32)), (qa 33, .inl (cI, 4, .inl g33)), (qa 34, .inl (cI, 4, .inl g34)), (qa 40, .inl (cI, 4, .inl g40)), (qa 43, .inl (cI, 4, .inl g43)), (qa 45, .inl (cI, 4, .inl g45)), (qa 46, .inl (cI, 4, .inl (upd g46 cv tv_168)))] := hD
        generalize upd g46 cv tv_168 = u46_169 at hP hD
        refine lv_aload_n hx hb dX11_firstE_170 rfl (lv_at hl 0 rfl) ?_
        refine va_get (D := (dC, dI)) (ci := 10) (v := .ref (qa 46)) (C := RX11) (T := TX11) (N := 53) hx hb hts iwX11 hown hK hP 0 rfl rfl 46 (by decide) (hts (.fieldLink RX11 101 "ModulePlayerModel" "loopLeft" "[I") (List.mem_cons_of_mem _ kw_202)) (fun _ h9 => h9) rfl dX11_firstE_171 ?_
        refine lv_iload_n hx hb dX11_firstE_174 rfl (lv_at hl 1 rfl) ?_
        refine g_iald hx hb hK hP 7 0 rfl rfl cv (nI_clamp (Nat.lt_trans (show cv < 4 from by omega) (by decide))) (vp_in_nI (by omega) (by decide)) dX11_firstE_175 ?_
        refine lv_topi (fun tv_175 etv_175 => ?_)
        refine lv_if_eq (tgt := 231) hx hb dX11_firstE_176 (by decide) (fun c_176 => ?_) (fun c_176 => ?_)
        · have hP9 := hP
          have hD9 := hD
          have hK9 := hK.sub (tys' := []) [] rfl
          exact W.vret hx hb hr (fun t ht hW => ⟨⟨_, rfl, ⟨x20, x28, g32, g33, g34, g40, g43, g45, u46_169, rfl, r_g34, r_g45, h_x28⟩, by rw [ht]; exact hP9, va_K.moved hW.alike hK9, hD9⟩, hS.F ht⟩) hS.2.2 dX11_firstE_231
        refine lv_aload_n hx hb dX11_firstE_179 rfl (lv_at hl 0 rfl) ?_
        refine lv_aload_n hx hb dX11_firstE_180 rfl (lv_at hl 0 rfl) ?_
        refine va_get (D := (dC, dI)) (ci := 10) (v := .ref (qa 45)) (C := RX11) (T := TX11) (N := 53) hx hb hts iwX11 hown hK hP 0 rfl rfl 45 (by decide) (hts (.fieldLink RX11 98 "ModulePlayerModel" "loopRow" "[I") (List.mem_cons_of_mem _ kw_201)) (fun _ h9 => h9) rfl dX11_firstE_181 ?_
        refine lv_iload_n hx hb dX11_firstE_184 rfl (lv_at hl 1 rfl) ?_
        refine g_iald hx hb hK hP 6 0 rfl rfl cv (nI_clamp (Nat.lt_trans (show cv < 4 from by omega) (by decide))) (vp_in_nI (by omega) (by decide)) dX11_firstE_185 ?_
        obtain ⟨jn_185, hjn_185, ejn_185⟩ := rg_nat (kx := cv) (mx := 63) r_g45 (by omega) rfl
        refine g_topi (y := nI jn_185) ejn_185 ?_
        obtain ⟨lt_9, elt_9⟩ : ∃ xx : Int32, xx = nI jn_185 := ⟨_, rfl⟩
        have h_lt_9 : stp lt_9 := by rw [elt_9]; exact nI_rg (by omega) (by omega) (by omega)
        refine g_topi (y := lt_9) elt_9.symm ?_
        refine va_put (D := (dC, dI)) (ci := 10) (v := .int lt_9) (ty := tyX11 28) (C := RX11) (T := TX11) (N := 53) hx hb hts iwX11 tyX11 tyX11_ok nmX11 hown hK hP hD hS 0 rfl rfl 28 (by decide) (hts (.fieldLink RX11 242 "ModulePlayerModel" "loopTo" "I") (List.mem_cons_of_mem _ kw_843)) (fun _ h9 => h9) rfl (by decide +kernel) (rfl) (rfl) (Nat.le_of_ble_eq_true rfl) dX11_firstE_186 (fun H locs hP hD hS => ?_)
        have hP : va_P (dC, dI) vwCl [(h, .inr (10, mdF qa x0 x2 x3 x4 x13 x14 x15 x16 x17 x18 x19 x20 x21 x22 x23 x24 x26 x27 lt_9)), (qa 32, .inl (cI, 4, .inl g32)), (qa 33, .inl (cI, 4, .inl g33)), (qa 34, .inl (cI, 4, .inl g34)), (qa 40, .inl (cI, 4, .inl g40)), (qa 43, .inl (cI, 4, .inl g43)), (qa 45, .inl (cI, 4, .inl g45)), (qa 46, .inl (cI, 4, .inl u46_169))] H := hP
        have hD : va_D A [(h, .inr (10, mdF qa x0 x2 x3 x4 x13 x14 x15 x16 x17 x18 x19 x20 x21 x22 x23 x24 x26 x27 lt_9)), (qa 32, .inl (cI, 4, .inl g32)), (qa 33, .inl (cI, 4, .inl g33)), (qa 34, .inl (cI, 4, .inl g34)), (qa 40, .inl (cI, 4, .inl g40)), (qa 43, .inl (cI, 4, .inl g43)), (qa 45, .inl (cI, 4, .inl g45)), (qa 46, .inl (cI, 4, .inl u46_169))] := hD
        refine lv_goto (tgt := 231) hx hb dX11_firstE_189 (by decide) ?_
        have hP9 := hP
        have hD9 := hD
        have hK9 := hK.sub (tys' := []) [] rfl
        exact W.vret hx hb hr (fun t ht hW => ⟨⟨_, rfl, ⟨x20, lt_9, g32, g33, g34, g40, g43, g45, u46_169, rfl, r_g34, r_g45, h_lt_9⟩, by rw [ht]; exact hP9, va_K.moved hW.alike hK9, hD9⟩, hS.F ht⟩) hS.2.2 dX11_firstE_231
      refine lv_iload_n hx hb dX11_firstE_157 rfl (lv_at hl 3 rfl) ?_
      refine lv_goto (tgt := 169) hx hb dX11_firstE_158 (by decide) ?_
      refine g_iast hx hb hK hP hD hS 7 0 rfl rfl cv (nI_clamp (Nat.lt_trans (show cv < 4 from by omega) (by decide))) (vp_in_nI (by omega) (by decide)) dX11_firstE_169 (fun H locs hP hD hS => ?_)
      have hP : va_P (dC, dI) vwCl [(h, .inr (10, mdF qa x0 x2 x3 x4 x13 x14 x15 x16 x17 x18 x19 x20 x21 x22 x23 x24 x26 x27 x28)), (qa 32, .inl (cI, 4, .inl g32)), (qa 33, .inl (cI, 4, .inl g33)), (qa 34, .inl (cI, 4, .inl g34)), (qa 40, .inl (cI, 4, .inl g40)), (qa 43, .inl (cI, 4, .inl g43)), (qa 45, .inl (cI, 4, .inl g45)), (qa 46, .inl (cI, 4, .inl (upd g46 cv nv)))] H := hP
      have hD : va_D A [(h, .inr (10, mdF qa x0 x2 x3 x4 x13 x14 x15 x16 x17 x18 x19 x20 x21 x22 x23 x24 x26 x27 x28)), (qa 32, .inl (cI, 4, .inl g32)), (qa 33, .inl (cI, 4, .inl g33)), (qa 34, .inl (cI, 4, .inl g34)), (qa 40, .inl (cI, 4, .inl g40)), (qa 43, .inl (cI, 4, .inl g43)), (qa 45, .inl (cI, 4, .inl g45)), (qa 46, .inl (cI, 4, .inl (upd g46 cv nv)))] := hD
      generalize upd g46 cv nv = u46_169 at hP hD
      refine lv_aload_n hx hb dX11_firstE_170 rfl (lv_at hl 0 rfl) ?_
      refine va_get (D := (dC, dI)) (ci := 10) (v := .ref (qa 46)) (C := RX11) (T := TX11) (N := 53) hx hb hts iwX11 hown hK hP 0 rfl rfl 46 (by decide) (hts (.fieldLink RX11 101 "ModulePlayerModel" "loopLeft" "[I") (List.mem_cons_of_mem _ kw_202)) (fun _ h9 => h9) rfl dX11_firstE_171 ?_
      refine lv_iload_n hx hb dX11_firstE_174 rfl (lv_at hl 1 rfl) ?_
      refine g_iald hx hb hK hP 7 0 rfl rfl cv (nI_clamp (Nat.lt_trans (show cv < 4 from by omega) (by decide))) (vp_in_nI (by omega) (by decide)) dX11_firstE_175 ?_
      refine lv_topi (fun tv_175 etv_175 => ?_)
      refine lv_if_eq (tgt := 231) hx hb dX11_firstE_176 (by decide) (fun c_176 => ?_) (fun c_176 => ?_)
      · have hP9 := hP
        have hD9 := hD
        have hK9 := hK.sub (tys' := []) [] rfl
        exact W.vret hx hb hr (fun t ht hW => ⟨⟨_, rfl, ⟨x20, x28, g32, g33, g34, g40, g43, g45, u46_169, rfl, r_g34, r_g45, h_x28⟩, by rw [ht]; exact hP9, va_K.moved hW.alike hK9, hD9⟩, hS.F ht⟩) hS.2.2 dX11_firstE_231
      refine lv_aload_n hx hb dX11_firstE_179 rfl (lv_at hl 0 rfl) ?_
      refine lv_aload_n hx hb dX11_firstE_180 rfl (lv_at hl 0 rfl) ?_
      refine va_get (D := (dC, dI)) (ci := 10) (v := .ref (qa 45)) (C := RX11) (T := TX11) (N := 53) hx hb hts iwX11 hown hK hP 0 rfl rfl 45 (by decide) (hts (.fieldLink RX11 98 "ModulePlayerModel" "loopRow" "[I") (List.mem_cons_of_mem _ kw_201)) (fun _ h9 => h9) rfl dX11_firstE_181 ?_
      refine lv_iload_n hx hb dX11_firstE_184 rfl (lv_at hl 1 rfl) ?_
      refine g_iald hx hb hK hP 6 0 rfl rfl cv (nI_clamp (Nat.lt_trans (show cv < 4 from by omega) (by decide))) (vp_in_nI (by omega) (by decide)) dX11_firstE_185 ?_
      obtain ⟨jn_185, hjn_185, ejn_185⟩ := rg_nat (kx := cv) (mx := 63) r_g45 (by omega) rfl
      refine g_topi (y := nI jn_185) ejn_185 ?_
      obtain ⟨lt_9, elt_9⟩ : ∃ xx : Int32, xx = nI jn_185 := ⟨_, rfl⟩
      have h_lt_9 : stp lt_9 := by rw [elt_9]; exact nI_rg (by omega) (by omega) (by omega)
      refine g_topi (y := lt_9) elt_9.symm ?_
      refine va_put (D := (dC, dI)) (ci := 10) (v := .int lt_9) (ty := tyX11 28) (C := RX11) (T := TX11) (N := 53) hx hb hts iwX11 tyX11 tyX11_ok nmX11 hown hK hP hD hS 0 rfl rfl 28 (by decide) (hts (.fieldLink RX11 242 "ModulePlayerModel" "loopTo" "I") (List.mem_cons_of_mem _ kw_843)) (fun _ h9 => h9) rfl (by decide +kernel) (rfl) (rfl) (Nat.le_of_ble_eq_true rfl) dX11_firstE_186 (fun H locs hP hD hS => ?_)
      have hP : va_P (dC, dI) vwCl [(h, .inr (10, mdF qa x0 x2 x3 x4 x13 x14 x15 x16 x17 x18 x19 x20 x21 x22 x23 x24 x26 x27 lt_9)), (qa 32, .inl (cI, 4, .inl g32)), (qa 33, .inl (cI, 4, .inl g33)), (qa 34, .inl (cI, 4, .inl g34)), (qa 40, .inl (cI, 4, .inl g40)), (qa 43, .inl (cI, 4, .inl g43)), (qa 45, .inl (cI, 4, .inl g45)), (qa 46, .inl (cI, 4, .inl u46_169))] H := hP
      have hD : va_D A [(h, .inr (10, mdF qa x0 x2 x3 x4 x13 x14 x15 x16 x17 x18 x19 x20 x21 x22 x23 x24 x26 x27 lt_9)), (qa 32, .inl (cI, 4, .inl g32)), (qa 33, .inl (cI, 4, .inl g33)), (qa 34, .inl (cI, 4, .inl g34)), (qa 40, .inl (cI, 4, .inl g40)), (qa 43, .inl (cI, 4, .inl g43)), (qa 45, .inl (cI, 4, .inl g45)), (qa 46, .inl (cI, 4, .inl u46_169))] := hD
      refine lv_goto (tgt := 231) hx hb dX11_firstE_189 (by decide) ?_
      have hP9 := hP
      have hD9 := hD
      have hK9 := hK.sub (tys' := []) [] rfl
      exact W.vret hx hb hr (fun t ht hW => ⟨⟨_, rfl, ⟨x20, lt_9, g32, g33, g34, g40, g43, g45, u46_169, rfl, r_g34, r_g45, h_lt_9⟩, by rw [ht]; exact hP9, va_K.moved hW.alike hK9, hD9⟩, hS.F ht⟩) hS.2.2 dX11_firstE_231
    refine lv_aload_n hx hb dX11_firstE_130 rfl (lv_at hl 0 rfl) ?_
    refine va_get (D := (dC, dI)) (ci := 10) (v := .ref (qa 45)) (C := RX11) (T := TX11) (N := 53) hx hb hts iwX11 hown hK hP 0 rfl rfl 45 (by decide) (hts (.fieldLink RX11 98 "ModulePlayerModel" "loopRow" "[I") (List.mem_cons_of_mem _ kw_201)) (fun _ h9 => h9) rfl dX11_firstE_131 ?_
    refine lv_iload_n hx hb dX11_firstE_134 rfl (lv_at hl 1 rfl) ?_
    refine lv_aload_n hx hb dX11_firstE_135 rfl (lv_at hl 0 rfl) ?_
    refine va_get (D := (dC, dI)) (ci := 10) (v := .int x18) (C := RX11) (T := TX11) (N := 53) hx hb hts iwX11 hown hK hP 0 rfl rfl 18 (by decide) (hts (.fieldLink RX11 206 "ModulePlayerModel" "row" "I") (List.mem_cons_of_mem _ kw_221)) (fun _ h9 => h9) rfl dX11_firstE_136 ?_
    refine g_iast hx hb hK hP hD hS 6 0 rfl rfl cv (nI_clamp (Nat.lt_trans (show cv < 4 from by omega) (by decide))) (vp_in_nI (by omega) (by decide)) dX11_firstE_139 (fun H locs hP hD hS => ?_)
    have hP : va_P (dC, dI) vwCl [(h, .inr (10, mdF qa x0 x2 x3 x4 x13 x14 x15 x16 x17 x18 x19 x20 x21 x22 x23 x24 x26 x27 x28)), (qa 32, .inl (cI, 4, .inl g32)), (qa 33, .inl (cI, 4, .inl g33)), (qa 34, .inl (cI, 4, .inl g34)), (qa 40, .inl (cI, 4, .inl g40)), (qa 43, .inl (cI, 4, .inl g43)), (qa 45, .inl (cI, 4, .inl (upd g45 cv x18))), (qa 46, .inl (cI, 4, .inl g46))] H := hP
    have hD : va_D A [(h, .inr (10, mdF qa x0 x2 x3 x4 x13 x14 x15 x16 x17 x18 x19 x20 x21 x22 x23 x24 x26 x27 x28)), (qa 32, .inl (cI, 4, .inl g32)), (qa 33, .inl (cI, 4, .inl g33)), (qa 34, .inl (cI, 4, .inl g34)), (qa 40, .inl (cI, 4, .inl g40)), (qa 43, .inl (cI, 4, .inl g43)), (qa 45, .inl (cI, 4, .inl (upd g45 cv x18))), (qa 46, .inl (cI, 4, .inl g46))] := hD
    obtain ⟨u45_139, r_u45_139, eu45_139⟩ : ∃ ff : Nat → Int32, rg 4 0 63 ff ∧ ff = upd g45 cv x18 := ⟨upd g45 cv x18, rg_upd2 r_g45 (h_x18), rfl⟩
    rw [← eu45_139] at hP hD
    refine lv_goto (tgt := 231) hx hb dX11_firstE_140 (by decide) ?_
    have hP9 := hP
    have hD9 := hD
    have hK9 := hK.sub (tys' := []) [] rfl
    exact W.vret hx hb hr (fun t ht hW => ⟨⟨_, rfl, ⟨x20, x28, g32, g33, g34, g40, g43, u45_139, g46, rfl, r_g34, r_u45_139, h_x28⟩, by rw [ht]; exact hP9, va_K.moved hW.alike hK9, hD9⟩, hS.F ht⟩) hS.2.2 dX11_firstE_231
  · refine lv_tableIn (off := 191) (tgt := 192) hx hb dX11_firstE_1 (by rw [hq]; decide) (by rw [hq]; decide) (by rw [hq]; decide) (by decide) ?_
    refine lv_aload_n hx hb dX11_firstE_192 rfl (lv_at hl 0 rfl) ?_
    refine va_get (D := (dC, dI)) (ci := 10) (v := .ref (qa 43)) (C := RX11) (T := TX11) (N := 53) hx hb hts iwX11 hown hK hP 0 rfl rfl 43 (by decide) (hts (.fieldLink RX11 92 "ModulePlayerModel" "tremForm" "[I") (List.mem_cons_of_mem _ kw_199)) (fun _ h9 => h9) rfl dX11_firstE_193 ?_
    refine lv_iload_n hx hb dX11_firstE_196 rfl (lv_at hl 1 rfl) ?_
    refine lv_iload_n hx hb dX11_firstE_197 rfl (lv_at hl 3 rfl) ?_
    refine lv_iconst (v := 4) hx hb dX11_firstE_198 (by decide) ?_
    refine lv_irem hx hb dX11_firstE_199 (by decide) ?_
    refine lv_topi (fun tv_199 etv_199 => ?_)
    refine g_iast hx hb hK hP hD hS 5 0 rfl rfl cv (nI_clamp (Nat.lt_trans (show cv < 4 from by omega) (by decide))) (vp_in_nI (by omega) (by decide)) dX11_firstE_200 (fun H locs hP hD hS => ?_)
    have hP : va_P (dC, dI) vwCl [(h, .inr (10, mdF qa x0 x2 x3 x4 x13 x14 x15 x16 x17 x18 x19 x20 x21 x22 x23 x24 x26 x27 x28)), (qa 32, .inl (cI, 4, .inl g32)), (qa 33, .inl (cI, 4, .inl g33)), (qa 34, .inl (cI, 4, .inl g34)), (qa 40, .inl (cI, 4, .inl g40)), (qa 43, .inl (cI, 4, .inl (upd g43 cv tv_199))), (qa 45, .inl (cI, 4, .inl g45)), (qa 46, .inl (cI, 4, .inl g46))] H := hP
    have hD : va_D A [(h, .inr (10, mdF qa x0 x2 x3 x4 x13 x14 x15 x16 x17 x18 x19 x20 x21 x22 x23 x24 x26 x27 x28)), (qa 32, .inl (cI, 4, .inl g32)), (qa 33, .inl (cI, 4, .inl g33)), (qa 34, .inl (cI, 4, .inl g34)), (qa 40, .inl (cI, 4, .inl g40)), (qa 43, .inl (cI, 4, .inl (upd g43 cv tv_199))), (qa 45, .inl (cI, 4, .inl g45)), (qa 46, .inl (cI, 4, .inl g46))] := hD
    generalize upd g43 cv tv_199 = u43_200 at hP hD
    refine lv_goto (tgt := 231) hx hb dX11_firstE_201 (by decide) ?_
    have hP9 := hP
    have hD9 := hD
    have hK9 := hK.sub (tys' := []) [] rfl
    exact W.vret hx hb hr (fun t ht hW => ⟨⟨_, rfl, ⟨x20, x28, g32, g33, g34, g40, u43_200, g45, g46, rfl, r_g34, r_g45, h_x28⟩, by rw [ht]; exact hP9, va_K.moved hW.alike hK9, hD9⟩, hS.F ht⟩) hS.2.2 dX11_firstE_231
  · refine lv_tableIn (off := 230) (tgt := 231) hx hb dX11_firstE_1 (by rw [hq]; decide) (by rw [hq]; decide) (by rw [hq]; decide) (by decide) ?_
    have hP9 := hP
    have hD9 := hD
    have hK9 := hK.sub (tys' := []) [] rfl
    exact W.vret hx hb hr (fun t ht hW => ⟨⟨_, rfl, ⟨x20, x28, g32, g33, g34, g40, g43, g45, g46, rfl, r_g34, r_g45, h_x28⟩, by rw [ht]; exact hP9, va_K.moved hW.alike hK9, hD9⟩, hS.F ht⟩) hS.2.2 dX11_firstE_231
  · refine lv_tableIn (off := 230) (tgt := 231) hx hb dX11_firstE_1 (by rw [hq]; decide) (by rw [hq]; decide) (by rw [hq]; decide) (by decide) ?_
    have hP9 := hP
    have hD9 := hD
    have hK9 := hK.sub (tys' := []) [] rfl
    exact W.vret hx hb hr (fun t ht hW => ⟨⟨_, rfl, ⟨x20, x28, g32, g33, g34, g40, g43, g45, g46, rfl, r_g34, r_g45, h_x28⟩, by rw [ht]; exact hP9, va_K.moved hW.alike hK9, hD9⟩, hS.F ht⟩) hS.2.2 dX11_firstE_231
  · refine lv_tableIn (off := 203) (tgt := 204) hx hb dX11_firstE_1 (by rw [hq]; decide) (by rw [hq]; decide) (by rw [hq]; decide) (by decide) ?_
    refine lv_aload_n hx hb dX11_firstE_204 rfl (lv_at hl 0 rfl) ?_
    refine lv_iload_n hx hb dX11_firstE_205 rfl (lv_at hl 1 rfl) ?_
    refine lv_iload_n hx hb dX11_firstE_206 rfl (lv_at hl 3 rfl) ?_
    refine g_callv (wr := [(qa 33, .inl (cI, 4, .inl g33)), (qa 34, .inl (cI, 4, .inl g34)), (qa 40, .inl (cI, 4, .inl g40)), (qa 43, .inl (cI, 4, .inl g43)), (qa 45, .inl (cI, 4, .inl g45)), (qa 46, .inl (cI, 4, .inl g46))]) (va_runV (As := [.int (nI cv), .int nv]) (rest := []) ⟨hx, hb, hml, hown, hts⟩ (m_volumeBy l dC dI H.size h qa x0 x2 x3 x4 x13 x14 x15 x16 x17 x18 x19 x20 x21 x22 x23 x24 x26 x27 x28 cI g32 cv nv (hcv)) (cwV 2 hts (gG_V kw_899 kw_900 kw_901 kw_5 kw_902) rfl rfl rfl (by decide +kernel) ⟨Nat.le_of_ble_eq_true rfl, Nat.le_of_ble_eq_true rfl⟩) (g_preV (C := RX11) (T := TX11) (N := 53) hP hD hK hS hA hN hZ (q0 := 0) rfl rfl [0, 1] (by decide +kernel) rfl [0] rfl) rfl rfl hl.1 rfl (lv_room (Nat.le_of_ble_eq_true rfl)) dX11_firstE_207 ⟨Nat.le_of_ble_eq_true rfl, Nat.le_of_ble_eq_true rfl⟩) hP hD hK hS hA [0, 1] [2, 3, 4, 5, 6, 7] rfl rfl (by decide +kernel) (by decide +kernel) (fun w ty1 H locs hw_207 hP hD _ hS => ?_)
    rcases hw_207 with ⟨k32_207, hu⟩
    cases hu
    have hP : va_P (dC, dI) vwCl [(qa 33, .inl (cI, 4, .inl g33)), (qa 34, .inl (cI, 4, .inl g34)), (qa 40, .inl (cI, 4, .inl g40)), (qa 43, .inl (cI, 4, .inl g43)), (qa 45, .inl (cI, 4, .inl g45)), (qa 46, .inl (cI, 4, .inl g46)), (h, .inr (10, mdF qa x0 x2 x3 x4 x13 x14 x15 x16 x17 x18 x19 x20 x21 x22 x23 x24 x26 x27 x28)), (qa 32, .inl (cI, 4, .inl k32_207))] H := hP
    have hD : va_D A [(qa 33, .inl (cI, 4, .inl g33)), (qa 34, .inl (cI, 4, .inl g34)), (qa 40, .inl (cI, 4, .inl g40)), (qa 43, .inl (cI, 4, .inl g43)), (qa 45, .inl (cI, 4, .inl g45)), (qa 46, .inl (cI, 4, .inl g46)), (h, .inr (10, mdF qa x0 x2 x3 x4 x13 x14 x15 x16 x17 x18 x19 x20 x21 x22 x23 x24 x26 x27 x28)), (qa 32, .inl (cI, 4, .inl k32_207))] := hD
    refine lv_goto (tgt := 231) hx hb dX11_firstE_210 (by decide) ?_
    have hP9 := hP.sub (ws' := [(h, .inr (10, mdF qa x0 x2 x3 x4 x13 x14 x15 x16 x17 x18 x19 x20 x21 x22 x23 x24 x26 x27 x28)), (qa 32, .inl (cI, 4, .inl k32_207)), (qa 33, .inl (cI, 4, .inl g33)), (qa 34, .inl (cI, 4, .inl g34)), (qa 40, .inl (cI, 4, .inl g40)), (qa 43, .inl (cI, 4, .inl g43)), (qa 45, .inl (cI, 4, .inl g45)), (qa 46, .inl (cI, 4, .inl g46))]) [6, 7, 0, 1, 2, 3, 4, 5] rfl
    have hD9 := hD.sub (ws' := [(h, .inr (10, mdF qa x0 x2 x3 x4 x13 x14 x15 x16 x17 x18 x19 x20 x21 x22 x23 x24 x26 x27 x28)), (qa 32, .inl (cI, 4, .inl k32_207)), (qa 33, .inl (cI, 4, .inl g33)), (qa 34, .inl (cI, 4, .inl g34)), (qa 40, .inl (cI, 4, .inl g40)), (qa 43, .inl (cI, 4, .inl g43)), (qa 45, .inl (cI, 4, .inl g45)), (qa 46, .inl (cI, 4, .inl g46))]) [6, 7, 0, 1, 2, 3, 4, 5] (by decide +kernel) rfl
    have hK9 := hK.sub (tys' := []) [] rfl
    exact W.vret hx hb hr (fun t ht hW => ⟨⟨_, rfl, ⟨x20, x28, k32_207, g33, g34, g40, g43, g45, g46, rfl, r_g34, r_g45, h_x28⟩, by rw [ht]; exact hP9, va_K.moved hW.alike hK9, hD9⟩, hS.F ht⟩) hS.2.2 dX11_firstE_231
  · refine lv_tableIn (off := 212) (tgt := 213) hx hb dX11_firstE_1 (by rw [hq]; decide) (by rw [hq]; decide) (by rw [hq]; decide) (by decide) ?_
    refine lv_aload_n hx hb dX11_firstE_213 rfl (lv_at hl 0 rfl) ?_
    refine lv_iload_n hx hb dX11_firstE_214 rfl (lv_at hl 1 rfl) ?_
    refine lv_iload_n hx hb dX11_firstE_215 rfl (lv_at hl 3 rfl) ?_
    refine lv_ineg hx hb dX11_firstE_216 ?_
    refine lv_topi (fun tv_216 etv_216 => ?_)
    refine g_callv (wr := [(qa 33, .inl (cI, 4, .inl g33)), (qa 34, .inl (cI, 4, .inl g34)), (qa 40, .inl (cI, 4, .inl g40)), (qa 43, .inl (cI, 4, .inl g43)), (qa 45, .inl (cI, 4, .inl g45)), (qa 46, .inl (cI, 4, .inl g46))]) (va_runV (As := [.int (nI cv), .int tv_216]) (rest := []) ⟨hx, hb, hml, hown, hts⟩ (m_volumeBy l dC dI H.size h qa x0 x2 x3 x4 x13 x14 x15 x16 x17 x18 x19 x20 x21 x22 x23 x24 x26 x27 x28 cI g32 cv tv_216 (hcv)) (cwV 2 hts (gG_V kw_899 kw_900 kw_901 kw_5 kw_902) rfl rfl rfl (by decide +kernel) ⟨Nat.le_of_ble_eq_true rfl, Nat.le_of_ble_eq_true rfl⟩) (g_preV (C := RX11) (T := TX11) (N := 53) hP hD hK hS hA hN hZ (q0 := 0) rfl rfl [0, 1] (by decide +kernel) rfl [0] rfl) rfl rfl hl.1 rfl (lv_room (Nat.le_of_ble_eq_true rfl)) dX11_firstE_217 ⟨Nat.le_of_ble_eq_true rfl, Nat.le_of_ble_eq_true rfl⟩) hP hD hK hS hA [0, 1] [2, 3, 4, 5, 6, 7] rfl rfl (by decide +kernel) (by decide +kernel) (fun w ty1 H locs hw_217 hP hD _ hS => ?_)
    rcases hw_217 with ⟨k32_217, hu⟩
    cases hu
    have hP : va_P (dC, dI) vwCl [(qa 33, .inl (cI, 4, .inl g33)), (qa 34, .inl (cI, 4, .inl g34)), (qa 40, .inl (cI, 4, .inl g40)), (qa 43, .inl (cI, 4, .inl g43)), (qa 45, .inl (cI, 4, .inl g45)), (qa 46, .inl (cI, 4, .inl g46)), (h, .inr (10, mdF qa x0 x2 x3 x4 x13 x14 x15 x16 x17 x18 x19 x20 x21 x22 x23 x24 x26 x27 x28)), (qa 32, .inl (cI, 4, .inl k32_217))] H := hP
    have hD : va_D A [(qa 33, .inl (cI, 4, .inl g33)), (qa 34, .inl (cI, 4, .inl g34)), (qa 40, .inl (cI, 4, .inl g40)), (qa 43, .inl (cI, 4, .inl g43)), (qa 45, .inl (cI, 4, .inl g45)), (qa 46, .inl (cI, 4, .inl g46)), (h, .inr (10, mdF qa x0 x2 x3 x4 x13 x14 x15 x16 x17 x18 x19 x20 x21 x22 x23 x24 x26 x27 x28)), (qa 32, .inl (cI, 4, .inl k32_217))] := hD
    refine lv_goto (tgt := 231) hx hb dX11_firstE_220 (by decide) ?_
    have hP9 := hP.sub (ws' := [(h, .inr (10, mdF qa x0 x2 x3 x4 x13 x14 x15 x16 x17 x18 x19 x20 x21 x22 x23 x24 x26 x27 x28)), (qa 32, .inl (cI, 4, .inl k32_217)), (qa 33, .inl (cI, 4, .inl g33)), (qa 34, .inl (cI, 4, .inl g34)), (qa 40, .inl (cI, 4, .inl g40)), (qa 43, .inl (cI, 4, .inl g43)), (qa 45, .inl (cI, 4, .inl g45)), (qa 46, .inl (cI, 4, .inl g46))]) [6, 7, 0, 1, 2, 3, 4, 5] rfl
    have hD9 := hD.sub (ws' := [(h, .inr (10, mdF qa x0 x2 x3 x4 x13 x14 x15 x16 x17 x18 x19 x20 x21 x22 x23 x24 x26 x27 x28)), (qa 32, .inl (cI, 4, .inl k32_217)), (qa 33, .inl (cI, 4, .inl g33)), (qa 34, .inl (cI, 4, .inl g34)), (qa 40, .inl (cI, 4, .inl g40)), (qa 43, .inl (cI, 4, .inl g43)), (qa 45, .inl (cI, 4, .inl g45)), (qa 46, .inl (cI, 4, .inl g46))]) [6, 7, 0, 1, 2, 3, 4, 5] (by decide +kernel) rfl
    have hK9 := hK.sub (tys' := []) [] rfl
    exact W.vret hx hb hr (fun t ht hW => ⟨⟨_, rfl, ⟨x20, x28, k32_217, g33, g34, g40, g43, g45, g46, rfl, r_g34, r_g45, h_x28⟩, by rw [ht]; exact hP9, va_K.moved hW.alike hK9, hD9⟩, hS.F ht⟩) hS.2.2 dX11_firstE_231
  · refine lv_tableIn (off := 230) (tgt := 231) hx hb dX11_firstE_1 (by rw [hq]; decide) (by rw [hq]; decide) (by rw [hq]; decide) (by decide) ?_
    have hP9 := hP
    have hD9 := hD
    have hK9 := hK.sub (tys' := []) [] rfl
    exact W.vret hx hb hr (fun t ht hW => ⟨⟨_, rfl, ⟨x20, x28, g32, g33, g34, g40, g43, g45, g46, rfl, r_g34, r_g45, h_x28⟩, by rw [ht]; exact hP9, va_K.moved hW.alike hK9, hD9⟩, hS.F ht⟩) hS.2.2 dX11_firstE_231
  · refine lv_tableIn (off := 230) (tgt := 231) hx hb dX11_firstE_1 (by rw [hq]; decide) (by rw [hq]; decide) (by rw [hq]; decide) (by decide) ?_
    have hP9 := hP
    have hD9 := hD
    have hK9 := hK.sub (tys' := []) [] rfl
    exact W.vret hx hb hr (fun t ht hW => ⟨⟨_, rfl, ⟨x20, x28, g32, g33, g34, g40, g43, g45, g46, rfl, r_g34, r_g45, h_x28⟩, by rw [ht]; exact hP9, va_K.moved hW.alike hK9, hD9⟩, hS.F ht⟩) hS.2.2 dX11_firstE_231
  · refine lv_tableIn (off := 222) (tgt := 223) hx hb dX11_firstE_1 (by rw [hq]; decide) (by rw [hq]; decide) (by rw [hq]; decide) (by decide) ?_
    refine lv_aload_n hx hb dX11_firstE_223 rfl (lv_at hl 0 rfl) ?_
    refine lv_iload_n hx hb dX11_firstE_224 rfl (lv_at hl 3 rfl) ?_
    refine va_put (D := (dC, dI)) (ci := 10) (v := .int nv) (ty := tyX11 20) (C := RX11) (T := TX11) (N := 53) hx hb hts iwX11 tyX11 tyX11_ok nmX11 hown hK hP hD hS 0 rfl rfl 20 (by decide) (hts (.fieldLink RX11 215 "ModulePlayerModel" "delay" "I") (List.mem_cons_of_mem _ kw_224)) (fun _ h9 => h9) rfl (by decide +kernel) (rfl) (rfl) (Nat.le_of_ble_eq_true rfl) dX11_firstE_225 (fun H locs hP hD hS => ?_)
    have hP : va_P (dC, dI) vwCl [(h, .inr (10, mdF qa x0 x2 x3 x4 x13 x14 x15 x16 x17 x18 x19 nv x21 x22 x23 x24 x26 x27 x28)), (qa 32, .inl (cI, 4, .inl g32)), (qa 33, .inl (cI, 4, .inl g33)), (qa 34, .inl (cI, 4, .inl g34)), (qa 40, .inl (cI, 4, .inl g40)), (qa 43, .inl (cI, 4, .inl g43)), (qa 45, .inl (cI, 4, .inl g45)), (qa 46, .inl (cI, 4, .inl g46))] H := hP
    have hD : va_D A [(h, .inr (10, mdF qa x0 x2 x3 x4 x13 x14 x15 x16 x17 x18 x19 nv x21 x22 x23 x24 x26 x27 x28)), (qa 32, .inl (cI, 4, .inl g32)), (qa 33, .inl (cI, 4, .inl g33)), (qa 34, .inl (cI, 4, .inl g34)), (qa 40, .inl (cI, 4, .inl g40)), (qa 43, .inl (cI, 4, .inl g43)), (qa 45, .inl (cI, 4, .inl g45)), (qa 46, .inl (cI, 4, .inl g46))] := hD
    refine lv_goto (tgt := 231) hx hb dX11_firstE_228 (by decide) ?_
    have hP9 := hP
    have hD9 := hD
    have hK9 := hK.sub (tys' := []) [] rfl
    exact W.vret hx hb hr (fun t ht hW => ⟨⟨_, rfl, ⟨nv, x28, g32, g33, g34, g40, g43, g45, g46, rfl, r_g34, r_g45, h_x28⟩, by rw [ht]; exact hP9, va_K.moved hW.alike hK9, hD9⟩, hS.F ht⟩) hS.2.2 dX11_firstE_231

