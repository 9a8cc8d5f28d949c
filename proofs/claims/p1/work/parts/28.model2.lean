set_option maxHeartbeats 400000 in
set_option maxRecDepth 100000 in
/-- in -/
theorem m_in (l : Launch) (dC : Nat → ClassId) (dI : Nat → Nat → Nat) (sz : Nat) (v lo hi : Int32) : Met l yX11_in (wsG (.code yX11_in cX11_in 3 (some .boolean))) ({ frames := 0, cells := 0, slots := 0, locals := 0 }) (va_Pc [.int v, .int lo, .int hi] (gP (dC, dI) [] [] sz)) (va_Qi (fun (r : Int32) (u : va_W × gT) => (u = ([], []) ∧ r = 1 ∧ lo ≤ v ∧ v ≤ hi) ∨ (u = ([], []) ∧ r = 0 ∧ ¬ (lo ≤ v ∧ v ≤ hi))) (gB (dC, dI) (va_A [] sz)) (va_A [] sz)) 0 0 (va_A [] sz) := by
  refine Met.ofW (cc := cX11_in) (maxL := 3) (ret := (some .boolean)) (by decide) rfl ?_
  intro p e s m args below meth c s₁ B hml hv
  obtain ⟨rfl, hsz, hP, hK, hD0, hN, hZ⟩ := hv
  have hx := B.exec
  have hb := B.bytes
  have hr := B.returns
  have hts := atoms_spec (ws := (wsG (.code yX11_in cX11_in 3 (some .boolean)))) B.pre
  have hown : s.vm.findClass RX11 = some m.cls := findClass_of_methodNamed B.named
  have hlocks := B.notSynchronized
  subst hsz
  have hD := hD0.self (sz := s.heap.size)
  generalize hAe : va_A [] s.heap.size = A at hD hZ ⊢
  have hA : ∀ q : Nat, s.heap.size ≤ q → A q := fun q h => by rw [← hAe]; exact Or.inr h
  have hl := lv_entry ([.int v, .int lo, .int hi]) (n := 3) (Nat.le_of_ble_eq_true rfl)
  rw [lg_entry_eq]
  generalize (lg_sl ([.int v, .int lo, .int hi]) ++ List.replicate (3 - (lg_sl ([.int v, .int lo, .int hi])).length) Slot.unset).toArray = ls at hl ⊢
  have hl : lv_has ls 3 [(0, .int v), (1, .int lo), (2, .int hi)] := hl
  refine g_start (A := A) hP (fun H locs hP hS => ?_)
  refine lv_iload_n hx hb dX11_in_0 rfl (lv_at hl 0 rfl) ?_
  refine lv_iload_n hx hb dX11_in_1 rfl (lv_at hl 1 rfl) ?_
  refine lv_icmp_lt (tgt := 14) hx hb dX11_in_2 (by decide) (fun c_2 => ?_) (fun c_2 => ?_)
  · refine lv_iconst (v := 0) hx hb dX11_in_14 (by decide) ?_
    have hP9 := hP.sub (ws' := []) [] rfl
    have hD9 := hD.sub (ws' := []) [] (by decide) rfl
    have hK9 := hK.sub (tys' := []) [] rfl
    exact W.zret (v := 0) hx hb hr (by decide) (fun t ht hW => ⟨⟨0, ([], []), rfl, (Or.inr ⟨rfl, rfl, (fun qv => i_nle.mpr c_2 qv.1)⟩), by rw [ht]; exact hP9, va_K.moved hW.alike hK9, hD9⟩, hS.F ht⟩) hS.2.2 dX11_in_15
  refine lv_iload_n hx hb dX11_in_5 rfl (lv_at hl 0 rfl) ?_
  refine lv_iload_n hx hb dX11_in_6 rfl (lv_at hl 2 rfl) ?_
  refine lv_icmp_gt (tgt := 14) hx hb dX11_in_7 (by decide) (fun c_7 => ?_) (fun c_7 => ?_)
  · refine lv_iconst (v := 0) hx hb dX11_in_14 (by decide) ?_
    have hP9 := hP.sub (ws' := []) [] rfl
    have hD9 := hD.sub (ws' := []) [] (by decide) rfl
    have hK9 := hK.sub (tys' := []) [] rfl
    exact W.zret (v := 0) hx hb hr (by decide) (fun t ht hW => ⟨⟨0, ([], []), rfl, (Or.inr ⟨rfl, rfl, (fun qv => i_nle.mpr c_7 qv.2)⟩), by rw [ht]; exact hP9, va_K.moved hW.alike hK9, hD9⟩, hS.F ht⟩) hS.2.2 dX11_in_15
  refine lv_iconst (v := 1) hx hb dX11_in_10 (by decide) ?_
  refine lv_goto (tgt := 15) hx hb dX11_in_11 (by decide) ?_
  have hP9 := hP.sub (ws' := []) [] rfl
  have hD9 := hD.sub (ws' := []) [] (by decide) rfl
  have hK9 := hK.sub (tys' := []) [] rfl
  exact W.zret (v := 1) hx hb hr (by decide) (fun t ht hW => ⟨⟨1, ([], []), rfl, (Or.inl ⟨rfl, rfl, (⟨i_nlt.mp c_2, i_nlt.mp c_7⟩)⟩), by rw [ht]; exact hP9, va_K.moved hW.alike hK9, hD9⟩, hS.F ht⟩) hS.2.2 dX11_in_15

set_option maxHeartbeats 400000 in
set_option maxRecDepth 100000 in
/-- isSample -/
theorem m_isSample (l : Launch) (dC : Nat → ClassId) (dI : Nat → Nat → Nat) (sz : Nat) (v : Int32) : Met l yX11_isSample (wsG (.code yX11_isSample cX11_isSample 1 (some .boolean))) ({ frames := 1, cells := 0, slots := 0, locals := 22 }) (va_Pc [.int v] (gP (dC, dI) [] [] sz)) (va_Qi (fun (r : Int32) (u : va_W × gT) => (u = ([], []) ∧ r = 1 ∧ 1 ≤ v ∧ v ≤ 31) ∨ (u = ([], []) ∧ r = 0 ∧ ¬ (1 ≤ v ∧ v ≤ 31))) (gB (dC, dI) (va_A [] sz)) (va_A [] sz)) 0 0 (va_A [] sz) := by
  refine Met.ofW (cc := cX11_isSample) (maxL := 1) (ret := (some .boolean)) (by decide) rfl ?_
  intro p e s m args below meth c s₁ B hml hv
  obtain ⟨rfl, hsz, hP, hK, hD0, hN, hZ⟩ := hv
  have hx := B.exec
  have hb := B.bytes
  have hr := B.returns
  have hts := atoms_spec (ws := (wsG (.code yX11_isSample cX11_isSample 1 (some .boolean)))) B.pre
  have hown : s.vm.findClass RX11 = some m.cls := findClass_of_methodNamed B.named
  have hlocks := B.notSynchronized
  subst hsz
  have hD := hD0.self (sz := s.heap.size)
  generalize hAe : va_A [] s.heap.size = A at hD hZ ⊢
  have hA : ∀ q : Nat, s.heap.size ≤ q → A q := fun q h => by rw [← hAe]; exact Or.inr h
  have hl := lv_entry ([.int v]) (n := 1) (Nat.le_of_ble_eq_true rfl)
  rw [lg_entry_eq]
  generalize (lg_sl ([.int v]) ++ List.replicate (1 - (lg_sl ([.int v])).length) Slot.unset).toArray = ls at hl ⊢
  have hl : lv_has ls 1 [(0, .int v)] := hl
  refine g_start (A := A) hP (fun H locs hP hS => ?_)
  refine lv_iload_n hx hb dX11_isSample_0 rfl (lv_at hl 0 rfl) ?_
  refine lv_iconst (v := 1) hx hb dX11_isSample_1 (by decide) ?_
  refine lv_bipush (v := 31) hx hb dX11_isSample_2 (by decide) ?_
  refine g_calli (wr := []) (va_runS (As := [.int v, .int 1, .int 31]) (rest := []) ⟨hx, hb, hml, hown, hts⟩ (m_in l dC dI H.size v 1 31 ) (va_cwS 3 hts (gG_S kw_266 kw_267 kw_5 kw_268) rfl rfl rfl (by decide +kernel) ⟨Nat.le_of_ble_eq_true rfl, Nat.le_of_ble_eq_true rfl⟩) (g_preS hP hD hK hS hA hN hZ [] (by decide) rfl [] rfl) rfl rfl hl.1 rfl (lv_room (Nat.le_of_ble_eq_true rfl)) dX11_isSample_4 ⟨Nat.le_of_ble_eq_true rfl, Nat.le_of_ble_eq_true rfl⟩) hP hD hK hS hA [] [] rfl rfl (by decide) (by decide) (fun r_4 w ty1 H locs hw_4 hP hD _ hS => ?_)
  rcases hw_4 with ⟨hu, hr_4, hh_4⟩ | ⟨hu, hr_4, hh_4⟩
  · cases hu
    have hP : va_P (dC, dI) vwCl [] H := hP
    have hD : va_D A [] := hD
    refine g_topi (y := 1) hr_4 ?_
    have hP9 := hP.sub (ws' := []) [] rfl
    have hD9 := hD.sub (ws' := []) [] (by decide) rfl
    have hK9 := hK.sub (tys' := []) [] rfl
    exact W.zret (v := 1) hx hb hr (by decide) (fun t ht hW => ⟨⟨1, ([], []), rfl, (Or.inl ⟨rfl, rfl, hh_4⟩), by rw [ht]; exact hP9, va_K.moved hW.alike hK9, hD9⟩, hS.F ht⟩) hS.2.2 dX11_isSample_7
  cases hu
  have hP : va_P (dC, dI) vwCl [] H := hP
  have hD : va_D A [] := hD
  refine g_topi (y := 0) hr_4 ?_
  have hP9 := hP.sub (ws' := []) [] rfl
  have hD9 := hD.sub (ws' := []) [] (by decide) rfl
  have hK9 := hK.sub (tys' := []) [] rfl
  exact W.zret (v := 0) hx hb hr (by decide) (fun t ht hW => ⟨⟨0, ([], []), rfl, (Or.inr ⟨rfl, rfl, hh_4⟩), by rw [ht]; exact hP9, va_K.moved hW.alike hK9, hD9⟩, hS.F ht⟩) hS.2.2 dX11_isSample_7

set_option maxHeartbeats 400000 in
set_option maxRecDepth 100000 in
/-- put -/
theorem m_put (l : Launch) (dC : Nat → ClassId) (dI : Nat → Nat → Nat) (sz : Nat) (h : Nat) (qa : Nat → Nat) (x0 x3 x4 x13 x14 x15 x16 x17 x18 x19 x20 x21 x22 x23 x24 x26 x27 x28 : Int32) (cB : ClassId) (LL : Nat) (ft : Nat → Int32) (v : Int32) (hLL : LL < 9000) : Met l yX11_put (wsG (.code yX11_put cX11_put 2 none)) ({ frames := 0, cells := 0, slots := 0, locals := 0 }) (va_Pc [.ref h, .int v] (gP (dC, dI) [(cB, .byte)] [(h, .inr (10, mdF qa x0 (nI LL) x3 x4 x13 x14 x15 x16 x17 x18 x19 x20 x21 x22 x23 x24 x26 x27 x28)), (qa 1, .inl (cB, 9000, .inl ft))] sz)) (va_Qv (fun u : va_W × gT => ∃ (ft2 : Nat → Int32), u = ([(h, .inr (10, mdF qa x0 (nI (LL + 1)) x3 x4 x13 x14 x15 x16 x17 x18 x19 x20 x21 x22 x23 x24 x26 x27 x28)), (qa 1, .inl (cB, 9000, .inl ft2))], [])) (gB (dC, dI) (va_A [(h, .inr (10, mdF qa x0 (nI LL) x3 x4 x13 x14 x15 x16 x17 x18 x19 x20 x21 x22 x23 x24 x26 x27 x28)), (qa 1, .inl (cB, 9000, .inl ft))] sz)) (va_A [(h, .inr (10, mdF qa x0 (nI LL) x3 x4 x13 x14 x15 x16 x17 x18 x19 x20 x21 x22 x23 x24 x26 x27 x28)), (qa 1, .inl (cB, 9000, .inl ft))] sz)) 0 0 (va_A [(h, .inr (10, mdF qa x0 (nI LL) x3 x4 x13 x14 x15 x16 x17 x18 x19 x20 x21 x22 x23 x24 x26 x27 x28)), (qa 1, .inl (cB, 9000, .inl ft))] sz) := by
  refine Met.ofW (cc := cX11_put) (maxL := 2) (ret := none) (by decide) rfl ?_
  intro p e s m args below meth c s₁ B hml hv
  obtain ⟨rfl, hsz, hP, hK, hD0, hN, hZ⟩ := hv
  have hx := B.exec
  have hb := B.bytes
  have hr := B.returns
  have hts := atoms_spec (ws := (wsG (.code yX11_put cX11_put 2 none))) B.pre
  have hown : s.vm.findClass RX11 = some m.cls := findClass_of_methodNamed B.named
  have hlocks := B.notSynchronized
  subst hsz
  have hD := hD0.self (sz := s.heap.size)
  generalize hAe : va_A [(h, .inr (10, mdF qa x0 (nI LL) x3 x4 x13 x14 x15 x16 x17 x18 x19 x20 x21 x22 x23 x24 x26 x27 x28)), (qa 1, .inl (cB, 9000, .inl ft))] s.heap.size = A at hD hZ ⊢
  have hA : ∀ q : Nat, s.heap.size ≤ q → A q := fun q h => by rw [← hAe]; exact Or.inr h
  have hl := lv_entry ([.ref h, .int v]) (n := 2) (Nat.le_of_ble_eq_true rfl)
  rw [lg_entry_eq]
  generalize (lg_sl ([.ref h, .int v]) ++ List.replicate (2 - (lg_sl ([.ref h, .int v])).length) Slot.unset).toArray = ls at hl ⊢
  have hl : lv_has ls 2 [(0, .ref h), (1, .int v)] := hl
  refine g_start (A := A) hP (fun H locs hP hS => ?_)
  refine lv_aload_n hx hb dX11_put_0 rfl (lv_at hl 0 rfl) ?_
  refine va_get (D := (dC, dI)) (ci := 10) (v := .ref (qa 1)) (C := RX11) (T := TX11) (N := 53) hx hb hts iwX11 hown hK hP 0 rfl rfl 1 (by decide) (hts (.fieldLink RX11 9 "ModulePlayerModel" "tape" "[B") (List.mem_cons_of_mem _ kw_171)) (fun _ h9 => h9) rfl dX11_put_1 ?_
  refine lv_aload_n hx hb dX11_put_4 rfl (lv_at hl 0 rfl) ?_
  refine va_get (D := (dC, dI)) (ci := 10) (v := .int (nI LL)) (C := RX11) (T := TX11) (N := 53) hx hb hts iwX11 hown hK hP 0 rfl rfl 2 (by decide) (hts (.fieldLink RX11 138 "ModulePlayerModel" "taped" "I") (List.mem_cons_of_mem _ kw_253)) (fun _ h9 => h9) rfl dX11_put_5 ?_
  refine lv_iload_n hx hb dX11_put_8 rfl (lv_at hl 1 rfl) ?_
  refine lv_i2b (v := v.toInt8.toInt32) hx hb dX11_put_9 rfl ?_
  refine g_bast hx hb hK hP hD hS 1 0 rfl rfl (x' := v.toInt8.toInt32) (pk_vb _) LL (nI_clamp (Nat.lt_trans (show LL < 9000 from hLL) (by decide))) (vp_in_nI (hLL) (by decide)) dX11_put_10 (fun H locs hP hD hS => ?_)
  have hP : va_P (dC, dI) vwCl [(h, .inr (10, mdF qa x0 (nI LL) x3 x4 x13 x14 x15 x16 x17 x18 x19 x20 x21 x22 x23 x24 x26 x27 x28)), (qa 1, .inl (cB, 9000, .inl (upd ft LL v.toInt8.toInt32)))] H := hP
  have hD : va_D A [(h, .inr (10, mdF qa x0 (nI LL) x3 x4 x13 x14 x15 x16 x17 x18 x19 x20 x21 x22 x23 x24 x26 x27 x28)), (qa 1, .inl (cB, 9000, .inl (upd ft LL v.toInt8.toInt32)))] := hD
  generalize upd ft LL v.toInt8.toInt32 = fg__10 at hP hD
  refine lv_aload_n hx hb dX11_put_11 rfl (lv_at hl 0 rfl) ?_
  refine lv_dup hx hb dX11_put_12 rfl ?_
  refine va_get (D := (dC, dI)) (ci := 10) (v := .int (nI LL)) (C := RX11) (T := TX11) (N := 53) hx hb hts iwX11 hown hK hP 0 rfl rfl 2 (by decide) (hts (.fieldLink RX11 138 "ModulePlayerModel" "taped" "I") (List.mem_cons_of_mem _ kw_253)) (fun _ h9 => h9) rfl dX11_put_13 ?_
  refine lv_iconst (v := 1) hx hb dX11_put_16 (by decide) ?_
  refine lv_iadd hx hb dX11_put_17 ?_
  refine g_topi (y := nI (LL + 1)) (nI_1 _) ?_
  refine va_put (D := (dC, dI)) (ci := 10) (v := .int (nI (LL + 1))) (ty := tyX11 2) (C := RX11) (T := TX11) (N := 53) hx hb hts iwX11 tyX11 tyX11_ok nmX11 hown hK hP hD hS 0 rfl rfl 2 (by decide) (hts (.fieldLink RX11 138 "ModulePlayerModel" "taped" "I") (List.mem_cons_of_mem _ kw_253)) (fun _ h9 => h9) rfl (by decide +kernel) (rfl) (rfl) (Nat.le_of_ble_eq_true rfl) dX11_put_18 (fun H locs hP hD hS => ?_)
  have hP : va_P (dC, dI) vwCl [(h, .inr (10, mdF qa x0 (nI (LL + 1)) x3 x4 x13 x14 x15 x16 x17 x18 x19 x20 x21 x22 x23 x24 x26 x27 x28)), (qa 1, .inl (cB, 9000, .inl fg__10))] H := hP
  have hD : va_D A [(h, .inr (10, mdF qa x0 (nI (LL + 1)) x3 x4 x13 x14 x15 x16 x17 x18 x19 x20 x21 x22 x23 x24 x26 x27 x28)), (qa 1, .inl (cB, 9000, .inl fg__10))] := hD
  have hP9 := hP.sub (ws' := [(h, .inr (10, mdF qa x0 (nI (LL + 1)) x3 x4 x13 x14 x15 x16 x17 x18 x19 x20 x21 x22 x23 x24 x26 x27 x28)), (qa 1, .inl (cB, 9000, .inl fg__10))]) [0, 1] rfl
  have hD9 := hD.sub (ws' := [(h, .inr (10, mdF qa x0 (nI (LL + 1)) x3 x4 x13 x14 x15 x16 x17 x18 x19 x20 x21 x22 x23 x24 x26 x27 x28)), (qa 1, .inl (cB, 9000, .inl fg__10))]) [0, 1] (by decide) rfl
  have hK9 := hK.sub (tys' := []) [] rfl
  exact W.vret hx hb hr (fun t ht hW => ⟨⟨([(h, .inr (10, mdF qa x0 (nI (LL + 1)) x3 x4 x13 x14 x15 x16 x17 x18 x19 x20 x21 x22 x23 x24 x26 x27 x28)), (qa 1, .inl (cB, 9000, .inl fg__10))], []), rfl, ⟨fg__10, rfl⟩, by rw [ht]; exact hP9, va_K.moved hW.alike hK9, hD9⟩, hS.F ht⟩) hS.2.2 dX11_put_21

set_option maxHeartbeats 400000 in
set_option maxRecDepth 100000 in
/-- putTwo -/
theorem m_putTwo (l : Launch) (dC : Nat → ClassId) (dI : Nat → Nat → Nat) (sz : Nat) (h : Nat) (qa : Nat → Nat) (x0 x3 x4 x13 x14 x15 x16 x17 x18 x19 x20 x21 x22 x23 x24 x26 x27 x28 : Int32) (cB : ClassId) (LL : Nat) (ft : Nat → Int32) (v : Int32) (hLL : LL + 1 < 9000) : Met l yX11_putTwo (wsG (.code yX11_putTwo cX11_putTwo 2 none)) ({ frames := 1, cells := 0, slots := 0, locals := 21 }) (va_Pc [.ref h, .int v] (gP (dC, dI) [(cB, .byte)] [(h, .inr (10, mdF qa x0 (nI LL) x3 x4 x13 x14 x15 x16 x17 x18 x19 x20 x21 x22 x23 x24 x26 x27 x28)), (qa 1, .inl (cB, 9000, .inl ft))] sz)) (va_Qv (fun u : va_W × gT => ∃ (ft2 : Nat → Int32), u = ([(h, .inr (10, mdF qa x0 (nI (LL + 2)) x3 x4 x13 x14 x15 x16 x17 x18 x19 x20 x21 x22 x23 x24 x26 x27 x28)), (qa 1, .inl (cB, 9000, .inl ft2))], [])) (gB (dC, dI) (va_A [(h, .inr (10, mdF qa x0 (nI LL) x3 x4 x13 x14 x15 x16 x17 x18 x19 x20 x21 x22 x23 x24 x26 x27 x28)), (qa 1, .inl (cB, 9000, .inl ft))] sz)) (va_A [(h, .inr (10, mdF qa x0 (nI LL) x3 x4 x13 x14 x15 x16 x17 x18 x19 x20 x21 x22 x23 x24 x26 x27 x28)), (qa 1, .inl (cB, 9000, .inl ft))] sz)) 0 0 (va_A [(h, .inr (10, mdF qa x0 (nI LL) x3 x4 x13 x14 x15 x16 x17 x18 x19 x20 x21 x22 x23 x24 x26 x27 x28)), (qa 1, .inl (cB, 9000, .inl ft))] sz) := by
  refine Met.ofW (cc := cX11_putTwo) (maxL := 2) (ret := none) (by decide) rfl ?_
  intro p e s m args below meth c s₁ B hml hv
  obtain ⟨rfl, hsz, hP, hK, hD0, hN, hZ⟩ := hv
  have hx := B.exec
  have hb := B.bytes
  have hr := B.returns
  have hts := atoms_spec (ws := (wsG (.code yX11_putTwo cX11_putTwo 2 none))) B.pre
  have hown : s.vm.findClass RX11 = some m.cls := findClass_of_methodNamed B.named
  have hlocks := B.notSynchronized
  subst hsz
  have hD := hD0.self (sz := s.heap.size)
  generalize hAe : va_A [(h, .inr (10, mdF qa x0 (nI LL) x3 x4 x13 x14 x15 x16 x17 x18 x19 x20 x21 x22 x23 x24 x26 x27 x28)), (qa 1, .inl (cB, 9000, .inl ft))] s.heap.size = A at hD hZ ⊢
  have hA : ∀ q : Nat, s.heap.size ≤ q → A q := fun q h => by rw [← hAe]; exact Or.inr h
  have hl := lv_entry ([.ref h, .int v]) (n := 2) (Nat.le_of_ble_eq_true rfl)
  rw [lg_entry_eq]
  generalize (lg_sl ([.ref h, .int v]) ++ List.replicate (2 - (lg_sl ([.ref h, .int v])).length) Slot.unset).toArray = ls at hl ⊢
  have hl : lv_has ls 2 [(0, .ref h), (1, .int v)] := hl
  refine g_start (A := A) hP (fun H locs hP hS => ?_)
  refine lv_aload_n hx hb dX11_putTwo_0 rfl (lv_at hl 0 rfl) ?_
  refine lv_iload_n hx hb dX11_putTwo_1 rfl (lv_at hl 1 rfl) ?_
  refine lv_iconst (v := 2) hx hb dX11_putTwo_2 (by decide) ?_
  refine lv_idiv hx hb dX11_putTwo_3 (by decide) ?_
  refine lv_topi (fun d3_ ed3_ => ?_)
  refine lv_bipush (v := 8) hx hb dX11_putTwo_4 (by decide) ?_
  refine lv_ishr hx hb dX11_putTwo_6 ?_
  refine lv_topi (fun d6_ ed6_ => ?_)
  refine g_callv (wr := []) (va_runV (As := [.int d6_]) (rest := []) ⟨hx, hb, hml, hown, hts⟩ (m_put l dC dI H.size h qa x0 x3 x4 x13 x14 x15 x16 x17 x18 x19 x20 x21 x22 x23 x24 x26 x27 x28 cB LL ft d6_ (by omega)) (cwV 1 hts (gG_V kw_514 kw_515 kw_516 kw_5 kw_517) rfl rfl rfl (by decide +kernel) ⟨Nat.le_of_ble_eq_true rfl, Nat.le_of_ble_eq_true rfl⟩) (g_preV (C := RX11) (T := TX11) (N := 53) hP hD hK hS hA hN hZ (q0 := 0) rfl rfl [0, 1] (by decide) rfl [0] rfl) rfl rfl hl.1 rfl (lv_room (Nat.le_of_ble_eq_true rfl)) dX11_putTwo_7 ⟨Nat.le_of_ble_eq_true rfl, Nat.le_of_ble_eq_true rfl⟩) hP hD hK hS hA [0, 1] [] rfl rfl (by decide) (by decide) (fun w ty1 H locs hw_7 hP hD _ hS => ?_)
  rcases hw_7 with ⟨ft2_7, hu⟩
  cases hu
  have hP : va_P (dC, dI) vwCl [(h, .inr (10, mdF qa x0 (nI (LL + 1)) x3 x4 x13 x14 x15 x16 x17 x18 x19 x20 x21 x22 x23 x24 x26 x27 x28)), (qa 1, .inl (cB, 9000, .inl ft2_7))] H := hP
  have hD : va_D A [(h, .inr (10, mdF qa x0 (nI (LL + 1)) x3 x4 x13 x14 x15 x16 x17 x18 x19 x20 x21 x22 x23 x24 x26 x27 x28)), (qa 1, .inl (cB, 9000, .inl ft2_7))] := hD
  refine lv_aload_n hx hb dX11_putTwo_10 rfl (lv_at hl 0 rfl) ?_
  refine lv_iload_n hx hb dX11_putTwo_11 rfl (lv_at hl 1 rfl) ?_
  refine lv_iconst (v := 2) hx hb dX11_putTwo_12 (by decide) ?_
  refine lv_idiv hx hb dX11_putTwo_13 (by decide) ?_
  refine lv_topi (fun d13_ ed13_ => ?_)
  refine g_callv (wr := []) (va_runV (As := [.int d13_]) (rest := []) ⟨hx, hb, hml, hown, hts⟩ (m_put l dC dI H.size h qa x0 x3 x4 x13 x14 x15 x16 x17 x18 x19 x20 x21 x22 x23 x24 x26 x27 x28 cB (LL + 1) ft2_7 d13_ (by omega)) (cwV 1 hts (gG_V kw_514 kw_515 kw_516 kw_5 kw_517) rfl rfl rfl (by decide +kernel) ⟨Nat.le_of_ble_eq_true rfl, Nat.le_of_ble_eq_true rfl⟩) (g_preV (C := RX11) (T := TX11) (N := 53) hP hD hK hS hA hN hZ (q0 := 0) rfl rfl [0, 1] (by decide) rfl [0] rfl) rfl rfl hl.1 rfl (lv_room (Nat.le_of_ble_eq_true rfl)) dX11_putTwo_14 ⟨Nat.le_of_ble_eq_true rfl, Nat.le_of_ble_eq_true rfl⟩) hP hD hK hS hA [0, 1] [] rfl rfl (by decide) (by decide) (fun w ty1 H locs hw_14 hP hD _ hS => ?_)
  rcases hw_14 with ⟨ft2_14, hu⟩
  cases hu
  have hP : va_P (dC, dI) vwCl [(h, .inr (10, mdF qa x0 (nI ((LL + 1) + 1)) x3 x4 x13 x14 x15 x16 x17 x18 x19 x20 x21 x22 x23 x24 x26 x27 x28)), (qa 1, .inl (cB, 9000, .inl ft2_14))] H := hP
  have hD : va_D A [(h, .inr (10, mdF qa x0 (nI ((LL + 1) + 1)) x3 x4 x13 x14 x15 x16 x17 x18 x19 x20 x21 x22 x23 x24 x26 x27 x28)), (qa 1, .inl (cB, 9000, .inl ft2_14))] := hD
  have hP9 := hP.sub (ws' := [(h, .inr (10, mdF qa x0 (nI ((LL + 1) + 1)) x3 x4 x13 x14 x15 x16 x17 x18 x19 x20 x21 x22 x23 x24 x26 x27 x28)), (qa 1, .inl (cB, 9000, .inl ft2_14))]) [0, 1] rfl
  have hD9 := hD.sub (ws' := [(h, .inr (10, mdF qa x0 (nI ((LL + 1) + 1)) x3 x4 x13 x14 x15 x16 x17 x18 x19 x20 x21 x22 x23 x24 x26 x27 x28)), (qa 1, .inl (cB, 9000, .inl ft2_14))]) [0, 1] (by decide) rfl
  have hK9 := hK.sub (tys' := []) [] rfl
  exact W.vret hx hb hr (fun t ht hW => ⟨⟨([(h, .inr (10, mdF qa x0 (nI ((LL + 1) + 1)) x3 x4 x13 x14 x15 x16 x17 x18 x19 x20 x21 x22 x23 x24 x26 x27 x28)), (qa 1, .inl (cB, 9000, .inl ft2_14))], []), rfl, ⟨ft2_14, rfl⟩, by rw [ht]; exact hP9, va_K.moved hW.alike hK9, hD9⟩, hS.F ht⟩) hS.2.2 dX11_putTwo_17

set_option maxHeartbeats 400000 in
set_option maxRecDepth 100000 in
/-- types -/
theorem m_types (l : Launch) (dC : Nat → ClassId) (dI : Nat → Nat → Nat) (sz : Nat) (h : Nat) (qa : Nat → Nat) (x0 x3 x4 x13 x14 x15 x16 x17 x18 x19 x20 x21 x22 x23 x24 x26 x27 x28 : Int32) (cB : ClassId) (LL : Nat) (ft : Nat → Int32) (v : Int32) (hLL : LL + 4 ≤ 9000) : Met l yX11_types (wsG (.code yX11_types cX11_types 3 none)) ({ frames := 0, cells := 0, slots := 0, locals := 0 }) (va_Pc [.ref h, .int v] (gP (dC, dI) [(cB, .byte)] [(h, .inr (10, mdF qa x0 (nI LL) x3 x4 x13 x14 x15 x16 x17 x18 x19 x20 x21 x22 x23 x24 x26 x27 x28)), (qa 1, .inl (cB, 9000, .inl ft))] sz)) (va_Qv (fun u : va_W × gT => ∃ (ft2 : Nat → Int32), u = ([(h, .inr (10, mdF qa x0 (nI (LL + 4)) x3 x4 x13 x14 x15 x16 x17 x18 x19 x20 x21 x22 x23 x24 x26 x27 x28)), (qa 1, .inl (cB, 9000, .inl ft2))], [])) (gB (dC, dI) (va_A [(h, .inr (10, mdF qa x0 (nI LL) x3 x4 x13 x14 x15 x16 x17 x18 x19 x20 x21 x22 x23 x24 x26 x27 x28)), (qa 1, .inl (cB, 9000, .inl ft))] sz)) (va_A [(h, .inr (10, mdF qa x0 (nI LL) x3 x4 x13 x14 x15 x16 x17 x18 x19 x20 x21 x22 x23 x24 x26 x27 x28)), (qa 1, .inl (cB, 9000, .inl ft))] sz)) 0 0 (va_A [(h, .inr (10, mdF qa x0 (nI LL) x3 x4 x13 x14 x15 x16 x17 x18 x19 x20 x21 x22 x23 x24 x26 x27 x28)), (qa 1, .inl (cB, 9000, .inl ft))] sz) := by
  refine Met.ofW (cc := cX11_types) (maxL := 3) (ret := none) (by decide) rfl ?_
  intro p e s m args below meth c s₁ B hml hv
  obtain ⟨rfl, hsz, hP, hK, hD0, hN, hZ⟩ := hv
  have hx := B.exec
  have hb := B.bytes
  have hr := B.returns
  have hts := atoms_spec (ws := (wsG (.code yX11_types cX11_types 3 none))) B.pre
  have hown : s.vm.findClass RX11 = some m.cls := findClass_of_methodNamed B.named
  have hlocks := B.notSynchronized
  subst hsz
  have hD := hD0.self (sz := s.heap.size)
  generalize hAe : va_A [(h, .inr (10, mdF qa x0 (nI LL) x3 x4 x13 x14 x15 x16 x17 x18 x19 x20 x21 x22 x23 x24 x26 x27 x28)), (qa 1, .inl (cB, 9000, .inl ft))] s.heap.size = A at hD hZ ⊢
  have hA : ∀ q : Nat, s.heap.size ≤ q → A q := fun q h => by rw [← hAe]; exact Or.inr h
  have hl := lv_entry ([.ref h, .int v]) (n := 3) (Nat.le_of_ble_eq_true rfl)
  rw [lg_entry_eq]
  generalize (lg_sl ([.ref h, .int v]) ++ List.replicate (3 - (lg_sl ([.ref h, .int v])).length) Slot.unset).toArray = ls at hl ⊢
  have hl : lv_has ls 3 [(0, .ref h), (1, .int v)] := hl
  refine g_start (A := A) hP (fun H locs hP hS => ?_)
  refine lv_bipush (v := 24) hx hb dX11_types_0 (by decide) ?_
  refine lv_istore_n (lv' := [(2, .int 24), (0, .ref h), (1, .int v)]) hx hb dX11_types_2 rfl hl (by decide) rfl (fun ls hl => ?_)
  refine lv_iload_n hx hb dX11_types_3 rfl (lv_at hl 0 rfl) ?_
  refine lv_if_lt (tgt := 36) hx hb dX11_types_4 (by decide) (fun c_4 => absurd c_4 (by decide)) (fun c_4 => ?_)
  refine lv_aload_n hx hb dX11_types_7 rfl (lv_at hl 1 rfl) ?_
  refine va_get (D := (dC, dI)) (ci := 10) (v := .ref (qa 1)) (C := RX11) (T := TX11) (N := 53) hx hb hts iwX11 hown hK hP 0 rfl rfl 1 (by decide) (hts (.fieldLink RX11 9 "ModulePlayerModel" "tape" "[B") (List.mem_cons_of_mem _ kw_171)) (fun _ h9 => h9) rfl dX11_types_8 ?_
  refine lv_aload_n hx hb dX11_types_11 rfl (lv_at hl 1 rfl) ?_
  refine va_get (D := (dC, dI)) (ci := 10) (v := .int (nI LL)) (C := RX11) (T := TX11) (N := 53) hx hb hts iwX11 hown hK hP 0 rfl rfl 2 (by decide) (hts (.fieldLink RX11 138 "ModulePlayerModel" "taped" "I") (List.mem_cons_of_mem _ kw_253)) (fun _ h9 => h9) rfl dX11_types_12 ?_
  refine lv_iload_n hx hb dX11_types_15 rfl (lv_at hl 2 rfl) ?_
  refine lv_iload_n hx hb dX11_types_16 rfl (lv_at hl 0 rfl) ?_
  refine lv_ishr hx hb dX11_types_17 ?_
  refine lv_topi (fun u17_0 eu17_0 => ?_)
  refine lv_i2b (v := u17_0.toInt8.toInt32) hx hb dX11_types_18 rfl ?_
  refine g_bast hx hb hK hP hD hS 1 0 rfl rfl (x' := u17_0.toInt8.toInt32) (pk_vb _) LL (nI_clamp (Nat.lt_trans (show LL < 9000 from by omega) (by decide))) (vp_in_nI (by omega) (by decide)) dX11_types_19 (fun H locs hP hD hS => ?_)
  have hP : va_P (dC, dI) vwCl [(h, .inr (10, mdF qa x0 (nI LL) x3 x4 x13 x14 x15 x16 x17 x18 x19 x20 x21 x22 x23 x24 x26 x27 x28)), (qa 1, .inl (cB, 9000, .inl (upd ft LL u17_0.toInt8.toInt32)))] H := hP
  have hD : va_D A [(h, .inr (10, mdF qa x0 (nI LL) x3 x4 x13 x14 x15 x16 x17 x18 x19 x20 x21 x22 x23 x24 x26 x27 x28)), (qa 1, .inl (cB, 9000, .inl (upd ft LL u17_0.toInt8.toInt32)))] := hD
  generalize upd ft LL u17_0.toInt8.toInt32 = fg__19 at hP hD
  refine lv_aload_n hx hb dX11_types_20 rfl (lv_at hl 1 rfl) ?_
  refine lv_dup hx hb dX11_types_21 rfl ?_
  refine va_get (D := (dC, dI)) (ci := 10) (v := .int (nI LL)) (C := RX11) (T := TX11) (N := 53) hx hb hts iwX11 hown hK hP 0 rfl rfl 2 (by decide) (hts (.fieldLink RX11 138 "ModulePlayerModel" "taped" "I") (List.mem_cons_of_mem _ kw_253)) (fun _ h9 => h9) rfl dX11_types_22 ?_
  refine lv_iconst (v := 1) hx hb dX11_types_25 (by decide) ?_
  refine lv_iadd hx hb dX11_types_26 ?_
  refine g_topi (y := nI (LL + 1)) (nI_1 _) ?_
  refine va_put (D := (dC, dI)) (ci := 10) (v := .int (nI (LL + 1))) (ty := tyX11 2) (C := RX11) (T := TX11) (N := 53) hx hb hts iwX11 tyX11 tyX11_ok nmX11 hown hK hP hD hS 0 rfl rfl 2 (by decide) (hts (.fieldLink RX11 138 "ModulePlayerModel" "taped" "I") (List.mem_cons_of_mem _ kw_253)) (fun _ h9 => h9) rfl (by decide +kernel) (rfl) (rfl) (Nat.le_of_ble_eq_true rfl) dX11_types_27 (fun H locs hP hD hS => ?_)
  have hP : va_P (dC, dI) vwCl [(h, .inr (10, mdF qa x0 (nI (LL + 1)) x3 x4 x13 x14 x15 x16 x17 x18 x19 x20 x21 x22 x23 x24 x26 x27 x28)), (qa 1, .inl (cB, 9000, .inl fg__19))] H := hP
  have hD : va_D A [(h, .inr (10, mdF qa x0 (nI (LL + 1)) x3 x4 x13 x14 x15 x16 x17 x18 x19 x20 x21 x22 x23 x24 x26 x27 x28)), (qa 1, .inl (cB, 9000, .inl fg__19))] := hD
  refine lv_iinc (v := 16) (lv' := [(2, .int 16), (0, .ref h), (1, .int v)]) hx hb dX11_types_30 hl (k := 0) rfl (by decide) (by decide) rfl (fun ls hl => ?_)
  refine lv_goto (tgt := 3) hx hb dX11_types_33 (by decide) ?_
  refine lv_iload_n hx hb dX11_types_3 rfl (lv_at hl 0 rfl) ?_
  refine lv_if_lt (tgt := 36) hx hb dX11_types_4 (by decide) (fun c_4_2 => absurd c_4_2 (by decide)) (fun c_4_2 => ?_)
  refine lv_aload_n hx hb dX11_types_7 rfl (lv_at hl 1 rfl) ?_
  refine va_get (D := (dC, dI)) (ci := 10) (v := .ref (qa 1)) (C := RX11) (T := TX11) (N := 53) hx hb hts iwX11 hown hK hP 0 rfl rfl 1 (by decide) (hts (.fieldLink RX11 9 "ModulePlayerModel" "tape" "[B") (List.mem_cons_of_mem _ kw_171)) (fun _ h9 => h9) rfl dX11_types_8 ?_
  refine lv_aload_n hx hb dX11_types_11 rfl (lv_at hl 1 rfl) ?_
  refine va_get (D := (dC, dI)) (ci := 10) (v := .int (nI (LL + 1))) (C := RX11) (T := TX11) (N := 53) hx hb hts iwX11 hown hK hP 0 rfl rfl 2 (by decide) (hts (.fieldLink RX11 138 "ModulePlayerModel" "taped" "I") (List.mem_cons_of_mem _ kw_253)) (fun _ h9 => h9) rfl dX11_types_12 ?_
  refine lv_iload_n hx hb dX11_types_15 rfl (lv_at hl 2 rfl) ?_
  refine lv_iload_n hx hb dX11_types_16 rfl (lv_at hl 0 rfl) ?_
  refine lv_ishr hx hb dX11_types_17 ?_
  refine lv_topi (fun u17_1 eu17_1 => ?_)
  refine lv_i2b (v := u17_1.toInt8.toInt32) hx hb dX11_types_18 rfl ?_
  refine g_bast hx hb hK hP hD hS 1 0 rfl rfl (x' := u17_1.toInt8.toInt32) (pk_vb _) (LL + 1) (nI_clamp (Nat.lt_trans (show LL + 1 < 9000 from by omega) (by decide))) (vp_in_nI (by omega) (by decide)) dX11_types_19 (fun H locs hP hD hS => ?_)
  have hP : va_P (dC, dI) vwCl [(h, .inr (10, mdF qa x0 (nI (LL + 1)) x3 x4 x13 x14 x15 x16 x17 x18 x19 x20 x21 x22 x23 x24 x26 x27 x28)), (qa 1, .inl (cB, 9000, .inl (upd fg__19 (LL + 1) u17_1.toInt8.toInt32)))] H := hP
  have hD : va_D A [(h, .inr (10, mdF qa x0 (nI (LL + 1)) x3 x4 x13 x14 x15 x16 x17 x18 x19 x20 x21 x22 x23 x24 x26 x27 x28)), (qa 1, .inl (cB, 9000, .inl (upd fg__19 (LL + 1) u17_1.toInt8.toInt32)))] := hD
  generalize upd fg__19 (LL + 1) u17_1.toInt8.toInt32 = fg__19_2 at hP hD
  refine lv_aload_n hx hb dX11_types_20 rfl (lv_at hl 1 rfl) ?_
  refine lv_dup hx hb dX11_types_21 rfl ?_
  refine va_get (D := (dC, dI)) (ci := 10) (v := .int (nI (LL + 1))) (C := RX11) (T := TX11) (N := 53) hx hb hts iwX11 hown hK hP 0 rfl rfl 2 (by decide) (hts (.fieldLink RX11 138 "ModulePlayerModel" "taped" "I") (List.mem_cons_of_mem _ kw_253)) (fun _ h9 => h9) rfl dX11_types_22 ?_
  refine lv_iconst (v := 1) hx hb dX11_types_25 (by decide) ?_
  refine lv_iadd hx hb dX11_types_26 ?_
  refine g_topi (y := nI ((LL + 1) + 1)) (nI_1 _) ?_
  refine va_put (D := (dC, dI)) (ci := 10) (v := .int (nI ((LL + 1) + 1))) (ty := tyX11 2) (C := RX11) (T := TX11) (N := 53) hx hb hts iwX11 tyX11 tyX11_ok nmX11 hown hK hP hD hS 0 rfl rfl 2 (by decide) (hts (.fieldLink RX11 138 "ModulePlayerModel" "taped" "I") (List.mem_cons_of_mem _ kw_253)) (fun _ h9 => h9) rfl (by decide +kernel) (rfl) (rfl) (Nat.le_of_ble_eq_true rfl) dX11_types_27 (fun H locs hP hD hS => ?_)
  have hP : va_P (dC, dI) vwCl [(h, .inr (10, mdF qa x0 (nI ((LL + 1) + 1)) x3 x4 x13 x14 x15 x16 x17 x18 x19 x20 x21 x22 x23 x24 x26 x27 x28)), (qa 1, .inl (cB, 9000, .inl fg__19_2))] H := hP
  have hD : va_D A [(h, .inr (10, mdF qa x0 (nI ((LL + 1) + 1)) x3 x4 x13 x14 x15 x16 x17 x18 x19 x20 x21 x22 x23 x24 x26 x27 x28)), (qa 1, .inl (cB, 9000, .inl fg__19_2))] := hD
  refine lv_iinc (v := 8) (lv' := [(2, .int 8), (0, .ref h), (1, .int v)]) hx hb dX11_types_30 hl (k := 0) rfl (by decide) (by decide) rfl (fun ls hl => ?_)
  refine lv_goto (tgt := 3) hx hb dX11_types_33 (by decide) ?_
  refine lv_iload_n hx hb dX11_types_3 rfl (lv_at hl 0 rfl) ?_
  refine lv_if_lt (tgt := 36) hx hb dX11_types_4 (by decide) (fun c_4_3 => absurd c_4_3 (by decide)) (fun c_4_3 => ?_)
  refine lv_aload_n hx hb dX11_types_7 rfl (lv_at hl 1 rfl) ?_
  refine va_get (D := (dC, dI)) (ci := 10) (v := .ref (qa 1)) (C := RX11) (T := TX11) (N := 53) hx hb hts iwX11 hown hK hP 0 rfl rfl 1 (by decide) (hts (.fieldLink RX11 9 "ModulePlayerModel" "tape" "[B") (List.mem_cons_of_mem _ kw_171)) (fun _ h9 => h9) rfl dX11_types_8 ?_
  refine lv_aload_n hx hb dX11_types_11 rfl (lv_at hl 1 rfl) ?_
  refine va_get (D := (dC, dI)) (ci := 10) (v := .int (nI ((LL + 1) + 1))) (C := RX11) (T := TX11) (N := 53) hx hb hts iwX11 hown hK hP 0 rfl rfl 2 (by decide) (hts (.fieldLink RX11 138 "ModulePlayerModel" "taped" "I") (List.mem_cons_of_mem _ kw_253)) (fun _ h9 => h9) rfl dX11_types_12 ?_
  refine lv_iload_n hx hb dX11_types_15 rfl (lv_at hl 2 rfl) ?_
  refine lv_iload_n hx hb dX11_types_16 rfl (lv_at hl 0 rfl) ?_
  refine lv_ishr hx hb dX11_types_17 ?_
  refine lv_topi (fun u17_2 eu17_2 => ?_)
  refine lv_i2b (v := u17_2.toInt8.toInt32) hx hb dX11_types_18 rfl ?_
  refine g_bast hx hb hK hP hD hS 1 0 rfl rfl (x' := u17_2.toInt8.toInt32) (pk_vb _) ((LL + 1) + 1) (nI_clamp (Nat.lt_trans (show (LL + 1) + 1 < 9000 from by omega) (by decide))) (vp_in_nI (by omega) (by decide)) dX11_types_19 (fun H locs hP hD hS => ?_)
  have hP : va_P (dC, dI) vwCl [(h, .inr (10, mdF qa x0 (nI ((LL + 1) + 1)) x3 x4 x13 x14 x15 x16 x17 x18 x19 x20 x21 x22 x23 x24 x26 x27 x28)), (qa 1, .inl (cB, 9000, .inl (upd fg__19_2 ((LL + 1) + 1) u17_2.toInt8.toInt32)))] H := hP
  have hD : va_D A [(h, .inr (10, mdF qa x0 (nI ((LL + 1) + 1)) x3 x4 x13 x14 x15 x16 x17 x18 x19 x20 x21 x22 x23 x24 x26 x27 x28)), (qa 1, .inl (cB, 9000, .inl (upd fg__19_2 ((LL + 1) + 1) u17_2.toInt8.toInt32)))] := hD
  generalize upd fg__19_2 ((LL + 1) + 1) u17_2.toInt8.toInt32 = fg__19_3 at hP hD
  refine lv_aload_n hx hb dX11_types_20 rfl (lv_at hl 1 rfl) ?_
  refine lv_dup hx hb dX11_types_21 rfl ?_
  refine va_get (D := (dC, dI)) (ci := 10) (v := .int (nI ((LL + 1) + 1))) (C := RX11) (T := TX11) (N := 53) hx hb hts iwX11 hown hK hP 0 rfl rfl 2 (by decide) (hts (.fieldLink RX11 138 "ModulePlayerModel" "taped" "I") (List.mem_cons_of_mem _ kw_253)) (fun _ h9 => h9) rfl dX11_types_22 ?_
  refine lv_iconst (v := 1) hx hb dX11_types_25 (by decide) ?_
  refine lv_iadd hx hb dX11_types_26 ?_
  refine g_topi (y := nI (((LL + 1) + 1) + 1)) (nI_1 _) ?_
  refine va_put (D := (dC, dI)) (ci := 10) (v := .int (nI (((LL + 1) + 1) + 1))) (ty := tyX11 2) (C := RX11) (T := TX11) (N := 53) hx hb hts iwX11 tyX11 tyX11_ok nmX11 hown hK hP hD hS 0 rfl rfl 2 (by decide) (hts (.fieldLink RX11 138 "ModulePlayerModel" "taped" "I") (List.mem_cons_of_mem _ kw_253)) (fun _ h9 => h9) rfl (by decide +kernel) (rfl) (rfl) (Nat.le_of_ble_eq_true rfl) dX11_types_27 (fun H locs hP hD hS => ?_)
  have hP : va_P (dC, dI) vwCl [(h, .inr (10, mdF qa x0 (nI (((LL + 1) + 1) + 1)) x3 x4 x13 x14 x15 x16 x17 x18 x19 x20 x21 x22 x23 x24 x26 x27 x28)), (qa 1, .inl (cB, 9000, .inl fg__19_3))] H := hP
  have hD : va_D A [(h, .inr (10, mdF qa x0 (nI (((LL + 1) + 1) + 1)) x3 x4 x13 x14 x15 x16 x17 x18 x19 x20 x21 x22 x23 x24 x26 x27 x28)), (qa 1, .inl (cB, 9000, .inl fg__19_3))] := hD
  refine lv_iinc (v := 0) (lv' := [(2, .int 0), (0, .ref h), (1, .int v)]) hx hb dX11_types_30 hl (k := 0) rfl (by decide) (by decide) rfl (fun ls hl => ?_)
  refine lv_goto (tgt := 3) hx hb dX11_types_33 (by decide) ?_
  refine lv_iload_n hx hb dX11_types_3 rfl (lv_at hl 0 rfl) ?_
  refine lv_if_lt (tgt := 36) hx hb dX11_types_4 (by decide) (fun c_4_4 => absurd c_4_4 (by decide)) (fun c_4_4 => ?_)
  refine lv_aload_n hx hb dX11_types_7 rfl (lv_at hl 1 rfl) ?_
  refine va_get (D := (dC, dI)) (ci := 10) (v := .ref (qa 1)) (C := RX11) (T := TX11) (N := 53) hx hb hts iwX11 hown hK hP 0 rfl rfl 1 (by decide) (hts (.fieldLink RX11 9 "ModulePlayerModel" "tape" "[B") (List.mem_cons_of_mem _ kw_171)) (fun _ h9 => h9) rfl dX11_types_8 ?_
  refine lv_aload_n hx hb dX11_types_11 rfl (lv_at hl 1 rfl) ?_
  refine va_get (D := (dC, dI)) (ci := 10) (v := .int (nI (((LL + 1) + 1) + 1))) (C := RX11) (T := TX11) (N := 53) hx hb hts iwX11 hown hK hP 0 rfl rfl 2 (by decide) (hts (.fieldLink RX11 138 "ModulePlayerModel" "taped" "I") (List.mem_cons_of_mem _ kw_253)) (fun _ h9 => h9) rfl dX11_types_12 ?_
  refine lv_iload_n hx hb dX11_types_15 rfl (lv_at hl 2 rfl) ?_
  refine lv_iload_n hx hb dX11_types_16 rfl (lv_at hl 0 rfl) ?_
  refine lv_ishr hx hb dX11_types_17 ?_
  refine lv_topi (fun u17_3 eu17_3 => ?_)
  refine lv_i2b (v := u17_3.toInt8.toInt32) hx hb dX11_types_18 rfl ?_
  refine g_bast hx hb hK hP hD hS 1 0 rfl rfl (x' := u17_3.toInt8.toInt32) (pk_vb _) (((LL + 1) + 1) + 1) (nI_clamp (Nat.lt_trans (show ((LL + 1) + 1) + 1 < 9000 from by omega) (by decide))) (vp_in_nI (by omega) (by decide)) dX11_types_19 (fun H locs hP hD hS => ?_)
  have hP : va_P (dC, dI) vwCl [(h, .inr (10, mdF qa x0 (nI (((LL + 1) + 1) + 1)) x3 x4 x13 x14 x15 x16 x17 x18 x19 x20 x21 x22 x23 x24 x26 x27 x28)), (qa 1, .inl (cB, 9000, .inl (upd fg__19_3 (((LL + 1) + 1) + 1) u17_3.toInt8.toInt32)))] H := hP
  have hD : va_D A [(h, .inr (10, mdF qa x0 (nI (((LL + 1) + 1) + 1)) x3 x4 x13 x14 x15 x16 x17 x18 x19 x20 x21 x22 x23 x24 x26 x27 x28)), (qa 1, .inl (cB, 9000, .inl (upd fg__19_3 (((LL + 1) + 1) + 1) u17_3.toInt8.toInt32)))] := hD
  generalize upd fg__19_3 (((LL + 1) + 1) + 1) u17_3.toInt8.toInt32 = fg__19_4 at hP hD
  refine lv_aload_n hx hb dX11_types_20 rfl (lv_at hl 1 rfl) ?_
  refine lv_dup hx hb dX11_types_21 rfl ?_
  refine va_get (D := (dC, dI)) (ci := 10) (v := .int (nI (((LL + 1) + 1) + 1))) (C := RX11) (T := TX11) (N := 53) hx hb hts iwX11 hown hK hP 0 rfl rfl 2 (by decide) (hts (.fieldLink RX11 138 "ModulePlayerModel" "taped" "I") (List.mem_cons_of_mem _ kw_253)) (fun _ h9 => h9) rfl dX11_types_22 ?_
  refine lv_iconst (v := 1) hx hb dX11_types_25 (by decide) ?_
  refine lv_iadd hx hb dX11_types_26 ?_
  refine g_topi (y := nI ((((LL + 1) + 1) + 1) + 1)) (nI_1 _) ?_
  refine va_put (D := (dC, dI)) (ci := 10) (v := .int (nI ((((LL + 1) + 1) + 1) + 1))) (ty := tyX11 2) (C := RX11) (T := TX11) (N := 53) hx hb hts iwX11 tyX11 tyX11_ok nmX11 hown hK hP hD hS 0 rfl rfl 2 (by decide) (hts (.fieldLink RX11 138 "ModulePlayerModel" "taped" "I") (List.mem_cons_of_mem _ kw_253)) (fun _ h9 => h9) rfl (by decide +kernel) (rfl) (rfl) (Nat.le_of_ble_eq_true rfl) dX11_types_27 (fun H locs hP hD hS => ?_)
  have hP : va_P (dC, dI) vwCl [(h, .inr (10, mdF qa x0 (nI ((((LL + 1) + 1) + 1) + 1)) x3 x4 x13 x14 x15 x16 x17 x18 x19 x20 x21 x22 x23 x24 x26 x27 x28)), (qa 1, .inl (cB, 9000, .inl fg__19_4))] H := hP
  have hD : va_D A [(h, .inr (10, mdF qa x0 (nI ((((LL + 1) + 1) + 1) + 1)) x3 x4 x13 x14 x15 x16 x17 x18 x19 x20 x21 x22 x23 x24 x26 x27 x28)), (qa 1, .inl (cB, 9000, .inl fg__19_4))] := hD
  refine lv_iinc (v := (-8)) (lv' := [(2, .int (-8)), (0, .ref h), (1, .int v)]) hx hb dX11_types_30 hl (k := 0) rfl (by decide) (by decide) rfl (fun ls hl => ?_)
  refine lv_goto (tgt := 3) hx hb dX11_types_33 (by decide) ?_
  refine lv_iload_n hx hb dX11_types_3 rfl (lv_at hl 0 rfl) ?_
  refine lv_if_lt (tgt := 36) hx hb dX11_types_4 (by decide) (fun c_4_5 => ?_) (fun c_4_5 => absurd c_4_5 (by decide))
  have hP9 := hP.sub (ws' := [(h, .inr (10, mdF qa x0 (nI ((((LL + 1) + 1) + 1) + 1)) x3 x4 x13 x14 x15 x16 x17 x18 x19 x20 x21 x22 x23 x24 x26 x27 x28)), (qa 1, .inl (cB, 9000, .inl fg__19_4))]) [0, 1] rfl
  have hD9 := hD.sub (ws' := [(h, .inr (10, mdF qa x0 (nI ((((LL + 1) + 1) + 1) + 1)) x3 x4 x13 x14 x15 x16 x17 x18 x19 x20 x21 x22 x23 x24 x26 x27 x28)), (qa 1, .inl (cB, 9000, .inl fg__19_4))]) [0, 1] (by decide) rfl
  have hK9 := hK.sub (tys' := []) [] rfl
  exact W.vret hx hb hr (fun t ht hW => ⟨⟨([(h, .inr (10, mdF qa x0 (nI ((((LL + 1) + 1) + 1) + 1)) x3 x4 x13 x14 x15 x16 x17 x18 x19 x20 x21 x22 x23 x24 x26 x27 x28)), (qa 1, .inl (cB, 9000, .inl fg__19_4))], []), rfl, ⟨fg__19_4, rfl⟩, by rw [ht]; exact hP9, va_K.moved hW.alike hK9, hD9⟩, hS.F ht⟩) hS.2.2 dX11_types_36

set_option maxHeartbeats 400000 in
set_option maxRecDepth 100000 in
theorem mf_feed (l : Launch) (dC : Nat → ClassId) (dI : Nat → Nat → Nat) (sz : Nat) (h : Nat) (qa : Nat → Nat) (kk : Nat) (cB : ClassId) (x1_ x2_ x3_ x4_ x5_ : Int32) : Met l yX11_feed (wsG (.code yX11_feed cX11_feed 6 (some .int))) ({ frames := 1, cells := 0, slots := 0, locals := 22 }) (va_Pc [.ref h, .int x1_, .int x2_, .int x3_, .int x4_, .int x5_] (gP (dC, dI) [(cB, .byte)] [(h, .inr (10, mdF qa (nI kk) 0 0 (-1) 1 0 6 125 (-1) (-1) (-1) 0 0 17 0 (-1) 0 0 0)), (qa 1, .inl (cB, 9000, .inl (fun _ => 0)))] sz)) (va_Qi (fun (r : Int32) (u : va_W × gT) => u = ([], []) ∧ r = 20) (gB (dC, dI) (va_A [(h, .inr (10, mdF qa (nI kk) 0 0 (-1) 1 0 6 125 (-1) (-1) (-1) 0 0 17 0 (-1) 0 0 0)), (qa 1, .inl (cB, 9000, .inl (fun _ => 0)))] sz)) (va_A [(h, .inr (10, mdF qa (nI kk) 0 0 (-1) 1 0 6 125 (-1) (-1) (-1) 0 0 17 0 (-1) 0 0 0)), (qa 1, .inl (cB, 9000, .inl (fun _ => 0)))] sz)) 0 0 (va_A [(h, .inr (10, mdF qa (nI kk) 0 0 (-1) 1 0 6 125 (-1) (-1) (-1) 0 0 17 0 (-1) 0 0 0)), (qa 1, .inl (cB, 9000, .inl (fun _ => 0)))] sz) := by
  refine Met.ofW (cc := cX11_feed) (maxL := 6) (ret := (some .int)) (by decide) rfl ?_
  intro p e s m args below meth c s₁ B hml hv
  obtain ⟨rfl, hsz, hP, hK, hD0, hN, hZ⟩ := hv
  have hx := B.exec
  have hb := B.bytes
  have hr := B.returns
  have hts := atoms_spec (ws := (wsG (.code yX11_feed cX11_feed 6 (some .int)))) B.pre
  have hown : s.vm.findClass RX11 = some m.cls := findClass_of_methodNamed B.named
  have hlocks := B.notSynchronized
  subst hsz
  have hD := hD0.self (sz := s.heap.size)
  generalize hAe : va_A [(h, .inr (10, mdF qa (nI kk) 0 0 (-1) 1 0 6 125 (-1) (-1) (-1) 0 0 17 0 (-1) 0 0 0)), (qa 1, .inl (cB, 9000, .inl (fun _ => 0)))] s.heap.size = A at hD hZ ⊢
  have hA : ∀ q : Nat, s.heap.size ≤ q → A q := fun q h => by rw [← hAe]; exact Or.inr h
  have hl := lv_entry ([.ref h, .int x1_, .int x2_, .int x3_, .int x4_, .int x5_]) (n := 6) (Nat.le_of_ble_eq_true rfl)
  rw [lg_entry_eq]
  generalize (lg_sl ([.ref h, .int x1_, .int x2_, .int x3_, .int x4_, .int x5_]) ++ List.replicate (6 - (lg_sl ([.ref h, .int x1_, .int x2_, .int x3_, .int x4_, .int x5_])).length) Slot.unset).toArray = ls at hl ⊢
  have hl : lv_has ls 6 [(0, .ref h), (1, .int x1_), (2, .int x2_), (3, .int x3_), (4, .int x4_), (5, .int x5_)] := hl
  refine g_start (A := A) hP (fun H locs hP hS => ?_)
  refine lv_aload_n hx hb dX11_feed_0 rfl (lv_at hl 0 rfl) ?_
  refine va_get (D := (dC, dI)) (ci := 10) (v := .int 0) (C := RX11) (T := TX11) (N := 53) hx hb hts iwX11 hown hK hP 0 rfl rfl 2 (by decide) (hts (.fieldLink RX11 138 "ModulePlayerModel" "taped" "I") (List.mem_cons_of_mem _ kw_253)) (fun _ h9 => h9) rfl dX11_feed_1 ?_
  refine lv_sipush (v := 8980) hx hb dX11_feed_4 (by decide) ?_
  refine lv_icmp_le (tgt := 12) hx hb dX11_feed_7 (by decide) (fun c_7 => ?_) (fun c_7 => absurd c_7 (by decide))
  refine lv_aload_n hx hb dX11_feed_12 rfl (lv_at hl 0 rfl) ?_
  refine lv_iload_n hx hb dX11_feed_13 rfl (lv_at hl 1 rfl) ?_
  refine g_callv (wr := []) (va_runV (As := [.int x1_]) (rest := []) ⟨hx, hb, hml, hown, hts⟩ (m_types l dC dI H.size h qa (nI kk) 0 (-1) 1 0 6 125 (-1) (-1) (-1) 0 0 17 0 (-1) 0 0 0 cB 0 (fun _ => 0) x1_ (by decide)) (cwV 1 hts (gG_V kw_254 kw_255 kw_256 kw_5 kw_257) rfl rfl rfl (by decide +kernel) ⟨Nat.le_of_ble_eq_true rfl, Nat.le_of_ble_eq_true rfl⟩) (g_preV (C := RX11) (T := TX11) (N := 53) hP hD hK hS hA hN hZ (q0 := 0) rfl rfl [0, 1] (by decide) rfl [0] rfl) rfl rfl hl.1 rfl (lv_room (Nat.le_of_ble_eq_true rfl)) dX11_feed_14 ⟨Nat.le_of_ble_eq_true rfl, Nat.le_of_ble_eq_true rfl⟩) hP hD hK hS hA [0, 1] [] rfl rfl (by decide) (by decide) (fun w ty1 H locs hw_14 hP hD _ hS => ?_)
  rcases hw_14 with ⟨ft2_14, hu⟩
  cases hu
  have hP : va_P (dC, dI) vwCl [(h, .inr (10, mdF qa (nI kk) (nI (0 + 4)) 0 (-1) 1 0 6 125 (-1) (-1) (-1) 0 0 17 0 (-1) 0 0 0)), (qa 1, .inl (cB, 9000, .inl ft2_14))] H := hP
  have hD : va_D A [(h, .inr (10, mdF qa (nI kk) (nI (0 + 4)) 0 (-1) 1 0 6 125 (-1) (-1) (-1) 0 0 17 0 (-1) 0 0 0)), (qa 1, .inl (cB, 9000, .inl ft2_14))] := hD
  refine lv_aload_n hx hb dX11_feed_17 rfl (lv_at hl 0 rfl) ?_
  refine lv_iload_n hx hb dX11_feed_18 rfl (lv_at hl 2 rfl) ?_
  refine g_callv (wr := []) (va_runV (As := [.int x2_]) (rest := []) ⟨hx, hb, hml, hown, hts⟩ (m_types l dC dI H.size h qa (nI kk) 0 (-1) 1 0 6 125 (-1) (-1) (-1) 0 0 17 0 (-1) 0 0 0 cB (0 + 4) ft2_14 x2_ (by decide)) (cwV 1 hts (gG_V kw_254 kw_255 kw_256 kw_5 kw_257) rfl rfl rfl (by decide +kernel) ⟨Nat.le_of_ble_eq_true rfl, Nat.le_of_ble_eq_true rfl⟩) (g_preV (C := RX11) (T := TX11) (N := 53) hP hD hK hS hA hN hZ (q0 := 0) rfl rfl [0, 1] (by decide) rfl [0] rfl) rfl rfl hl.1 rfl (lv_room (Nat.le_of_ble_eq_true rfl)) dX11_feed_19 ⟨Nat.le_of_ble_eq_true rfl, Nat.le_of_ble_eq_true rfl⟩) hP hD hK hS hA [0, 1] [] rfl rfl (by decide) (by decide) (fun w ty1 H locs hw_19 hP hD _ hS => ?_)
  rcases hw_19 with ⟨ft2_19, hu⟩
  cases hu
  have hP : va_P (dC, dI) vwCl [(h, .inr (10, mdF qa (nI kk) (nI ((0 + 4) + 4)) 0 (-1) 1 0 6 125 (-1) (-1) (-1) 0 0 17 0 (-1) 0 0 0)), (qa 1, .inl (cB, 9000, .inl ft2_19))] H := hP
  have hD : va_D A [(h, .inr (10, mdF qa (nI kk) (nI ((0 + 4) + 4)) 0 (-1) 1 0 6 125 (-1) (-1) (-1) 0 0 17 0 (-1) 0 0 0)), (qa 1, .inl (cB, 9000, .inl ft2_19))] := hD
  refine lv_aload_n hx hb dX11_feed_22 rfl (lv_at hl 0 rfl) ?_
  refine lv_iload_n hx hb dX11_feed_23 rfl (lv_at hl 3 rfl) ?_
  refine g_callv (wr := []) (va_runV (As := [.int x3_]) (rest := []) ⟨hx, hb, hml, hown, hts⟩ (m_types l dC dI H.size h qa (nI kk) 0 (-1) 1 0 6 125 (-1) (-1) (-1) 0 0 17 0 (-1) 0 0 0 cB ((0 + 4) + 4) ft2_19 x3_ (by decide)) (cwV 1 hts (gG_V kw_254 kw_255 kw_256 kw_5 kw_257) rfl rfl rfl (by decide +kernel) ⟨Nat.le_of_ble_eq_true rfl, Nat.le_of_ble_eq_true rfl⟩) (g_preV (C := RX11) (T := TX11) (N := 53) hP hD hK hS hA hN hZ (q0 := 0) rfl rfl [0, 1] (by decide) rfl [0] rfl) rfl rfl hl.1 rfl (lv_room (Nat.le_of_ble_eq_true rfl)) dX11_feed_24 ⟨Nat.le_of_ble_eq_true rfl, Nat.le_of_ble_eq_true rfl⟩) hP hD hK hS hA [0, 1] [] rfl rfl (by decide) (by decide) (fun w ty1 H locs hw_24 hP hD _ hS => ?_)
  rcases hw_24 with ⟨ft2_24, hu⟩
  cases hu
  have hP : va_P (dC, dI) vwCl [(h, .inr (10, mdF qa (nI kk) (nI (((0 + 4) + 4) + 4)) 0 (-1) 1 0 6 125 (-1) (-1) (-1) 0 0 17 0 (-1) 0 0 0)), (qa 1, .inl (cB, 9000, .inl ft2_24))] H := hP
  have hD : va_D A [(h, .inr (10, mdF qa (nI kk) (nI (((0 + 4) + 4) + 4)) 0 (-1) 1 0 6 125 (-1) (-1) (-1) 0 0 17 0 (-1) 0 0 0)), (qa 1, .inl (cB, 9000, .inl ft2_24))] := hD
  refine lv_aload_n hx hb dX11_feed_27 rfl (lv_at hl 0 rfl) ?_
  refine lv_iload hx hb dX11_feed_28 (lv_at hl 4 rfl) ?_
  refine g_callv (wr := []) (va_runV (As := [.int x4_]) (rest := []) ⟨hx, hb, hml, hown, hts⟩ (m_types l dC dI H.size h qa (nI kk) 0 (-1) 1 0 6 125 (-1) (-1) (-1) 0 0 17 0 (-1) 0 0 0 cB (((0 + 4) + 4) + 4) ft2_24 x4_ (by decide)) (cwV 1 hts (gG_V kw_254 kw_255 kw_256 kw_5 kw_257) rfl rfl rfl (by decide +kernel) ⟨Nat.le_of_ble_eq_true rfl, Nat.le_of_ble_eq_true rfl⟩) (g_preV (C := RX11) (T := TX11) (N := 53) hP hD hK hS hA hN hZ (q0 := 0) rfl rfl [0, 1] (by decide) rfl [0] rfl) rfl rfl hl.1 rfl (lv_room (Nat.le_of_ble_eq_true rfl)) dX11_feed_30 ⟨Nat.le_of_ble_eq_true rfl, Nat.le_of_ble_eq_true rfl⟩) hP hD hK hS hA [0, 1] [] rfl rfl (by decide) (by decide) (fun w ty1 H locs hw_30 hP hD _ hS => ?_)
  rcases hw_30 with ⟨ft2_30, hu⟩
  cases hu
  have hP : va_P (dC, dI) vwCl [(h, .inr (10, mdF qa (nI kk) (nI ((((0 + 4) + 4) + 4) + 4)) 0 (-1) 1 0 6 125 (-1) (-1) (-1) 0 0 17 0 (-1) 0 0 0)), (qa 1, .inl (cB, 9000, .inl ft2_30))] H := hP
  have hD : va_D A [(h, .inr (10, mdF qa (nI kk) (nI ((((0 + 4) + 4) + 4) + 4)) 0 (-1) 1 0 6 125 (-1) (-1) (-1) 0 0 17 0 (-1) 0 0 0)), (qa 1, .inl (cB, 9000, .inl ft2_30))] := hD
  refine lv_aload_n hx hb dX11_feed_33 rfl (lv_at hl 0 rfl) ?_
  refine lv_iload hx hb dX11_feed_34 (lv_at hl 5 rfl) ?_
  refine g_callv (wr := []) (va_runV (As := [.int x5_]) (rest := []) ⟨hx, hb, hml, hown, hts⟩ (m_types l dC dI H.size h qa (nI kk) 0 (-1) 1 0 6 125 (-1) (-1) (-1) 0 0 17 0 (-1) 0 0 0 cB ((((0 + 4) + 4) + 4) + 4) ft2_30 x5_ (by decide)) (cwV 1 hts (gG_V kw_254 kw_255 kw_256 kw_5 kw_257) rfl rfl rfl (by decide +kernel) ⟨Nat.le_of_ble_eq_true rfl, Nat.le_of_ble_eq_true rfl⟩) (g_preV (C := RX11) (T := TX11) (N := 53) hP hD hK hS hA hN hZ (q0 := 0) rfl rfl [0, 1] (by decide) rfl [0] rfl) rfl rfl hl.1 rfl (lv_room (Nat.le_of_ble_eq_true rfl)) dX11_feed_36 ⟨Nat.le_of_ble_eq_true rfl, Nat.le_of_ble_eq_true rfl⟩) hP hD hK hS hA [0, 1] [] rfl rfl (by decide) (by decide) (fun w ty1 H locs hw_36 hP hD _ hS => ?_)
  rcases hw_36 with ⟨ft2_36, hu⟩
  cases hu
  have hP : va_P (dC, dI) vwCl [(h, .inr (10, mdF qa (nI kk) (nI (((((0 + 4) + 4) + 4) + 4) + 4)) 0 (-1) 1 0 6 125 (-1) (-1) (-1) 0 0 17 0 (-1) 0 0 0)), (qa 1, .inl (cB, 9000, .inl ft2_36))] H := hP
  have hD : va_D A [(h, .inr (10, mdF qa (nI kk) (nI (((((0 + 4) + 4) + 4) + 4) + 4)) 0 (-1) 1 0 6 125 (-1) (-1) (-1) 0 0 17 0 (-1) 0 0 0)), (qa 1, .inl (cB, 9000, .inl ft2_36))] := hD
  refine lv_aload_n hx hb dX11_feed_39 rfl (lv_at hl 0 rfl) ?_
  refine va_get (D := (dC, dI)) (ci := 10) (v := .int (nI (((((0 + 4) + 4) + 4) + 4) + 4))) (C := RX11) (T := TX11) (N := 53) hx hb hts iwX11 hown hK hP 0 rfl rfl 2 (by decide) (hts (.fieldLink RX11 138 "ModulePlayerModel" "taped" "I") (List.mem_cons_of_mem _ kw_253)) (fun _ h9 => h9) rfl dX11_feed_40 ?_
  have hP9 := hP.sub (ws' := []) [] rfl
  have hD9 := hD.sub (ws' := []) [] (by decide) rfl
  have hK9 := hK.sub (tys' := []) [] rfl
  exact W.iret (v := nI (((((0 + 4) + 4) + 4) + 4) + 4)) hx hb hr (fun t ht hW => ⟨⟨nI (((((0 + 4) + 4) + 4) + 4) + 4), ([], []), rfl, ⟨rfl, rfl⟩, by rw [ht]; exact hP9, va_K.moved hW.alike hK9, hD9⟩, hS.F ht⟩) hS.2.2 dX11_feed_43

set_option maxHeartbeats 400000 in
set_option maxRecDepth 100000 in
theorem mf_end (l : Launch) (dC : Nat → ClassId) (dI : Nat → Nat → Nat) (sz : Nat) (h : Nat) (qa : Nat → Nat) (kk : Nat) (n : Int32) : Met l yX11_end (wsG (.code yX11_end cX11_end 2 (some .boolean))) ({ frames := 1, cells := 0, slots := 0, locals := 22 }) (va_Pc [.ref h, .int n] (gP (dC, dI) [] [(h, .inr (10, mdF qa (nI kk) 0 0 (-1) 1 0 6 125 (-1) (-1) (-1) 0 0 17 0 (-1) 0 0 0))] sz)) (va_Qi (fun (r : Int32) (u : va_W × gT) => u = ([], []) ∧ r = bF (n = 0)) (gB (dC, dI) (va_A [(h, .inr (10, mdF qa (nI kk) 0 0 (-1) 1 0 6 125 (-1) (-1) (-1) 0 0 17 0 (-1) 0 0 0))] sz)) (va_A [(h, .inr (10, mdF qa (nI kk) 0 0 (-1) 1 0 6 125 (-1) (-1) (-1) 0 0 17 0 (-1) 0 0 0))] sz)) 0 0 (va_A [(h, .inr (10, mdF qa (nI kk) 0 0 (-1) 1 0 6 125 (-1) (-1) (-1) 0 0 17 0 (-1) 0 0 0))] sz) := by
  refine Met.ofW (cc := cX11_end) (maxL := 2) (ret := (some .boolean)) (by decide) rfl ?_
  intro p e s m args below meth c s₁ B hml hv
  obtain ⟨rfl, hsz, hP, hK, hD0, hN, hZ⟩ := hv
  have hx := B.exec
  have hb := B.bytes
  have hr := B.returns
  have hts := atoms_spec (ws := (wsG (.code yX11_end cX11_end 2 (some .boolean)))) B.pre
  have hown : s.vm.findClass RX11 = some m.cls := findClass_of_methodNamed B.named
  have hlocks := B.notSynchronized
  subst hsz
  have hD := hD0.self (sz := s.heap.size)
  generalize hAe : va_A [(h, .inr (10, mdF qa (nI kk) 0 0 (-1) 1 0 6 125 (-1) (-1) (-1) 0 0 17 0 (-1) 0 0 0))] s.heap.size = A at hD hZ ⊢
  have hA : ∀ q : Nat, s.heap.size ≤ q → A q := fun q h => by rw [← hAe]; exact Or.inr h
  have hl := lv_entry ([.ref h, .int n]) (n := 2) (Nat.le_of_ble_eq_true rfl)
  rw [lg_entry_eq]
  generalize (lg_sl ([.ref h, .int n]) ++ List.replicate (2 - (lg_sl ([.ref h, .int n])).length) Slot.unset).toArray = ls at hl ⊢
  have hl : lv_has ls 2 [(0, .ref h), (1, .int n)] := hl
  refine g_start (A := A) hP (fun H locs hP hS => ?_)
  refine lv_iload_n hx hb dX11_end_0 rfl (lv_at hl 1 rfl) ?_
  refine lv_iconst (v := 0) hx hb dX11_end_1 (by decide) ?_
  refine lv_aload_n hx hb dX11_end_2 rfl (lv_at hl 0 rfl) ?_
  refine va_get (D := (dC, dI)) (ci := 10) (v := .int 0) (C := RX11) (T := TX11) (N := 53) hx hb hts iwX11 hown hK hP 0 rfl rfl 2 (by decide) (hts (.fieldLink RX11 138 "ModulePlayerModel" "taped" "I") (List.mem_cons_of_mem _ kw_253)) (fun _ h9 => h9) rfl dX11_end_3 ?_
  refine g_calli (wr := [(h, .inr (10, mdF qa (nI kk) 0 0 (-1) 1 0 6 125 (-1) (-1) (-1) 0 0 17 0 (-1) 0 0 0))]) (va_runS (As := [.int n, .int 0, .int 0]) (rest := []) ⟨hx, hb, hml, hown, hts⟩ (m_in l dC dI H.size n 0 0 ) (va_cwS 3 hts (gG_S kw_266 kw_267 kw_5 kw_268) rfl rfl rfl (by decide +kernel) ⟨Nat.le_of_ble_eq_true rfl, Nat.le_of_ble_eq_true rfl⟩) (g_preS hP hD hK hS hA hN hZ [] (by decide) rfl [] rfl) rfl rfl hl.1 rfl (lv_room (Nat.le_of_ble_eq_true rfl)) dX11_end_6 ⟨Nat.le_of_ble_eq_true rfl, Nat.le_of_ble_eq_true rfl⟩) hP hD hK hS hA [] [0] rfl rfl (by decide) (by decide) (fun r_6 w ty1 H locs hw_6 hP hD _ hS => ?_)
  rcases hw_6 with ⟨hu, hr_6, hh_6⟩ | ⟨hu, hr_6, hh_6⟩
  · cases hu
    have hP : va_P (dC, dI) vwCl [(h, .inr (10, mdF qa (nI kk) 0 0 (-1) 1 0 6 125 (-1) (-1) (-1) 0 0 17 0 (-1) 0 0 0))] H := hP
    have hD : va_D A [(h, .inr (10, mdF qa (nI kk) 0 0 (-1) 1 0 6 125 (-1) (-1) (-1) 0 0 17 0 (-1) 0 0 0))] := hD
    refine g_topi (y := 1) hr_6 ?_
    refine lv_if_ne (tgt := 14) hx hb dX11_end_9 (by decide) (fun c_9 => ?_) (fun c_9 => absurd c_9 (by decide))
    refine lv_aload_n hx hb dX11_end_14 rfl (lv_at hl 0 rfl) ?_
    refine lv_iload_n hx hb dX11_end_15 rfl (lv_at hl 1 rfl) ?_
    refine va_put (D := (dC, dI)) (ci := 10) (v := .int n) (ty := tyX11 2) (C := RX11) (T := TX11) (N := 53) hx hb hts iwX11 tyX11 tyX11_ok nmX11 hown hK hP hD hS 0 rfl rfl 2 (by decide) (hts (.fieldLink RX11 138 "ModulePlayerModel" "taped" "I") (List.mem_cons_of_mem _ kw_253)) (fun _ h9 => h9) rfl (by decide +kernel) (rfl) (rfl) (Nat.le_of_ble_eq_true rfl) dX11_end_16 (fun H locs hP hD hS => ?_)
    have hP : va_P (dC, dI) vwCl [(h, .inr (10, mdF qa (nI kk) n 0 (-1) 1 0 6 125 (-1) (-1) (-1) 0 0 17 0 (-1) 0 0 0))] H := hP
    have hD : va_D A [(h, .inr (10, mdF qa (nI kk) n 0 (-1) 1 0 6 125 (-1) (-1) (-1) 0 0 17 0 (-1) 0 0 0))] := hD
    refine lv_iconst (v := 1) hx hb dX11_end_19 (by decide) ?_
    have hP9 := hP.sub (ws' := []) [] rfl
    have hD9 := hD.sub (ws' := []) [] (by decide) rfl
    have hK9 := hK.sub (tys' := []) [] rfl
    exact W.zret (v := 1) hx hb hr (by decide) (fun t ht hW => ⟨⟨1, ([], []), rfl, ⟨rfl, bF_t (in_00.mp hh_6)⟩, by rw [ht]; exact hP9, va_K.moved hW.alike hK9, hD9⟩, hS.F ht⟩) hS.2.2 dX11_end_20
  cases hu
  have hP : va_P (dC, dI) vwCl [(h, .inr (10, mdF qa (nI kk) 0 0 (-1) 1 0 6 125 (-1) (-1) (-1) 0 0 17 0 (-1) 0 0 0))] H := hP
  have hD : va_D A [(h, .inr (10, mdF qa (nI kk) 0 0 (-1) 1 0 6 125 (-1) (-1) (-1) 0 0 17 0 (-1) 0 0 0))] := hD
  refine g_topi (y := 0) hr_6 ?_
  refine lv_if_ne (tgt := 14) hx hb dX11_end_9 (by decide) (fun c_9 => absurd c_9 (by decide)) (fun c_9 => ?_)
  refine lv_iconst (v := 0) hx hb dX11_end_12 (by decide) ?_
  have hP9 := hP.sub (ws' := []) [] rfl
  have hD9 := hD.sub (ws' := []) [] (by decide) rfl
  have hK9 := hK.sub (tys' := []) [] rfl
  exact W.zret (v := 0) hx hb hr (by decide) (fun t ht hW => ⟨⟨0, ([], []), rfl, ⟨rfl, bF_f (fun qv => hh_6 (in_00.mpr qv))⟩, by rw [ht]; exact hP9, va_K.moved hW.alike hK9, hD9⟩, hS.F ht⟩) hS.2.2 dX11_end_13

set_option maxHeartbeats 400000 in
set_option maxRecDepth 100000 in
theorem mf_poke (l : Launch) (dC : Nat → ClassId) (dI : Nat → Nat → Nat) (sz : Nat) (h : Nat) (qa : Nat → Nat) (kk : Nat) (cB : ClassId) (i v : Int32) : Met l yX11_poke (wsG (.code yX11_poke cX11_poke 3 (some .int))) ({ frames := 1, cells := 0, slots := 0, locals := 22 }) (va_Pc [.ref h, .int i, .int v] (gP (dC, dI) [(cB, .byte)] [(h, .inr (10, mdF qa (nI kk) 0 0 (-1) 1 0 6 125 (-1) (-1) (-1) 0 0 17 0 (-1) 0 0 0)), (qa 1, .inl (cB, 9000, .inl (fun _ => 0)))] sz)) (va_Qi (fun (r : Int32) (u : va_W × gT) => u = ([], []) ∧ r = pokeF i) (gB (dC, dI) (va_A [(h, .inr (10, mdF qa (nI kk) 0 0 (-1) 1 0 6 125 (-1) (-1) (-1) 0 0 17 0 (-1) 0 0 0)), (qa 1, .inl (cB, 9000, .inl (fun _ => 0)))] sz)) (va_A [(h, .inr (10, mdF qa (nI kk) 0 0 (-1) 1 0 6 125 (-1) (-1) (-1) 0 0 17 0 (-1) 0 0 0)), (qa 1, .inl (cB, 9000, .inl (fun _ => 0)))] sz)) 0 0 (va_A [(h, .inr (10, mdF qa (nI kk) 0 0 (-1) 1 0 6 125 (-1) (-1) (-1) 0 0 17 0 (-1) 0 0 0)), (qa 1, .inl (cB, 9000, .inl (fun _ => 0)))] sz) := by
  refine Met.ofW (cc := cX11_poke) (maxL := 3) (ret := (some .int)) (by decide) rfl ?_
  intro p e s m args below meth c s₁ B hml hv
  obtain ⟨rfl, hsz, hP, hK, hD0, hN, hZ⟩ := hv
  have hx := B.exec
  have hb := B.bytes
  have hr := B.returns
  have hts := atoms_spec (ws := (wsG (.code yX11_poke cX11_poke 3 (some .int)))) B.pre
  have hown : s.vm.findClass RX11 = some m.cls := findClass_of_methodNamed B.named
  have hlocks := B.notSynchronized
  subst hsz
  have hD := hD0.self (sz := s.heap.size)
  generalize hAe : va_A [(h, .inr (10, mdF qa (nI kk) 0 0 (-1) 1 0 6 125 (-1) (-1) (-1) 0 0 17 0 (-1) 0 0 0)), (qa 1, .inl (cB, 9000, .inl (fun _ => 0)))] s.heap.size = A at hD hZ ⊢
  have hA : ∀ q : Nat, s.heap.size ≤ q → A q := fun q h => by rw [← hAe]; exact Or.inr h
  have hl := lv_entry ([.ref h, .int i, .int v]) (n := 3) (Nat.le_of_ble_eq_true rfl)
  rw [lg_entry_eq]
  generalize (lg_sl ([.ref h, .int i, .int v]) ++ List.replicate (3 - (lg_sl ([.ref h, .int i, .int v])).length) Slot.unset).toArray = ls at hl ⊢
  have hl : lv_has ls 3 [(0, .ref h), (1, .int i), (2, .int v)] := hl
  refine g_start (A := A) hP (fun H locs hP hS => ?_)
  refine lv_iload_n hx hb dX11_poke_0 rfl (lv_at hl 1 rfl) ?_
  refine lv_iconst (v := 0) hx hb dX11_poke_1 (by decide) ?_
  refine lv_sipush (v := 8999) hx hb dX11_poke_2 (by decide) ?_
  refine g_calli (wr := [(h, .inr (10, mdF qa (nI kk) 0 0 (-1) 1 0 6 125 (-1) (-1) (-1) 0 0 17 0 (-1) 0 0 0)), (qa 1, .inl (cB, 9000, .inl (fun _ => 0)))]) (va_runS (As := [.int i, .int 0, .int 8999]) (rest := []) ⟨hx, hb, hml, hown, hts⟩ (m_in l dC dI H.size i 0 8999 ) (va_cwS 3 hts (gG_S kw_266 kw_267 kw_5 kw_268) rfl rfl rfl (by decide +kernel) ⟨Nat.le_of_ble_eq_true rfl, Nat.le_of_ble_eq_true rfl⟩) (g_preS hP hD hK hS hA hN hZ [] (by decide) rfl [] rfl) rfl rfl hl.1 rfl (lv_room (Nat.le_of_ble_eq_true rfl)) dX11_poke_5 ⟨Nat.le_of_ble_eq_true rfl, Nat.le_of_ble_eq_true rfl⟩) hP hD hK hS hA [] [0, 1] rfl rfl (by decide) (by decide) (fun r_5 w ty1 H locs hw_5 hP hD _ hS => ?_)
  rcases hw_5 with ⟨hu, hr_5, hh_5⟩ | ⟨hu, hr_5, hh_5⟩
  · cases hu
    have hP : va_P (dC, dI) vwCl [(h, .inr (10, mdF qa (nI kk) 0 0 (-1) 1 0 6 125 (-1) (-1) (-1) 0 0 17 0 (-1) 0 0 0)), (qa 1, .inl (cB, 9000, .inl (fun _ => 0)))] H := hP
    have hD : va_D A [(h, .inr (10, mdF qa (nI kk) 0 0 (-1) 1 0 6 125 (-1) (-1) (-1) 0 0 17 0 (-1) 0 0 0)), (qa 1, .inl (cB, 9000, .inl (fun _ => 0)))] := hD
    refine g_topi (y := 1) hr_5 ?_
    obtain ⟨jp, hjp, hij⟩ := i_in (n := 9000) (by decide) (in8999.mp hh_5).1 (in8999.mp hh_5).2
    refine lv_if_ne (tgt := 13) hx hb dX11_poke_8 (by decide) (fun c_8 => ?_) (fun c_8 => absurd c_8 (by decide))
    have LP13 : ∀ (fu13 : Nat) (km : Nat) (fk_ : Nat → Int32) (hkm : km ≤ jp + 1) (hm13 : jp + 1 - km < fu13) (H : Heap) (locs : List Loc), va_P (dC, dI) vwCl [(h, .inr (10, mdF qa (nI kk) (nI km) 0 (-1) 1 0 6 125 (-1) (-1) (-1) 0 0 17 0 (-1) 0 0 0)), (qa 1, .inl (cB, 9000, .inl fk_))] H → va_D A [(h, .inr (10, mdF qa (nI kk) (nI km) 0 (-1) 1 0 6 125 (-1) (-1) (-1) 0 0 17 0 (-1) 0 0 0)), (qa 1, .inl (cB, 9000, .inl fk_))] → va_S A s.heap H locs → ∀ ls : Array Slot, lv_has ls 3 [(0, .ref h), (1, .int i), (2, .int v)] → W p l e ({ frames := 1, cells := 0, slots := 0, locals := 22 }) s m ([.ref h, .int i, .int v] : List Value).toArray below meth c H locs (0) (0) (MQ below (va_Qi (fun (r : Int32) (u : va_W × gT) => u = ([], []) ∧ r = pokeF i) (gB (dC, dI) A) A) ([.ref h, .int i, .int v] : List Value).toArray s 0 0 A) (F0 m 13 ls []) := by
      intro fu13
      induction fu13 with
      | zero => intro km fk_ hkm hm13; exact absurd hm13 (Nat.not_lt_zero _)
      | succ fu13 ih13 =>
        intro km fk_ hkm hm13 H locs hP hD hS ls hl
        refine lv_aload_n hx hb dX11_poke_13 rfl (lv_at hl 0 rfl) ?_
        refine va_get (D := (dC, dI)) (ci := 10) (v := .int (nI km)) (C := RX11) (T := TX11) (N := 53) hx hb hts iwX11 hown hK hP 0 rfl rfl 2 (by decide) (hts (.fieldLink RX11 138 "ModulePlayerModel" "taped" "I") (List.mem_cons_of_mem _ kw_253)) (fun _ h9 => h9) rfl dX11_poke_14 ?_
        refine lv_iload_n hx hb dX11_poke_17 rfl (lv_at hl 1 rfl) ?_
        refine lv_icmp_gt (tgt := 44) hx hb dX11_poke_18 (by decide) (fun c_18 => ?_) (fun c_18 => ?_)
        · refine lv_aload_n hx hb dX11_poke_44 rfl (lv_at hl 0 rfl) ?_
          refine va_get (D := (dC, dI)) (ci := 10) (v := .ref (qa 1)) (C := RX11) (T := TX11) (N := 53) hx hb hts iwX11 hown hK hP 0 rfl rfl 1 (by decide) (hts (.fieldLink RX11 9 "ModulePlayerModel" "tape" "[B") (List.mem_cons_of_mem _ kw_171)) (fun _ h9 => h9) rfl dX11_poke_45 ?_
          refine lv_iload_n hx hb dX11_poke_48 rfl (lv_at hl 1 rfl) ?_
          refine lv_iload_n hx hb dX11_poke_49 rfl (lv_at hl 2 rfl) ?_
          refine lv_i2b (v := v.toInt8.toInt32) hx hb dX11_poke_50 rfl ?_
          refine g_bast hx hb hK hP hD hS 1 0 rfl rfl (x' := v.toInt8.toInt32) (pk_vb _) jp (by rw [hij]; exact nI_clamp (by omega)) (by rw [hij]; exact vp_in_nI hjp (by decide)) dX11_poke_51 (fun H locs hP hD hS => ?_)
          have hP : va_P (dC, dI) vwCl [(h, .inr (10, mdF qa (nI kk) (nI km) 0 (-1) 1 0 6 125 (-1) (-1) (-1) 0 0 17 0 (-1) 0 0 0)), (qa 1, .inl (cB, 9000, .inl (upd fk_ jp v.toInt8.toInt32)))] H := hP
          have hD : va_D A [(h, .inr (10, mdF qa (nI kk) (nI km) 0 (-1) 1 0 6 125 (-1) (-1) (-1) 0 0 17 0 (-1) 0 0 0)), (qa 1, .inl (cB, 9000, .inl (upd fk_ jp v.toInt8.toInt32)))] := hD
          generalize upd fk_ jp v.toInt8.toInt32 = fh__51 at hP hD
          refine lv_aload_n hx hb dX11_poke_52 rfl (lv_at hl 0 rfl) ?_
          refine va_get (D := (dC, dI)) (ci := 10) (v := .int (nI km)) (C := RX11) (T := TX11) (N := 53) hx hb hts iwX11 hown hK hP 0 rfl rfl 2 (by decide) (hts (.fieldLink RX11 138 "ModulePlayerModel" "taped" "I") (List.mem_cons_of_mem _ kw_253)) (fun _ h9 => h9) rfl dX11_poke_53 ?_
          have hP9 := hP.sub (ws' := []) [] rfl
          have hD9 := hD.sub (ws' := []) [] (by decide) rfl
          have hK9 := hK.sub (tys' := []) [] rfl
          exact W.iret (v := nI km) hx hb hr (fun t ht hW => ⟨⟨nI km, ([], []), rfl, ⟨rfl, by rw [hij, show km = jp + 1 by have := nI_lt' (hij ▸ c_18) (by omega) (by omega); omega]; exact ((if_pos (isin0 hjp (by decide))).trans (nI_1 jp)).symm⟩, by rw [ht]; exact hP9, va_K.moved hW.alike hK9, hD9⟩, hS.F ht⟩) hS.2.2 dX11_poke_56
        refine lv_aload_n hx hb dX11_poke_21 rfl (lv_at hl 0 rfl) ?_
        refine va_get (D := (dC, dI)) (ci := 10) (v := .ref (qa 1)) (C := RX11) (T := TX11) (N := 53) hx hb hts iwX11 hown hK hP 0 rfl rfl 1 (by decide) (hts (.fieldLink RX11 9 "ModulePlayerModel" "tape" "[B") (List.mem_cons_of_mem _ kw_171)) (fun _ h9 => h9) rfl dX11_poke_22 ?_
        refine lv_aload_n hx hb dX11_poke_25 rfl (lv_at hl 0 rfl) ?_
        refine va_get (D := (dC, dI)) (ci := 10) (v := .int (nI km)) (C := RX11) (T := TX11) (N := 53) hx hb hts iwX11 hown hK hP 0 rfl rfl 2 (by decide) (hts (.fieldLink RX11 138 "ModulePlayerModel" "taped" "I") (List.mem_cons_of_mem _ kw_253)) (fun _ h9 => h9) rfl dX11_poke_26 ?_
        refine lv_iconst (v := 0) hx hb dX11_poke_29 (by decide) ?_
        refine g_bast hx hb hK hP hD hS 1 0 rfl rfl (x' := 0) (by decide) km (nI_clamp (Nat.lt_trans (show km < 9000 from by have := nI_nlt2 (hij ▸ c_18) (by omega); omega) (by decide))) (vp_in_nI (by have := nI_nlt2 (hij ▸ c_18) (by omega); omega) (by decide)) dX11_poke_30 (fun H locs hP hD hS => ?_)
        have hP : va_P (dC, dI) vwCl [(h, .inr (10, mdF qa (nI kk) (nI km) 0 (-1) 1 0 6 125 (-1) (-1) (-1) 0 0 17 0 (-1) 0 0 0)), (qa 1, .inl (cB, 9000, .inl (upd fk_ km 0)))] H := hP
        have hD : va_D A [(h, .inr (10, mdF qa (nI kk) (nI km) 0 (-1) 1 0 6 125 (-1) (-1) (-1) 0 0 17 0 (-1) 0 0 0)), (qa 1, .inl (cB, 9000, .inl (upd fk_ km 0)))] := hD
        generalize upd fk_ km 0 = fg__30 at hP hD
        refine lv_aload_n hx hb dX11_poke_31 rfl (lv_at hl 0 rfl) ?_
        refine lv_dup hx hb dX11_poke_32 rfl ?_
        refine va_get (D := (dC, dI)) (ci := 10) (v := .int (nI km)) (C := RX11) (T := TX11) (N := 53) hx hb hts iwX11 hown hK hP 0 rfl rfl 2 (by decide) (hts (.fieldLink RX11 138 "ModulePlayerModel" "taped" "I") (List.mem_cons_of_mem _ kw_253)) (fun _ h9 => h9) rfl dX11_poke_33 ?_
        refine lv_iconst (v := 1) hx hb dX11_poke_36 (by decide) ?_
        refine lv_iadd hx hb dX11_poke_37 ?_
        refine g_topi (y := nI (km + 1)) (nI_1 _) ?_
        refine va_put (D := (dC, dI)) (ci := 10) (v := .int (nI (km + 1))) (ty := tyX11 2) (C := RX11) (T := TX11) (N := 53) hx hb hts iwX11 tyX11 tyX11_ok nmX11 hown hK hP hD hS 0 rfl rfl 2 (by decide) (hts (.fieldLink RX11 138 "ModulePlayerModel" "taped" "I") (List.mem_cons_of_mem _ kw_253)) (fun _ h9 => h9) rfl (by decide +kernel) (rfl) (rfl) (Nat.le_of_ble_eq_true rfl) dX11_poke_38 (fun H locs hP hD hS => ?_)
        have hP : va_P (dC, dI) vwCl [(h, .inr (10, mdF qa (nI kk) (nI (km + 1)) 0 (-1) 1 0 6 125 (-1) (-1) (-1) 0 0 17 0 (-1) 0 0 0)), (qa 1, .inl (cB, 9000, .inl fg__30))] H := hP
        have hD : va_D A [(h, .inr (10, mdF qa (nI kk) (nI (km + 1)) 0 (-1) 1 0 6 125 (-1) (-1) (-1) 0 0 17 0 (-1) 0 0 0)), (qa 1, .inl (cB, 9000, .inl fg__30))] := hD
        refine lv_goto (tgt := 13) hx hb dX11_poke_41 (by decide) ?_
        exact ih13 (km + 1) fg__30 (by have := nI_nlt2 (hij ▸ c_18) (by omega); omega) (by have := nI_nlt2 (hij ▸ c_18) (by omega); omega) _ _ (hP.sub [0, 1] rfl) (hD.sub [0, 1] (by decide) rfl) hS _ (lv_sub hl [0, 1, 2] rfl)
    exact LP13 _ 0 (fun _ => 0) (Nat.zero_le _) (Nat.lt_succ_self _) _ _ (hP.sub [0, 1] rfl) (hD.sub [0, 1] (by decide) rfl) hS _ (lv_sub hl [0, 1, 2] rfl)
  cases hu
  have hP : va_P (dC, dI) vwCl [(h, .inr (10, mdF qa (nI kk) 0 0 (-1) 1 0 6 125 (-1) (-1) (-1) 0 0 17 0 (-1) 0 0 0)), (qa 1, .inl (cB, 9000, .inl (fun _ => 0)))] H := hP
  have hD : va_D A [(h, .inr (10, mdF qa (nI kk) 0 0 (-1) 1 0 6 125 (-1) (-1) (-1) 0 0 17 0 (-1) 0 0 0)), (qa 1, .inl (cB, 9000, .inl (fun _ => 0)))] := hD
  refine g_topi (y := 0) hr_5 ?_
  refine lv_if_ne (tgt := 13) hx hb dX11_poke_8 (by decide) (fun c_8 => absurd c_8 (by decide)) (fun c_8 => ?_)
  refine lv_iconst (v := (-1)) hx hb dX11_poke_11 (by decide) ?_
  have hP9 := hP.sub (ws' := []) [] rfl
  have hD9 := hD.sub (ws' := []) [] (by decide) rfl
  have hK9 := hK.sub (tys' := []) [] rfl
  exact W.iret (v := (-1)) hx hb hr (fun t ht hW => ⟨⟨(-1), ([], []), rfl, ⟨rfl, (if_neg (fun qv => hh_5 (in8999.mpr qv))).symm⟩, by rw [ht]; exact hP9, va_K.moved hW.alike hK9, hD9⟩, hS.F ht⟩) hS.2.2 dX11_poke_12

set_option maxHeartbeats 400000 in
set_option maxRecDepth 100000 in
theorem mf_tape (l : Launch) (dC : Nat → ClassId) (dI : Nat → Nat → Nat) (sz : Nat) (h : Nat) (qa : Nat → Nat) (kk : Nat) (cB : ClassId) (i : Int32) : Met l yX11_tape (wsG (.code yX11_tape cX11_tape 2 (some .int))) ({ frames := 1, cells := 0, slots := 0, locals := 22 }) (va_Pc [.ref h, .int i] (gP (dC, dI) [(cB, .byte)] [(h, .inr (10, mdF qa (nI kk) 0 0 (-1) 1 0 6 125 (-1) (-1) (-1) 0 0 17 0 (-1) 0 0 0)), (qa 1, .inl (cB, 9000, .inl (fun _ => 0)))] sz)) (va_Qi (fun (r : Int32) (u : va_W × gT) => u = ([], []) ∧ r = (-1)) (gB (dC, dI) (va_A [(h, .inr (10, mdF qa (nI kk) 0 0 (-1) 1 0 6 125 (-1) (-1) (-1) 0 0 17 0 (-1) 0 0 0)), (qa 1, .inl (cB, 9000, .inl (fun _ => 0)))] sz)) (va_A [(h, .inr (10, mdF qa (nI kk) 0 0 (-1) 1 0 6 125 (-1) (-1) (-1) 0 0 17 0 (-1) 0 0 0)), (qa 1, .inl (cB, 9000, .inl (fun _ => 0)))] sz)) 0 0 (va_A [(h, .inr (10, mdF qa (nI kk) 0 0 (-1) 1 0 6 125 (-1) (-1) (-1) 0 0 17 0 (-1) 0 0 0)), (qa 1, .inl (cB, 9000, .inl (fun _ => 0)))] sz) := by
  refine Met.ofW (cc := cX11_tape) (maxL := 2) (ret := (some .int)) (by decide) rfl ?_
  intro p e s m args below meth c s₁ B hml hv
  obtain ⟨rfl, hsz, hP, hK, hD0, hN, hZ⟩ := hv
  have hx := B.exec
  have hb := B.bytes
  have hr := B.returns
  have hts := atoms_spec (ws := (wsG (.code yX11_tape cX11_tape 2 (some .int)))) B.pre
  have hown : s.vm.findClass RX11 = some m.cls := findClass_of_methodNamed B.named
  have hlocks := B.notSynchronized
  subst hsz
  have hD := hD0.self (sz := s.heap.size)
  generalize hAe : va_A [(h, .inr (10, mdF qa (nI kk) 0 0 (-1) 1 0 6 125 (-1) (-1) (-1) 0 0 17 0 (-1) 0 0 0)), (qa 1, .inl (cB, 9000, .inl (fun _ => 0)))] s.heap.size = A at hD hZ ⊢
  have hA : ∀ q : Nat, s.heap.size ≤ q → A q := fun q h => by rw [← hAe]; exact Or.inr h
  have hl := lv_entry ([.ref h, .int i]) (n := 2) (Nat.le_of_ble_eq_true rfl)
  rw [lg_entry_eq]
  generalize (lg_sl ([.ref h, .int i]) ++ List.replicate (2 - (lg_sl ([.ref h, .int i])).length) Slot.unset).toArray = ls at hl ⊢
  have hl : lv_has ls 2 [(0, .ref h), (1, .int i)] := hl
  refine g_start (A := A) hP (fun H locs hP hS => ?_)
  refine lv_iload_n hx hb dX11_tape_0 rfl (lv_at hl 1 rfl) ?_
  refine lv_iconst (v := 0) hx hb dX11_tape_1 (by decide) ?_
  refine lv_aload_n hx hb dX11_tape_2 rfl (lv_at hl 0 rfl) ?_
  refine va_get (D := (dC, dI)) (ci := 10) (v := .int 0) (C := RX11) (T := TX11) (N := 53) hx hb hts iwX11 hown hK hP 0 rfl rfl 2 (by decide) (hts (.fieldLink RX11 138 "ModulePlayerModel" "taped" "I") (List.mem_cons_of_mem _ kw_253)) (fun _ h9 => h9) rfl dX11_tape_3 ?_
  refine lv_iconst (v := 1) hx hb dX11_tape_6 (by decide) ?_
  refine lv_isub hx hb dX11_tape_7 ?_
  refine g_topi (y := (-1)) (by decide) ?_
  refine g_calli (wr := [(h, .inr (10, mdF qa (nI kk) 0 0 (-1) 1 0 6 125 (-1) (-1) (-1) 0 0 17 0 (-1) 0 0 0)), (qa 1, .inl (cB, 9000, .inl (fun _ => 0)))]) (va_runS (As := [.int i, .int 0, .int (-1)]) (rest := []) ⟨hx, hb, hml, hown, hts⟩ (m_in l dC dI H.size i 0 (-1) ) (va_cwS 3 hts (gG_S kw_266 kw_267 kw_5 kw_268) rfl rfl rfl (by decide +kernel) ⟨Nat.le_of_ble_eq_true rfl, Nat.le_of_ble_eq_true rfl⟩) (g_preS hP hD hK hS hA hN hZ [] (by decide) rfl [] rfl) rfl rfl hl.1 rfl (lv_room (Nat.le_of_ble_eq_true rfl)) dX11_tape_8 ⟨Nat.le_of_ble_eq_true rfl, Nat.le_of_ble_eq_true rfl⟩) hP hD hK hS hA [] [0, 1] rfl rfl (by decide) (by decide) (fun r_8 w ty1 H locs hw_8 hP hD _ hS => ?_)
  rcases hw_8 with ⟨hu, hr_8, hh_8⟩ | ⟨hu, hr_8, hh_8⟩
  · exact False.elim (in_m1 hh_8)
  cases hu
  have hP : va_P (dC, dI) vwCl [(h, .inr (10, mdF qa (nI kk) 0 0 (-1) 1 0 6 125 (-1) (-1) (-1) 0 0 17 0 (-1) 0 0 0)), (qa 1, .inl (cB, 9000, .inl (fun _ => 0)))] H := hP
  have hD : va_D A [(h, .inr (10, mdF qa (nI kk) 0 0 (-1) 1 0 6 125 (-1) (-1) (-1) 0 0 17 0 (-1) 0 0 0)), (qa 1, .inl (cB, 9000, .inl (fun _ => 0)))] := hD
  refine g_topi (y := 0) hr_8 ?_
  refine lv_if_eq (tgt := 27) hx hb dX11_tape_11 (by decide) (fun c_11 => ?_) (fun c_11 => absurd c_11 (by decide))
  refine lv_iconst (v := (-1)) hx hb dX11_tape_27 (by decide) ?_
  have hP9 := hP.sub (ws' := []) [] rfl
  have hD9 := hD.sub (ws' := []) [] (by decide) rfl
  have hK9 := hK.sub (tys' := []) [] rfl
  exact W.iret (v := (-1)) hx hb hr (fun t ht hW => ⟨⟨(-1), ([], []), rfl, ⟨rfl, rfl⟩, by rw [ht]; exact hP9, va_K.moved hW.alike hK9, hD9⟩, hS.F ht⟩) hS.2.2 dX11_tape_28

set_option maxHeartbeats 400000 in
set_option maxRecDepth 100000 in
theorem mf_fault (l : Launch) (dC : Nat → ClassId) (dI : Nat → Nat → Nat) (sz : Nat) (h : Nat) (qa : Nat → Nat) (kk : Nat) (x : Int32) : Met l yX11_fault (wsG (.code yX11_fault cX11_fault 2 (some .int))) ({ frames := 0, cells := 0, slots := 0, locals := 0 }) (va_Pc [.ref h, .int x] (gP (dC, dI) [] [(h, .inr (10, mdF qa (nI kk) 0 0 (-1) 1 0 6 125 (-1) (-1) (-1) 0 0 17 0 (-1) 0 0 0))] sz)) (va_Qi (fun (r : Int32) (u : va_W × gT) => u = ([], []) ∧ r = faultF x) (gB (dC, dI) (va_A [(h, .inr (10, mdF qa (nI kk) 0 0 (-1) 1 0 6 125 (-1) (-1) (-1) 0 0 17 0 (-1) 0 0 0))] sz)) (va_A [(h, .inr (10, mdF qa (nI kk) 0 0 (-1) 1 0 6 125 (-1) (-1) (-1) 0 0 17 0 (-1) 0 0 0))] sz)) 0 0 (va_A [(h, .inr (10, mdF qa (nI kk) 0 0 (-1) 1 0 6 125 (-1) (-1) (-1) 0 0 17 0 (-1) 0 0 0))] sz) := by
  refine Met.ofW (cc := cX11_fault) (maxL := 2) (ret := (some .int)) (by decide) rfl ?_
  intro p e s m args below meth c s₁ B hml hv
  obtain ⟨rfl, hsz, hP, hK, hD0, hN, hZ⟩ := hv
  have hx := B.exec
  have hb := B.bytes
  have hr := B.returns
  have hts := atoms_spec (ws := (wsG (.code yX11_fault cX11_fault 2 (some .int)))) B.pre
  have hown : s.vm.findClass RX11 = some m.cls := findClass_of_methodNamed B.named
  have hlocks := B.notSynchronized
  subst hsz
  have hD := hD0.self (sz := s.heap.size)
  generalize hAe : va_A [(h, .inr (10, mdF qa (nI kk) 0 0 (-1) 1 0 6 125 (-1) (-1) (-1) 0 0 17 0 (-1) 0 0 0))] s.heap.size = A at hD hZ ⊢
  have hA : ∀ q : Nat, s.heap.size ≤ q → A q := fun q h => by rw [← hAe]; exact Or.inr h
  have hl := lv_entry ([.ref h, .int x]) (n := 2) (Nat.le_of_ble_eq_true rfl)
  rw [lg_entry_eq]
  generalize (lg_sl ([.ref h, .int x]) ++ List.replicate (2 - (lg_sl ([.ref h, .int x])).length) Slot.unset).toArray = ls at hl ⊢
  have hl : lv_has ls 2 [(0, .ref h), (1, .int x)] := hl
  refine g_start (A := A) hP (fun H locs hP hS => ?_)
  refine lv_iload_n hx hb dX11_fault_0 rfl (lv_at hl 1 rfl) ?_
  refine lv_if_ne (tgt := 11) hx hb dX11_fault_1 (by decide) (fun c_1 => ?_) (fun c_1 => ?_)
  · refine lv_iload_n hx hb dX11_fault_11 rfl (lv_at hl 1 rfl) ?_
    refine lv_iconst (v := 1) hx hb dX11_fault_12 (by decide) ?_
    refine lv_icmp_ne (tgt := 23) hx hb dX11_fault_13 (by decide) (fun c_13 => ?_) (fun c_13 => ?_)
    · refine lv_iconst (v := (-1)) hx hb dX11_fault_23 (by decide) ?_
      have hP9 := hP.sub (ws' := []) [] rfl
      have hD9 := hD.sub (ws' := []) [] (by decide) rfl
      have hK9 := hK.sub (tys' := []) [] rfl
      exact W.iret (v := (-1)) hx hb hr (fun t ht hW => ⟨⟨(-1), ([], []), rfl, ⟨rfl, (if_neg c_1).symm⟩, by rw [ht]; exact hP9, va_K.moved hW.alike hK9, hD9⟩, hS.F ht⟩) hS.2.2 dX11_fault_24
    refine lv_aload_n hx hb dX11_fault_16 rfl (lv_at hl 0 rfl) ?_
    refine va_get (D := (dC, dI)) (ci := 10) (v := .int (-1)) (C := RX11) (T := TX11) (N := 53) hx hb hts iwX11 hown hK hP 0 rfl rfl 4 (by decide) (hts (.fieldLink RX11 13 "ModulePlayerModel" "faultPlace" "I") (List.mem_cons_of_mem _ kw_172)) (fun _ h9 => h9) rfl dX11_fault_17 ?_
    refine lv_goto (tgt := 24) hx hb dX11_fault_20 (by decide) ?_
    have hP9 := hP.sub (ws' := []) [] rfl
    have hD9 := hD.sub (ws' := []) [] (by decide) rfl
    have hK9 := hK.sub (tys' := []) [] rfl
    exact W.iret (v := (-1)) hx hb hr (fun t ht hW => ⟨⟨(-1), ([], []), rfl, ⟨rfl, (if_neg c_1).symm⟩, by rw [ht]; exact hP9, va_K.moved hW.alike hK9, hD9⟩, hS.F ht⟩) hS.2.2 dX11_fault_24
  refine lv_aload_n hx hb dX11_fault_4 rfl (lv_at hl 0 rfl) ?_
  refine va_get (D := (dC, dI)) (ci := 10) (v := .int 0) (C := RX11) (T := TX11) (N := 53) hx hb hts iwX11 hown hK hP 0 rfl rfl 3 (by decide) (hts (.fieldLink RX11 149 "ModulePlayerModel" "faultKind" "I") (List.mem_cons_of_mem _ kw_430)) (fun _ h9 => h9) rfl dX11_fault_5 ?_
  refine lv_goto (tgt := 24) hx hb dX11_fault_8 (by decide) ?_
  have hP9 := hP.sub (ws' := []) [] rfl
  have hD9 := hD.sub (ws' := []) [] (by decide) rfl
  have hK9 := hK.sub (tys' := []) [] rfl
  exact W.iret (v := 0) hx hb hr (fun t ht hW => ⟨⟨0, ([], []), rfl, ⟨rfl, (if_pos c_1).symm⟩, by rw [ht]; exact hP9, va_K.moved hW.alike hK9, hD9⟩, hS.F ht⟩) hS.2.2 dX11_fault_24

set_option maxHeartbeats 400000 in
set_option maxRecDepth 100000 in
/-- refuse -/
theorem m_refuse (l : Launch) (dC : Nat → ClassId) (dI : Nat → Nat → Nat) (sz : Nat) (h : Nat) (qa : Nat → Nat) (x0 x2 x3 x4 x13 x14 x15 x16 x17 x18 x19 x20 x21 x22 x23 x24 x26 x27 x28 : Int32) (a b : Int32) : Met l yX11_refuse (wsG (.code yX11_refuse cX11_refuse 3 (some .int))) ({ frames := 0, cells := 0, slots := 0, locals := 0 }) (va_Pc [.ref h, .int a, .int b] (gP (dC, dI) [] [(h, .inr (10, mdF qa x0 x2 x3 x4 x13 x14 x15 x16 x17 x18 x19 x20 x21 x22 x23 x24 x26 x27 x28))] sz)) (va_Qi (fun (r : Int32) (u : va_W × gT) => u = ([(h, .inr (10, mdF qa x0 x2 a b x13 x14 x15 x16 x17 x18 x19 x20 x21 x22 x23 x24 x26 x27 x28))], []) ∧ r = (-1)) (gB (dC, dI) (va_A [(h, .inr (10, mdF qa x0 x2 x3 x4 x13 x14 x15 x16 x17 x18 x19 x20 x21 x22 x23 x24 x26 x27 x28))] sz)) (va_A [(h, .inr (10, mdF qa x0 x2 x3 x4 x13 x14 x15 x16 x17 x18 x19 x20 x21 x22 x23 x24 x26 x27 x28))] sz)) 0 0 (va_A [(h, .inr (10, mdF qa x0 x2 x3 x4 x13 x14 x15 x16 x17 x18 x19 x20 x21 x22 x23 x24 x26 x27 x28))] sz) := by
  refine Met.ofW (cc := cX11_refuse) (maxL := 3) (ret := (some .int)) (by decide) rfl ?_
  intro p e s m args below meth c s₁ B hml hv
  obtain ⟨rfl, hsz, hP, hK, hD0, hN, hZ⟩ := hv
  have hx := B.exec
  have hb := B.bytes
  have hr := B.returns
  have hts := atoms_spec (ws := (wsG (.code yX11_refuse cX11_refuse 3 (some .int)))) B.pre
  have hown : s.vm.findClass RX11 = some m.cls := findClass_of_methodNamed B.named
  have hlocks := B.notSynchronized
  subst hsz
  have hD := hD0.self (sz := s.heap.size)
  generalize hAe : va_A [(h, .inr (10, mdF qa x0 x2 x3 x4 x13 x14 x15 x16 x17 x18 x19 x20 x21 x22 x23 x24 x26 x27 x28))] s.heap.size = A at hD hZ ⊢
  have hA : ∀ q : Nat, s.heap.size ≤ q → A q := fun q h => by rw [← hAe]; exact Or.inr h
  have hl := lv_entry ([.ref h, .int a, .int b]) (n := 3) (Nat.le_of_ble_eq_true rfl)
  rw [lg_entry_eq]
  generalize (lg_sl ([.ref h, .int a, .int b]) ++ List.replicate (3 - (lg_sl ([.ref h, .int a, .int b])).length) Slot.unset).toArray = ls at hl ⊢
  have hl : lv_has ls 3 [(0, .ref h), (1, .int a), (2, .int b)] := hl
  refine g_start (A := A) hP (fun H locs hP hS => ?_)
  refine lv_aload_n hx hb dX11_refuse_0 rfl (lv_at hl 0 rfl) ?_
  refine lv_iload_n hx hb dX11_refuse_1 rfl (lv_at hl 1 rfl) ?_
  refine va_put (D := (dC, dI)) (ci := 10) (v := .int a) (ty := tyX11 3) (C := RX11) (T := TX11) (N := 53) hx hb hts iwX11 tyX11 tyX11_ok nmX11 hown hK hP hD hS 0 rfl rfl 3 (by decide) (hts (.fieldLink RX11 149 "ModulePlayerModel" "faultKind" "I") (List.mem_cons_of_mem _ kw_430)) (fun _ h9 => h9) rfl (by decide +kernel) (rfl) (rfl) (Nat.le_of_ble_eq_true rfl) dX11_refuse_2 (fun H locs hP hD hS => ?_)
  have hP : va_P (dC, dI) vwCl [(h, .inr (10, mdF qa x0 x2 a x4 x13 x14 x15 x16 x17 x18 x19 x20 x21 x22 x23 x24 x26 x27 x28))] H := hP
  have hD : va_D A [(h, .inr (10, mdF qa x0 x2 a x4 x13 x14 x15 x16 x17 x18 x19 x20 x21 x22 x23 x24 x26 x27 x28))] := hD
  refine lv_aload_n hx hb dX11_refuse_5 rfl (lv_at hl 0 rfl) ?_
  refine lv_iload_n hx hb dX11_refuse_6 rfl (lv_at hl 2 rfl) ?_
  refine va_put (D := (dC, dI)) (ci := 10) (v := .int b) (ty := tyX11 4) (C := RX11) (T := TX11) (N := 53) hx hb hts iwX11 tyX11 tyX11_ok nmX11 hown hK hP hD hS 0 rfl rfl 4 (by decide) (hts (.fieldLink RX11 13 "ModulePlayerModel" "faultPlace" "I") (List.mem_cons_of_mem _ kw_172)) (fun _ h9 => h9) rfl (by decide +kernel) (rfl) (rfl) (Nat.le_of_ble_eq_true rfl) dX11_refuse_7 (fun H locs hP hD hS => ?_)
  have hP : va_P (dC, dI) vwCl [(h, .inr (10, mdF qa x0 x2 a b x13 x14 x15 x16 x17 x18 x19 x20 x21 x22 x23 x24 x26 x27 x28))] H := hP
  have hD : va_D A [(h, .inr (10, mdF qa x0 x2 a b x13 x14 x15 x16 x17 x18 x19 x20 x21 x22 x23 x24 x26 x27 x28))] := hD
  refine lv_iconst (v := (-1)) hx hb dX11_refuse_10 (by decide) ?_
  have hP9 := hP.sub (ws' := [(h, .inr (10, mdF qa x0 x2 a b x13 x14 x15 x16 x17 x18 x19 x20 x21 x22 x23 x24 x26 x27 x28))]) [0] rfl
  have hD9 := hD.sub (ws' := [(h, .inr (10, mdF qa x0 x2 a b x13 x14 x15 x16 x17 x18 x19 x20 x21 x22 x23 x24 x26 x27 x28))]) [0] (by decide) rfl
  have hK9 := hK.sub (tys' := []) [] rfl
  exact W.iret (v := (-1)) hx hb hr (fun t ht hW => ⟨⟨(-1), ([(h, .inr (10, mdF qa x0 x2 a b x13 x14 x15 x16 x17 x18 x19 x20 x21 x22 x23 x24 x26 x27 x28))], []), rfl, ⟨rfl, rfl⟩, by rw [ht]; exact hP9, va_K.moved hW.alike hK9, hD9⟩, hS.F ht⟩) hS.2.2 dX11_refuse_11

set_option maxHeartbeats 400000 in
set_option maxRecDepth 100000 in
theorem mf_load (l : Launch) (dC : Nat → ClassId) (dI : Nat → Nat → Nat) (sz : Nat) (h : Nat) (qa : Nat → Nat) (kk : Nat) : Met l yX11_load (wsG (.code yX11_load cX11_load 9 (some .int))) ({ frames := 1, cells := 0, slots := 0, locals := 22 }) (va_Pc [.ref h] (gP (dC, dI) [] [(h, .inr (10, mdF qa (nI kk) 0 0 (-1) 1 0 6 125 (-1) (-1) (-1) 0 0 17 0 (-1) 0 0 0))] sz)) (va_Qi (fun (r : Int32) (u : va_W × gT) => u = ([], []) ∧ r = (-1)) (gB (dC, dI) (va_A [(h, .inr (10, mdF qa (nI kk) 0 0 (-1) 1 0 6 125 (-1) (-1) (-1) 0 0 17 0 (-1) 0 0 0))] sz)) (va_A [(h, .inr (10, mdF qa (nI kk) 0 0 (-1) 1 0 6 125 (-1) (-1) (-1) 0 0 17 0 (-1) 0 0 0))] sz)) 0 0 (va_A [(h, .inr (10, mdF qa (nI kk) 0 0 (-1) 1 0 6 125 (-1) (-1) (-1) 0 0 17 0 (-1) 0 0 0))] sz) := by
  refine Met.ofW (cc := cX11_load) (maxL := 9) (ret := (some .int)) (by decide) rfl ?_
  intro p e s m args below meth c s₁ B hml hv
  obtain ⟨rfl, hsz, hP, hK, hD0, hN, hZ⟩ := hv
  have hx := B.exec
  have hb := B.bytes
  have hr := B.returns
  have hts := atoms_spec (ws := (wsG (.code yX11_load cX11_load 9 (some .int)))) B.pre
  have hown : s.vm.findClass RX11 = some m.cls := findClass_of_methodNamed B.named
  have hlocks := B.notSynchronized
  subst hsz
  have hD := hD0.self (sz := s.heap.size)
  generalize hAe : va_A [(h, .inr (10, mdF qa (nI kk) 0 0 (-1) 1 0 6 125 (-1) (-1) (-1) 0 0 17 0 (-1) 0 0 0))] s.heap.size = A at hD hZ ⊢
  have hA : ∀ q : Nat, s.heap.size ≤ q → A q := fun q h => by rw [← hAe]; exact Or.inr h
  have hl := lv_entry ([.ref h]) (n := 9) (Nat.le_of_ble_eq_true rfl)
  rw [lg_entry_eq]
  generalize (lg_sl ([.ref h]) ++ List.replicate (9 - (lg_sl ([.ref h])).length) Slot.unset).toArray = ls at hl ⊢
  have hl : lv_has ls 9 [(0, .ref h)] := hl
  refine g_start (A := A) hP (fun H locs hP hS => ?_)
  refine lv_aload_n hx hb dX11_load_0 rfl (lv_at hl 0 rfl) ?_
  refine lv_iconst (v := 0) hx hb dX11_load_1 (by decide) ?_
  refine lv_iconst (v := (-1)) hx hb dX11_load_2 (by decide) ?_
  refine g_calli (wr := []) (va_runV (As := [.int 0, .int (-1)]) (rest := []) ⟨hx, hb, hml, hown, hts⟩ (m_refuse l dC dI H.size h qa (nI kk) 0 0 (-1) 1 0 6 125 (-1) (-1) (-1) 0 0 17 0 (-1) 0 0 0 0 (-1) ) (cwV 2 hts (gG_V kw_426 kw_427 kw_428 kw_5 kw_429) rfl rfl rfl (by decide +kernel) ⟨Nat.le_of_ble_eq_true rfl, Nat.le_of_ble_eq_true rfl⟩) (g_preV (C := RX11) (T := TX11) (N := 53) hP hD hK hS hA hN hZ (q0 := 0) rfl rfl [0] (by decide) rfl [] rfl) rfl rfl hl.1 rfl (lv_room (Nat.le_of_ble_eq_true rfl)) dX11_load_3 ⟨Nat.le_of_ble_eq_true rfl, Nat.le_of_ble_eq_true rfl⟩) hP hD hK hS hA [0] [] rfl rfl (by decide) (by decide) (fun r_3 w ty1 H locs hw_3 hP hD _ hS => ?_)
  rcases hw_3 with ⟨hu, hr_3⟩
  cases hu
  have hP : va_P (dC, dI) vwCl [(h, .inr (10, mdF qa (nI kk) 0 0 (-1) 1 0 6 125 (-1) (-1) (-1) 0 0 17 0 (-1) 0 0 0))] H := hP
  have hD : va_D A [(h, .inr (10, mdF qa (nI kk) 0 0 (-1) 1 0 6 125 (-1) (-1) (-1) 0 0 17 0 (-1) 0 0 0))] := hD
  refine g_topi (y := (-1)) hr_3 ?_
  refine lv_istore_n (lv' := [(1, .int (-1)), (0, .ref h)]) hx hb dX11_load_6 rfl hl (by decide) rfl (fun ls hl => ?_)
  refine lv_aload_n hx hb dX11_load_7 rfl (lv_at hl 1 rfl) ?_
  refine va_get (D := (dC, dI)) (ci := 10) (v := .int 0) (C := RX11) (T := TX11) (N := 53) hx hb hts iwX11 hown hK hP 0 rfl rfl 2 (by decide) (hts (.fieldLink RX11 138 "ModulePlayerModel" "taped" "I") (List.mem_cons_of_mem _ kw_253)) (fun _ h9 => h9) rfl dX11_load_8 ?_
  refine lv_sipush (v := 1084) hx hb dX11_load_11 (by decide) ?_
  refine lv_icmp_ge (tgt := 27) hx hb dX11_load_14 (by decide) (fun c_14 => absurd c_14 (by decide)) (fun c_14 => ?_)
  refine lv_aload_n hx hb dX11_load_17 rfl (lv_at hl 1 rfl) ?_
  refine lv_iconst (v := 1) hx hb dX11_load_18 (by decide) ?_
  refine lv_aload_n hx hb dX11_load_19 rfl (lv_at hl 1 rfl) ?_
  refine va_get (D := (dC, dI)) (ci := 10) (v := .int 0) (C := RX11) (T := TX11) (N := 53) hx hb hts iwX11 hown hK hP 0 rfl rfl 2 (by decide) (hts (.fieldLink RX11 138 "ModulePlayerModel" "taped" "I") (List.mem_cons_of_mem _ kw_253)) (fun _ h9 => h9) rfl dX11_load_20 ?_
  refine g_calli (wr := []) (va_runV (As := [.int 1, .int 0]) (rest := []) ⟨hx, hb, hml, hown, hts⟩ (m_refuse l dC dI H.size h qa (nI kk) 0 0 (-1) 1 0 6 125 (-1) (-1) (-1) 0 0 17 0 (-1) 0 0 0 1 0 ) (cwV 2 hts (gG_V kw_426 kw_427 kw_428 kw_5 kw_429) rfl rfl rfl (by decide +kernel) ⟨Nat.le_of_ble_eq_true rfl, Nat.le_of_ble_eq_true rfl⟩) (g_preV (C := RX11) (T := TX11) (N := 53) hP hD hK hS hA hN hZ (q0 := 0) rfl rfl [0] (by decide) rfl [] rfl) rfl rfl hl.1 rfl (lv_room (Nat.le_of_ble_eq_true rfl)) dX11_load_23 ⟨Nat.le_of_ble_eq_true rfl, Nat.le_of_ble_eq_true rfl⟩) hP hD hK hS hA [0] [] rfl rfl (by decide) (by decide) (fun r_23 w ty1 H locs hw_23 hP hD _ hS => ?_)
  rcases hw_23 with ⟨hu, hr_23⟩
  cases hu
  have hP : va_P (dC, dI) vwCl [(h, .inr (10, mdF qa (nI kk) 0 1 0 1 0 6 125 (-1) (-1) (-1) 0 0 17 0 (-1) 0 0 0))] H := hP
  have hD : va_D A [(h, .inr (10, mdF qa (nI kk) 0 1 0 1 0 6 125 (-1) (-1) (-1) 0 0 17 0 (-1) 0 0 0))] := hD
  refine g_topi (y := (-1)) hr_23 ?_
  have hP9 := hP.sub (ws' := []) [] rfl
  have hD9 := hD.sub (ws' := []) [] (by decide) rfl
  have hK9 := hK.sub (tys' := []) [] rfl
  exact W.iret (v := (-1)) hx hb hr (fun t ht hW => ⟨⟨(-1), ([], []), rfl, ⟨rfl, rfl⟩, by rw [ht]; exact hP9, va_K.moved hW.alike hK9, hD9⟩, hS.F ht⟩) hS.2.2 dX11_load_26
