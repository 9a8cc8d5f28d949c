set_option maxHeartbeats 400000 in
set_option maxRecDepth 100000 in
/-- Bank.has -/
theorem c_has (l : Launch) (dC : Nat → ClassId) (dI : Nat → Nat → Nat) (sz : Nat) (h sa bb : Nat) (us : Int32) (i : Int32) : Met l yX0_has (wsG (.code yX0_has cX0_has 2 (some .boolean))) ({ frames := 0, cells := 0, slots := 0, locals := 0 }) (va_Pc [.ref h, .int i] (gP (dC, dI) [] [(h, .inr (0, [.ref sa, .ref bb, .int us]))] sz)) (va_Qi (fun (r : Int32) (u : va_W × gT) => (u = ([(h, .inr (0, [.ref sa, .ref bb, .int us]))], []) ∧ r = 1 ∧ 1 ≤ i ∧ i ≤ 31) ∨ (u = ([(h, .inr (0, [.ref sa, .ref bb, .int us]))], []) ∧ r = 0 ∧ ¬ (1 ≤ i ∧ i ≤ 31))) (gB (dC, dI) (va_A [(h, .inr (0, [.ref sa, .ref bb, .int us]))] sz)) (va_A [(h, .inr (0, [.ref sa, .ref bb, .int us]))] sz)) 0 0 (va_A [(h, .inr (0, [.ref sa, .ref bb, .int us]))] sz) := by
  refine Met.ofW (cc := cX0_has) (maxL := 2) (ret := (some .boolean)) (by decide) rfl ?_
  intro p e s m args below meth c s₁ B hml hv
  obtain ⟨rfl, hsz, hP, hK, hD0, hN, hZ⟩ := hv
  have hx := B.exec
  have hb := B.bytes
  have hr := B.returns
  have hts := atoms_spec (ws := (wsG (.code yX0_has cX0_has 2 (some .boolean)))) B.pre
  have hown : s.vm.findClass RX0 = some m.cls := findClass_of_methodNamed B.named
  have hlocks := B.notSynchronized
  subst hsz
  have hD := hD0.self (sz := s.heap.size)
  generalize hAe : va_A [(h, .inr (0, [.ref sa, .ref bb, .int us]))] s.heap.size = A at hD hZ ⊢
  have hA : ∀ q : Nat, s.heap.size ≤ q → A q := fun q h => by rw [← hAe]; exact Or.inr h
  have hl := lv_entry ([.ref h, .int i]) (n := 2) (Nat.le_of_ble_eq_true rfl)
  rw [lg_entry_eq]
  generalize (lg_sl ([.ref h, .int i]) ++ List.replicate (2 - (lg_sl ([.ref h, .int i])).length) Slot.unset).toArray = ls at hl ⊢
  have hl : lv_has ls 2 [(0, .ref h), (1, .int i)] := hl
  refine g_start (A := A) hP (fun H locs hP hS => ?_)
  refine lv_iload_n hx hb dX0_has_0 rfl (lv_at hl 1 rfl) ?_
  refine lv_iconst (v := 1) hx hb dX0_has_1 (by decide) ?_
  refine lv_icmp_lt (tgt := 15) hx hb dX0_has_2 (by decide) (fun c_2 => ?_) (fun c_2 => ?_)
  · refine lv_iconst (v := 0) hx hb dX0_has_15 (by decide) ?_
    have hP9 := hP.sub (ws' := [(h, .inr (0, [.ref sa, .ref bb, .int us]))]) [0] rfl
    have hD9 := hD.sub (ws' := [(h, .inr (0, [.ref sa, .ref bb, .int us]))]) [0] (by decide +kernel) rfl
    have hK9 := hK.sub (tys' := []) [] rfl
    exact W.zret (v := 0) hx hb hr (by decide) (fun t ht hW => ⟨⟨0, ([(h, .inr (0, [.ref sa, .ref bb, .int us]))], []), rfl, (Or.inr ⟨rfl, rfl, (fun q => i_nle.mpr c_2 q.1)⟩), by rw [ht]; exact hP9, va_K.moved hW.alike hK9, hD9⟩, hS.F ht⟩) hS.2.2 dX0_has_16
  refine lv_iload_n hx hb dX0_has_5 rfl (lv_at hl 1 rfl) ?_
  refine lv_bipush (v := 31) hx hb dX0_has_6 (by decide) ?_
  refine lv_icmp_gt (tgt := 15) hx hb dX0_has_8 (by decide) (fun c_8 => ?_) (fun c_8 => ?_)
  · refine lv_iconst (v := 0) hx hb dX0_has_15 (by decide) ?_
    have hP9 := hP.sub (ws' := [(h, .inr (0, [.ref sa, .ref bb, .int us]))]) [0] rfl
    have hD9 := hD.sub (ws' := [(h, .inr (0, [.ref sa, .ref bb, .int us]))]) [0] (by decide +kernel) rfl
    have hK9 := hK.sub (tys' := []) [] rfl
    exact W.zret (v := 0) hx hb hr (by decide) (fun t ht hW => ⟨⟨0, ([(h, .inr (0, [.ref sa, .ref bb, .int us]))], []), rfl, (Or.inr ⟨rfl, rfl, (fun q => i_nle.mpr c_8 q.2)⟩), by rw [ht]; exact hP9, va_K.moved hW.alike hK9, hD9⟩, hS.F ht⟩) hS.2.2 dX0_has_16
  refine lv_iconst (v := 1) hx hb dX0_has_11 (by decide) ?_
  refine lv_goto (tgt := 16) hx hb dX0_has_12 (by decide) ?_
  have hP9 := hP.sub (ws' := [(h, .inr (0, [.ref sa, .ref bb, .int us]))]) [0] rfl
  have hD9 := hD.sub (ws' := [(h, .inr (0, [.ref sa, .ref bb, .int us]))]) [0] (by decide +kernel) rfl
  have hK9 := hK.sub (tys' := []) [] rfl
  exact W.zret (v := 1) hx hb hr (by decide) (fun t ht hW => ⟨⟨1, ([(h, .inr (0, [.ref sa, .ref bb, .int us]))], []), rfl, (Or.inl ⟨rfl, rfl, (⟨i_nlt.mp c_2, i_nlt.mp c_8⟩)⟩), by rw [ht]; exact hP9, va_K.moved hW.alike hK9, hD9⟩, hS.F ht⟩) hS.2.2 dX0_has_16

set_option maxHeartbeats 400000 in
set_option maxRecDepth 100000 in
/-- Bank.get -/
theorem c_get (l : Launch) (dC : Nat → ClassId) (dI : Nat → Nat → Nat) (sz : Nat) (h sa bb : Nat) (us : Int32) (ad : Nat → Nat) (cS : ClassId) (g : Nat → Option Nat) (k : Nat) (hg : ∀ x, x < 32 → g x = some (ad x)) (hk : k < 32) : Met l yX0_get (wsG (.code yX0_get cX0_get 2 (some (.object "ModulePlayer$Sample")))) ({ frames := 1, cells := 0, slots := 0, locals := 21 }) (va_Pc [.ref h, .int (nI k)] (gP (dC, dI) [(cS, .object RX5)] [(h, .inr (0, [.ref sa, .ref bb, .int us])), (sa, .inl (cS, 32, .inr (.inr (.inr (.inr g)))))] sz)) (va_Qq (fun (r : Option Nat) (u : va_W × gT) => u = ([(h, .inr (0, [.ref sa, .ref bb, .int us])), (sa, .inl (cS, 32, .inr (.inr (.inr (.inr g)))))], []) ∧ r = some (ad k)) (gB (dC, dI) (va_A [(h, .inr (0, [.ref sa, .ref bb, .int us])), (sa, .inl (cS, 32, .inr (.inr (.inr (.inr g)))))] sz)) (va_A [(h, .inr (0, [.ref sa, .ref bb, .int us])), (sa, .inl (cS, 32, .inr (.inr (.inr (.inr g)))))] sz)) 0 0 (va_A [(h, .inr (0, [.ref sa, .ref bb, .int us])), (sa, .inl (cS, 32, .inr (.inr (.inr (.inr g)))))] sz) := by
  refine Met.ofW (cc := cX0_get) (maxL := 2) (ret := (some (.object "ModulePlayer$Sample"))) (by decide) rfl ?_
  intro p e s m args below meth c s₁ B hml hv
  obtain ⟨rfl, hsz, hP, hK, hD0, hN, hZ⟩ := hv
  have hx := B.exec
  have hb := B.bytes
  have hr := B.returns
  have hts := atoms_spec (ws := (wsG (.code yX0_get cX0_get 2 (some (.object "ModulePlayer$Sample"))))) B.pre
  have hown : s.vm.findClass RX0 = some m.cls := findClass_of_methodNamed B.named
  have hlocks := B.notSynchronized
  subst hsz
  have hD := hD0.self (sz := s.heap.size)
  generalize hAe : va_A [(h, .inr (0, [.ref sa, .ref bb, .int us])), (sa, .inl (cS, 32, .inr (.inr (.inr (.inr g)))))] s.heap.size = A at hD hZ ⊢
  have hA : ∀ q : Nat, s.heap.size ≤ q → A q := fun q h => by rw [← hAe]; exact Or.inr h
  have hl := lv_entry ([.ref h, .int (nI k)]) (n := 2) (Nat.le_of_ble_eq_true rfl)
  rw [lg_entry_eq]
  generalize (lg_sl ([.ref h, .int (nI k)]) ++ List.replicate (2 - (lg_sl ([.ref h, .int (nI k)])).length) Slot.unset).toArray = ls at hl ⊢
  have hl : lv_has ls 2 [(0, .ref h), (1, .int (nI k))] := hl
  refine g_start (A := A) hP (fun H locs hP hS => ?_)
  refine lv_aload_n hx hb dX0_get_0 rfl (lv_at hl 0 rfl) ?_
  refine va_get (D := (dC, dI)) (ci := 0) (v := .ref sa) (C := RX0) (T := TX0) (N := 3) hx hb hts iwX0 hown hK hP 0 rfl rfl 0 (by decide) (hts (.fieldLink RX0 11 "ModulePlayer$Bank" "samples" "[LModulePlayer$Sample;") (List.mem_cons_of_mem _ kw_54)) (fun _ h9 => h9) rfl dX0_get_1 ?_
  refine lv_aload_n hx hb dX0_get_4 rfl (lv_at hl 0 rfl) ?_
  refine lv_iload_n hx hb dX0_get_5 rfl (lv_at hl 1 rfl) ?_
  refine g_calli (wr := [(sa, .inl (cS, 32, .inr (.inr (.inr (.inr g)))))]) (va_runV (As := [.int (nI k)]) (rest := [.ref sa]) ⟨hx, hb, hml, hown, hts⟩ (c_has l dC dI H.size h sa bb us (nI k) ) (cwV 1 hts (gG_V kw_396 kw_397 kw_398 kw_22 kw_399) rfl rfl rfl (by decide +kernel) ⟨Nat.le_of_ble_eq_true rfl, Nat.le_of_ble_eq_true rfl⟩) (g_preV (C := RX0) (T := TX0) (N := 3) hP hD hK hS hA hN hZ (q0 := 0) rfl rfl [0] (by decide +kernel) rfl [] rfl) rfl rfl hl.1 rfl (lv_room (Nat.le_of_ble_eq_true rfl)) dX0_get_6 ⟨Nat.le_of_ble_eq_true rfl, Nat.le_of_ble_eq_true rfl⟩) hP hD hK hS hA [0] [1] rfl rfl (by decide +kernel) (by decide +kernel) (fun r_6 w ty1 H locs hw_6 hP hD _ hS => ?_)
  rcases hw_6 with ⟨hu, hr_6, hh_6⟩ | ⟨hu, hr_6, hh_6⟩
  · cases hu
    have hP : va_P (dC, dI) vwCl [(sa, .inl (cS, 32, .inr (.inr (.inr (.inr g))))), (h, .inr (0, [.ref sa, .ref bb, .int us]))] H := hP
    have hD : va_D A [(sa, .inl (cS, 32, .inr (.inr (.inr (.inr g))))), (h, .inr (0, [.ref sa, .ref bb, .int us]))] := hD
    refine g_topi (y := 1) hr_6 ?_
    refine lv_if_eq (tgt := 16) hx hb dX0_get_9 (by decide) (fun c_9 => absurd c_9 (by decide)) (fun c_9 => ?_)
    refine lv_iload_n hx hb dX0_get_12 rfl (lv_at hl 1 rfl) ?_
    refine lv_goto (tgt := 17) hx hb dX0_get_13 (by decide) ?_
    refine g_aald hx hb hK hP 0 0 rfl rfl k (nI_clamp (by omega)) (y := (ad k)) (hg k hk) (vp_in_nI hk (by decide)) dX0_get_17 ?_
    have hP9 := hP.sub (ws' := [(h, .inr (0, [.ref sa, .ref bb, .int us])), (sa, .inl (cS, 32, .inr (.inr (.inr (.inr g)))))]) [1, 0] rfl
    have hD9 := hD.sub (ws' := [(h, .inr (0, [.ref sa, .ref bb, .int us])), (sa, .inl (cS, 32, .inr (.inr (.inr (.inr g)))))]) [1, 0] (by decide +kernel) rfl
    have hK9 := hK.sub (tys' := []) [] rfl
    exact W.aret (v := .ref (ad k)) hx hb hr (Or.inl ⟨_, rfl⟩) (Or.inr ⟨_, rfl⟩) (fun t ht hW => ⟨⟨some (ad k), ([(h, .inr (0, [.ref sa, .ref bb, .int us])), (sa, .inl (cS, 32, .inr (.inr (.inr (.inr g)))))], []), rfl, ⟨rfl, rfl⟩, by rw [ht]; exact hP9, va_K.moved hW.alike hK9, hD9⟩, hS.F ht⟩) hS.2.2 dX0_get_18
  cases hu
  have hP : va_P (dC, dI) vwCl [(sa, .inl (cS, 32, .inr (.inr (.inr (.inr g))))), (h, .inr (0, [.ref sa, .ref bb, .int us]))] H := hP
  have hD : va_D A [(sa, .inl (cS, 32, .inr (.inr (.inr (.inr g))))), (h, .inr (0, [.ref sa, .ref bb, .int us]))] := hD
  refine g_topi (y := 0) hr_6 ?_
  refine lv_if_eq (tgt := 16) hx hb dX0_get_9 (by decide) (fun c_9 => ?_) (fun c_9 => absurd c_9 (by decide))
  refine lv_iconst (v := 0) hx hb dX0_get_16 (by decide) ?_
  refine g_aald hx hb hK hP 0 0 rfl rfl 0 (by decide) (y := (ad k)) (by have e0 : k = 0 := k0_of hh_6 hk; rw [e0]; exact hg 0 (by decide)) (by unfold vp_in; decide) dX0_get_17 ?_
  have hP9 := hP.sub (ws' := [(h, .inr (0, [.ref sa, .ref bb, .int us])), (sa, .inl (cS, 32, .inr (.inr (.inr (.inr g)))))]) [1, 0] rfl
  have hD9 := hD.sub (ws' := [(h, .inr (0, [.ref sa, .ref bb, .int us])), (sa, .inl (cS, 32, .inr (.inr (.inr (.inr g)))))]) [1, 0] (by decide +kernel) rfl
  have hK9 := hK.sub (tys' := []) [] rfl
  exact W.aret (v := .ref (ad k)) hx hb hr (Or.inl ⟨_, rfl⟩) (Or.inr ⟨_, rfl⟩) (fun t ht hW => ⟨⟨some (ad k), ([(h, .inr (0, [.ref sa, .ref bb, .int us])), (sa, .inl (cS, 32, .inr (.inr (.inr (.inr g)))))], []), rfl, ⟨rfl, rfl⟩, by rw [ht]; exact hP9, va_K.moved hW.alike hK9, hD9⟩, hS.F ht⟩) hS.2.2 dX0_get_18

set_option maxHeartbeats 400000 in
set_option maxRecDepth 100000 in
/-- lengthFits -/
theorem c_lenFits (l : Launch) (dC : Nat → ClassId) (dI : Nat → Nat → Nat) (sz : Nat) (n o : Int32) : Met l yX0_lengthFits (wsG (.code yX0_lengthFits cX0_lengthFits 2 (some .boolean))) ({ frames := 0, cells := 0, slots := 0, locals := 0 }) (va_Pc [.int n, .int o] (gP (dC, dI) [] [] sz)) (va_Qi (fun (r : Int32) (u : va_W × gT) => (u = ([], []) ∧ r = 1 ∧ lenOk n o) ∨ (u = ([], []) ∧ r = 0 ∧ ¬ lenOk n o)) (gB (dC, dI) (va_A [] sz)) (va_A [] sz)) 0 0 (va_A [] sz) := by
  refine Met.ofW (cc := cX0_lengthFits) (maxL := 2) (ret := (some .boolean)) (by decide) rfl ?_
  intro p e s m args below meth c s₁ B hml hv
  obtain ⟨rfl, hsz, hP, hK, hD0, hN, hZ⟩ := hv
  have hx := B.exec
  have hb := B.bytes
  have hr := B.returns
  have hts := atoms_spec (ws := (wsG (.code yX0_lengthFits cX0_lengthFits 2 (some .boolean)))) B.pre
  have hown : s.vm.findClass RX0 = some m.cls := findClass_of_methodNamed B.named
  have hlocks := B.notSynchronized
  subst hsz
  have hD := hD0.self (sz := s.heap.size)
  generalize hAe : va_A [] s.heap.size = A at hD hZ ⊢
  have hA : ∀ q : Nat, s.heap.size ≤ q → A q := fun q h => by rw [← hAe]; exact Or.inr h
  have hl := lv_entry ([.int n, .int o]) (n := 2) (Nat.le_of_ble_eq_true rfl)
  rw [lg_entry_eq]
  generalize (lg_sl ([.int n, .int o]) ++ List.replicate (2 - (lg_sl ([.int n, .int o])).length) Slot.unset).toArray = ls at hl ⊢
  have hl : lv_has ls 2 [(0, .int n), (1, .int o)] := hl
  refine g_start (A := A) hP (fun H locs hP hS => ?_)
  refine lv_iload_n hx hb dX0_lengthFits_0 rfl (lv_at hl 0 rfl) ?_
  refine lv_if_lt (tgt := 30) hx hb dX0_lengthFits_1 (by decide) (fun c_1 => ?_) (fun c_1 => ?_)
  · refine lv_iconst (v := 0) hx hb dX0_lengthFits_30 (by decide) ?_
    have hP9 := hP.sub (ws' := []) [] rfl
    have hD9 := hD.sub (ws' := []) [] (by decide) rfl
    have hK9 := hK.sub (tys' := []) [] rfl
    exact W.zret (v := 0) hx hb hr (by decide) (fun t ht hW => ⟨⟨0, ([], []), rfl, (Or.inr ⟨rfl, rfl, (fun q => i_nle.mpr c_1 q.1)⟩), by rw [ht]; exact hP9, va_K.moved hW.alike hK9, hD9⟩, hS.F ht⟩) hS.2.2 dX0_lengthFits_31
  refine lv_iload_n hx hb dX0_lengthFits_4 rfl (lv_at hl 0 rfl) ?_
  refine lv_sipush (v := 2000) hx hb dX0_lengthFits_5 (by decide) ?_
  refine lv_icmp_gt (tgt := 30) hx hb dX0_lengthFits_8 (by decide) (fun c_8 => ?_) (fun c_8 => ?_)
  · refine lv_iconst (v := 0) hx hb dX0_lengthFits_30 (by decide) ?_
    have hP9 := hP.sub (ws' := []) [] rfl
    have hD9 := hD.sub (ws' := []) [] (by decide) rfl
    have hK9 := hK.sub (tys' := []) [] rfl
    exact W.zret (v := 0) hx hb hr (by decide) (fun t ht hW => ⟨⟨0, ([], []), rfl, (Or.inr ⟨rfl, rfl, (fun q => i_nle.mpr c_8 q.2.1)⟩), by rw [ht]; exact hP9, va_K.moved hW.alike hK9, hD9⟩, hS.F ht⟩) hS.2.2 dX0_lengthFits_31
  refine lv_iload_n hx hb dX0_lengthFits_11 rfl (lv_at hl 0 rfl) ?_
  refine lv_iconst (v := 2) hx hb dX0_lengthFits_12 (by decide) ?_
  refine lv_irem hx hb dX0_lengthFits_13 (by decide) ?_
  refine lv_if_ne (tgt := 30) hx hb dX0_lengthFits_14 (by decide) (fun c_14 => ?_) (fun c_14 => ?_)
  · refine lv_iconst (v := 0) hx hb dX0_lengthFits_30 (by decide) ?_
    have hP9 := hP.sub (ws' := []) [] rfl
    have hD9 := hD.sub (ws' := []) [] (by decide) rfl
    have hK9 := hK.sub (tys' := []) [] rfl
    exact W.zret (v := 0) hx hb hr (by decide) (fun t ht hW => ⟨⟨0, ([], []), rfl, (Or.inr ⟨rfl, rfl, (fun q => c_14 q.2.2.1)⟩), by rw [ht]; exact hP9, va_K.moved hW.alike hK9, hD9⟩, hS.F ht⟩) hS.2.2 dX0_lengthFits_31
  refine lv_iload_n hx hb dX0_lengthFits_17 rfl (lv_at hl 1 rfl) ?_
  refine lv_iload_n hx hb dX0_lengthFits_18 rfl (lv_at hl 0 rfl) ?_
  refine lv_iadd hx hb dX0_lengthFits_19 ?_
  refine lv_sipush (v := 4000) hx hb dX0_lengthFits_20 (by decide) ?_
  refine lv_icmp_gt (tgt := 30) hx hb dX0_lengthFits_23 (by decide) (fun c_23 => ?_) (fun c_23 => ?_)
  · refine lv_iconst (v := 0) hx hb dX0_lengthFits_30 (by decide) ?_
    have hP9 := hP.sub (ws' := []) [] rfl
    have hD9 := hD.sub (ws' := []) [] (by decide) rfl
    have hK9 := hK.sub (tys' := []) [] rfl
    exact W.zret (v := 0) hx hb hr (by decide) (fun t ht hW => ⟨⟨0, ([], []), rfl, (Or.inr ⟨rfl, rfl, (fun q => i_nle.mpr c_23 q.2.2.2)⟩), by rw [ht]; exact hP9, va_K.moved hW.alike hK9, hD9⟩, hS.F ht⟩) hS.2.2 dX0_lengthFits_31
  refine lv_iconst (v := 1) hx hb dX0_lengthFits_26 (by decide) ?_
  refine lv_goto (tgt := 31) hx hb dX0_lengthFits_27 (by decide) ?_
  have hP9 := hP.sub (ws' := []) [] rfl
  have hD9 := hD.sub (ws' := []) [] (by decide) rfl
  have hK9 := hK.sub (tys' := []) [] rfl
  exact W.zret (v := 1) hx hb hr (by decide) (fun t ht hW => ⟨⟨1, ([], []), rfl, (Or.inl ⟨rfl, rfl, (⟨i_nlt.mp c_1, i_nlt.mp c_8, c_14, i_nlt.mp c_23⟩)⟩), by rw [ht]; exact hP9, va_K.moved hW.alike hK9, hD9⟩, hS.F ht⟩) hS.2.2 dX0_lengthFits_31

set_option maxHeartbeats 400000 in
set_option maxRecDepth 100000 in
/-- canResize -/
theorem c_canResize (l : Launch) (dC : Nat → ClassId) (dI : Nat → Nat → Nat) (sz : Nat) (h sa bb : Nat) (us : Int32) (ad : Nat → Nat) (cS : ClassId) (g : Nat → Option Nat) (le tu vo sr lo fr : Nat → Int32) (k : Nat) (n : Int32) (hg : ∀ x, x < 32 → g x = some (ad x)) (hk : k < 32) : Met l yX0_canResize (wsG (.code yX0_canResize cX0_canResize 3 (some .boolean))) ({ frames := 2, cells := 0, slots := 0, locals := 42 }) (va_Pc [.ref h, .int (nI k), .int n] (gP (dC, dI) [(cS, .object RX5)] ([(h, .inr (0, [.ref sa, .ref bb, .int us])), (sa, .inl (cS, 32, .inr (.inr (.inr (.inr g)))))] ++ famN 32 ad le tu vo sr lo fr) sz)) (va_Qi (fun (r : Int32) (u : va_W × gT) => (u = (([(h, .inr (0, [.ref sa, .ref bb, .int us])), (sa, .inl (cS, 32, .inr (.inr (.inr (.inr g)))))] ++ famN 32 ad le tu vo sr lo fr), []) ∧ r = 1 ∧ lenOk n (us - le k)) ∨ (u = (([(h, .inr (0, [.ref sa, .ref bb, .int us])), (sa, .inl (cS, 32, .inr (.inr (.inr (.inr g)))))] ++ famN 32 ad le tu vo sr lo fr), []) ∧ r = 0 ∧ ¬ lenOk n (us - le k))) (gB (dC, dI) (va_A ([(h, .inr (0, [.ref sa, .ref bb, .int us])), (sa, .inl (cS, 32, .inr (.inr (.inr (.inr g)))))] ++ famN 32 ad le tu vo sr lo fr) sz)) (va_A ([(h, .inr (0, [.ref sa, .ref bb, .int us])), (sa, .inl (cS, 32, .inr (.inr (.inr (.inr g)))))] ++ famN 32 ad le tu vo sr lo fr) sz)) 0 0 (va_A ([(h, .inr (0, [.ref sa, .ref bb, .int us])), (sa, .inl (cS, 32, .inr (.inr (.inr (.inr g)))))] ++ famN 32 ad le tu vo sr lo fr) sz) := by
  refine Met.ofW (cc := cX0_canResize) (maxL := 3) (ret := (some .boolean)) (by decide) rfl ?_
  intro p e s m args below meth c s₁ B hml hv
  obtain ⟨rfl, hsz, hP, hK, hD0, hN, hZ⟩ := hv
  have hx := B.exec
  have hb := B.bytes
  have hr := B.returns
  have hts := atoms_spec (ws := (wsG (.code yX0_canResize cX0_canResize 3 (some .boolean)))) B.pre
  have hown : s.vm.findClass RX0 = some m.cls := findClass_of_methodNamed B.named
  have hlocks := B.notSynchronized
  subst hsz
  have hD := hD0.self (sz := s.heap.size)
  generalize hAe : va_A ([(h, .inr (0, [.ref sa, .ref bb, .int us])), (sa, .inl (cS, 32, .inr (.inr (.inr (.inr g)))))] ++ famN 32 ad le tu vo sr lo fr) s.heap.size = A at hD hZ ⊢
  have hA : ∀ q : Nat, s.heap.size ≤ q → A q := fun q h => by rw [← hAe]; exact Or.inr h
  have hl := lv_entry ([.ref h, .int (nI k), .int n]) (n := 3) (Nat.le_of_ble_eq_true rfl)
  rw [lg_entry_eq]
  generalize (lg_sl ([.ref h, .int (nI k), .int n]) ++ List.replicate (3 - (lg_sl ([.ref h, .int (nI k), .int n])).length) Slot.unset).toArray = ls at hl ⊢
  have hl : lv_has ls 3 [(0, .ref h), (1, .int (nI k)), (2, .int n)] := hl
  refine g_start (A := A) hP (fun H locs hP hS => ?_)
  refine lv_iload_n hx hb dX0_canResize_0 rfl (lv_at hl 2 rfl) ?_
  refine lv_aload_n hx hb dX0_canResize_1 rfl (lv_at hl 0 rfl) ?_
  refine va_get (D := (dC, dI)) (ci := 0) (v := .int us) (C := RX0) (T := TX0) (N := 3) hx hb hts iwX0 hown hK hP 0 rfl rfl 2 (by decide) (hts (.fieldLink RX0 26 "ModulePlayer$Bank" "used" "I") (List.mem_cons_of_mem _ kw_383)) (fun _ h9 => h9) rfl dX0_canResize_2 ?_
  refine lv_aload_n hx hb dX0_canResize_5 rfl (lv_at hl 0 rfl) ?_
  refine lv_iload_n hx hb dX0_canResize_6 rfl (lv_at hl 1 rfl) ?_
  refine g_callqQ (X := [(h, .inr (0, [.ref sa, .ref bb, .int us])), (sa, .inl (cS, 32, .inr (.inr (.inr (.inr g)))))]) (wr := []) (va_runV (As := [.int (nI k)]) (rest := [.int us, .int n]) ⟨hx, hb, hml, hown, hts⟩ (c_get l dC dI H.size h sa bb us ad cS g k (hg) (hk)) (cwV 1 hts (gG_V kw_404 kw_405 kw_406 kw_22 kw_407) rfl rfl rfl (by decide +kernel) ⟨Nat.le_of_ble_eq_true rfl, Nat.le_of_ble_eq_true rfl⟩) (g_preV (ws := [(h, .inr (0, [.ref sa, .ref bb, .int us])), (sa, .inl (cS, 32, .inr (.inr (.inr (.inr g)))))]) (C := RX0) (T := TX0) (N := 3) hP.left hD.left hK hS hA hN hZ (q0 := 0) rfl rfl [0, 1] (by decide +kernel) rfl [0] rfl) rfl rfl hl.1 rfl (lv_room (Nat.le_of_ble_eq_true rfl)) dX0_canResize_7 ⟨Nat.le_of_ble_eq_true rfl, Nat.le_of_ble_eq_true rfl⟩) hP hD hK hS hA [0, 1] [] rfl rfl (by decide +kernel) (by decide +kernel) (fun r_7 w ty1 H locs hw_7 hP hD _ hS => ?_)
  rcases hw_7 with ⟨hu, hr_7⟩
  cases hu
  have hP : va_P (dC, dI) vwCl ([(h, .inr (0, [.ref sa, .ref bb, .int us])), (sa, .inl (cS, 32, .inr (.inr (.inr (.inr g)))))] ++ famN 32 ad le tu vo sr lo fr) H := hP
  have hD : va_D A ([(h, .inr (0, [.ref sa, .ref bb, .int us])), (sa, .inl (cS, 32, .inr (.inr (.inr (.inr g)))))] ++ famN 32 ad le tu vo sr lo fr) := hD
  subst hr_7
  refine W.eq (g2 := F0 m 10 ls [.ref (ad k), .int us, .int n]) rfl ?_
  refine va_get (D := (dC, dI)) (ci := 5) (v := .int (le k)) (C := RX5) (T := TX5) (N := 6) hx hb hts iwX5 hown hK hP _ (fam_at (k := k) (hk)) rfl 0 (by decide) (hts (.fieldLink RX0 34 "ModulePlayer$Sample" "length" "I") (List.mem_cons_of_mem _ kw_381)) (fun _ h9 => h9) rfl dX0_canResize_10 ?_
  refine lv_isub hx hb dX0_canResize_13 ?_
  refine g_calliQ (X := [(h, .inr (0, [.ref sa, .ref bb, .int us])), (sa, .inl (cS, 32, .inr (.inr (.inr (.inr g)))))]) (wr := [(h, .inr (0, [.ref sa, .ref bb, .int us])), (sa, .inl (cS, 32, .inr (.inr (.inr (.inr g)))))]) (va_runS (As := [.int n, .int (us - (le k))]) (rest := []) ⟨hx, hb, hml, hown, hts⟩ (c_lenFits l dC dI H.size n (us - (le k)) ) (va_cwS 2 hts (gG_S kw_408 kw_315 kw_22 kw_316) rfl rfl rfl (by decide +kernel) ⟨Nat.le_of_ble_eq_true rfl, Nat.le_of_ble_eq_true rfl⟩) (g_preS (ws := [(h, .inr (0, [.ref sa, .ref bb, .int us])), (sa, .inl (cS, 32, .inr (.inr (.inr (.inr g)))))]) hP.left hD.left hK hS hA hN hZ [] (by decide) rfl [] rfl) rfl rfl hl.1 rfl (lv_room (Nat.le_of_ble_eq_true rfl)) dX0_canResize_14 ⟨Nat.le_of_ble_eq_true rfl, Nat.le_of_ble_eq_true rfl⟩) hP hD hK hS hA [] [0, 1] rfl rfl (by decide +kernel) (by decide +kernel) (fun r_14 w ty1 H locs hw_14 hP hD _ hS => ?_)
  rcases hw_14 with ⟨hu, hr_14, hh_14⟩ | ⟨hu, hr_14, hh_14⟩
  · cases hu
    have hP : va_P (dC, dI) vwCl ([(h, .inr (0, [.ref sa, .ref bb, .int us])), (sa, .inl (cS, 32, .inr (.inr (.inr (.inr g)))))] ++ famN 32 ad le tu vo sr lo fr) H := hP
    have hD : va_D A ([(h, .inr (0, [.ref sa, .ref bb, .int us])), (sa, .inl (cS, 32, .inr (.inr (.inr (.inr g)))))] ++ famN 32 ad le tu vo sr lo fr) := hD
    refine g_topi (y := 1) hr_14 ?_
    have hP9 := hP.sub (ws' := ([(h, .inr (0, [.ref sa, .ref bb, .int us])), (sa, .inl (cS, 32, .inr (.inr (.inr (.inr g)))))] ++ famN 32 ad le tu vo sr lo fr)) [0, 1, 2, 3, 4, 5, 6, 7, 8, 9, 10, 11, 12, 13, 14, 15, 16, 17, 18, 19, 20, 21, 22, 23, 24, 25, 26, 27, 28, 29, 30, 31, 32, 33] rfl
    have hD9 := hD.sub (ws' := ([(h, .inr (0, [.ref sa, .ref bb, .int us])), (sa, .inl (cS, 32, .inr (.inr (.inr (.inr g)))))] ++ famN 32 ad le tu vo sr lo fr)) [0, 1, 2, 3, 4, 5, 6, 7, 8, 9, 10, 11, 12, 13, 14, 15, 16, 17, 18, 19, 20, 21, 22, 23, 24, 25, 26, 27, 28, 29, 30, 31, 32, 33] (by decide +kernel) rfl
    have hK9 := hK.sub (tys' := []) [] rfl
    exact W.zret (v := 1) hx hb hr (by decide) (fun t ht hW => ⟨⟨1, (([(h, .inr (0, [.ref sa, .ref bb, .int us])), (sa, .inl (cS, 32, .inr (.inr (.inr (.inr g)))))] ++ famN 32 ad le tu vo sr lo fr), []), rfl, (Or.inl ⟨rfl, rfl, hh_14⟩), by rw [ht]; exact hP9, va_K.moved hW.alike hK9, hD9⟩, hS.F ht⟩) hS.2.2 dX0_canResize_17
  cases hu
  have hP : va_P (dC, dI) vwCl ([(h, .inr (0, [.ref sa, .ref bb, .int us])), (sa, .inl (cS, 32, .inr (.inr (.inr (.inr g)))))] ++ famN 32 ad le tu vo sr lo fr) H := hP
  have hD : va_D A ([(h, .inr (0, [.ref sa, .ref bb, .int us])), (sa, .inl (cS, 32, .inr (.inr (.inr (.inr g)))))] ++ famN 32 ad le tu vo sr lo fr) := hD
  refine g_topi (y := 0) hr_14 ?_
  have hP9 := hP.sub (ws' := ([(h, .inr (0, [.ref sa, .ref bb, .int us])), (sa, .inl (cS, 32, .inr (.inr (.inr (.inr g)))))] ++ famN 32 ad le tu vo sr lo fr)) [0, 1, 2, 3, 4, 5, 6, 7, 8, 9, 10, 11, 12, 13, 14, 15, 16, 17, 18, 19, 20, 21, 22, 23, 24, 25, 26, 27, 28, 29, 30, 31, 32, 33] rfl
  have hD9 := hD.sub (ws' := ([(h, .inr (0, [.ref sa, .ref bb, .int us])), (sa, .inl (cS, 32, .inr (.inr (.inr (.inr g)))))] ++ famN 32 ad le tu vo sr lo fr)) [0, 1, 2, 3, 4, 5, 6, 7, 8, 9, 10, 11, 12, 13, 14, 15, 16, 17, 18, 19, 20, 21, 22, 23, 24, 25, 26, 27, 28, 29, 30, 31, 32, 33] (by decide +kernel) rfl
  have hK9 := hK.sub (tys' := []) [] rfl
  exact W.zret (v := 0) hx hb hr (by decide) (fun t ht hW => ⟨⟨0, (([(h, .inr (0, [.ref sa, .ref bb, .int us])), (sa, .inl (cS, 32, .inr (.inr (.inr (.inr g)))))] ++ famN 32 ad le tu vo sr lo fr), []), rfl, (Or.inr ⟨rfl, rfl, hh_14⟩), by rw [ht]; exact hP9, va_K.moved hW.alike hK9, hD9⟩, hS.F ht⟩) hS.2.2 dX0_canResize_17

