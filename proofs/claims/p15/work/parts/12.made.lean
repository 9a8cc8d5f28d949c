set_option maxHeartbeats 400000 in
set_option maxRecDepth 100000 in
/-- limit -/
theorem c_limit (l : Launch) (dC : Nat → ClassId) (dI : Nat → Nat → Nat) (sz : Nat) (v lo hi : Int32) : Met l yX10_limit (wsG (.code yX10_limit cX10_limit 3 (some .int))) ({ frames := 0, cells := 0, slots := 0, locals := 0 }) (va_Pc [.int v, .int lo, .int hi] (gP (dC, dI) [] [] sz)) (va_Qi (fun (r : Int32) (u : va_W × gT) => u = ([], []) ∧ r = limF v lo hi) (gB (dC, dI) (va_A [] sz)) (va_A [] sz)) 0 0 (va_A [] sz) := by
  refine Met.ofW (cc := cX10_limit) (maxL := 3) (ret := (some .int)) (by decide) rfl ?_
  intro p e s m args below meth c s₁ B hml hv
  obtain ⟨rfl, hsz, hP, hK, hD0, hN, hZ⟩ := hv
  have hx := B.exec
  have hb := B.bytes
  have hr := B.returns
  have hts := atoms_spec (ws := (wsG (.code yX10_limit cX10_limit 3 (some .int)))) B.pre
  have hown : s.vm.findClass RX10 = some m.cls := findClass_of_methodNamed B.named
  have hlocks := B.notSynchronized
  subst hsz
  have hD := hD0.self (sz := s.heap.size)
  generalize hAe : va_A [] s.heap.size = A at hD hZ ⊢
  have hA : ∀ q : Nat, s.heap.size ≤ q → A q := fun q h => by rw [← hAe]; exact Or.inr h
  have hl := lv_entry ([.int v, .int lo, .int hi]) (n := 3) (Nat.le_of_ble_eq_true rfl)
  rw [lg_entry_eq]
  generalize (lg_sl ([.int v, .int lo, .int hi]) ++ List.replicate (3 - (lg_sl ([.int v, .int lo, .int hi])).length) Slot.unset).toArray = ls at hl ⊢
  have hl : lv_has ls 3 [(0, .int v), (1, .int lo), (2, .int hi)] := hl
  refine g_start (A := A) hP (fun H locs hP hS => ?_)
  refine lv_iload_n hx hb dX10_limit_0 rfl (lv_at hl 0 rfl) ?_
  refine lv_iload_n hx hb dX10_limit_1 rfl (lv_at hl 1 rfl) ?_
  refine lv_icmp_ge (tgt := 7) hx hb dX10_limit_2 (by decide) (fun c_2 => ?_) (fun c_2 => ?_)
  · refine lv_iload_n hx hb dX10_limit_7 rfl (lv_at hl 0 rfl) ?_
    refine lv_iload_n hx hb dX10_limit_8 rfl (lv_at hl 2 rfl) ?_
    refine lv_icmp_le (tgt := 16) hx hb dX10_limit_9 (by decide) (fun c_9 => ?_) (fun c_9 => ?_)
    · refine lv_iload_n hx hb dX10_limit_16 rfl (lv_at hl 0 rfl) ?_
      have hP9 := hP.sub (ws' := []) [] rfl
      have hD9 := hD.sub (ws' := []) [] (by decide) rfl
      have hK9 := hK.sub (tys' := []) [] rfl
      exact W.iret (v := v) hx hb hr (fun t ht hW => ⟨⟨v, ([], []), rfl, ⟨rfl, limF3 c_2 c_9⟩, by rw [ht]; exact hP9, va_K.moved hW.alike hK9, hD9⟩, hS.F ht⟩) hS.2.2 dX10_limit_17
    refine lv_iload_n hx hb dX10_limit_12 rfl (lv_at hl 2 rfl) ?_
    refine lv_goto (tgt := 17) hx hb dX10_limit_13 (by decide) ?_
    have hP9 := hP.sub (ws' := []) [] rfl
    have hD9 := hD.sub (ws' := []) [] (by decide) rfl
    have hK9 := hK.sub (tys' := []) [] rfl
    exact W.iret (v := hi) hx hb hr (fun t ht hW => ⟨⟨hi, ([], []), rfl, ⟨rfl, limF2 c_2 c_9⟩, by rw [ht]; exact hP9, va_K.moved hW.alike hK9, hD9⟩, hS.F ht⟩) hS.2.2 dX10_limit_17
  refine lv_iload_n hx hb dX10_limit_5 rfl (lv_at hl 1 rfl) ?_
  have hP9 := hP.sub (ws' := []) [] rfl
  have hD9 := hD.sub (ws' := []) [] (by decide) rfl
  have hK9 := hK.sub (tys' := []) [] rfl
  exact W.iret (v := lo) hx hb hr (fun t ht hW => ⟨⟨lo, ([], []), rfl, ⟨rfl, limF1 c_2⟩, by rw [ht]; exact hP9, va_K.moved hW.alike hK9, hD9⟩, hS.F ht⟩) hS.2.2 dX10_limit_6

set_option maxHeartbeats 400000 in
set_option maxRecDepth 100000 in
/-- loops -/
theorem c_loops (l : Launch) (dC : Nat → ClassId) (dI : Nat → Nat → Nat) (sz : Nat) (v : Int32) : Met l yX5_loops (wsG (.code yX5_loops cX5_loops 1 (some .boolean))) ({ frames := 0, cells := 0, slots := 0, locals := 0 }) (va_Pc [.int v] (gP (dC, dI) [] [] sz)) (va_Qi (fun (r : Int32) (u : va_W × gT) => (u = ([], []) ∧ r = 1 ∧ ¬ v ≤ 2) ∨ (u = ([], []) ∧ r = 0 ∧ v ≤ 2)) (gB (dC, dI) (va_A [] sz)) (va_A [] sz)) 0 0 (va_A [] sz) := by
  refine Met.ofW (cc := cX5_loops) (maxL := 1) (ret := (some .boolean)) (by decide) rfl ?_
  intro p e s m args below meth c s₁ B hml hv
  obtain ⟨rfl, hsz, hP, hK, hD0, hN, hZ⟩ := hv
  have hx := B.exec
  have hb := B.bytes
  have hr := B.returns
  have hts := atoms_spec (ws := (wsG (.code yX5_loops cX5_loops 1 (some .boolean)))) B.pre
  have hown : s.vm.findClass RX5 = some m.cls := findClass_of_methodNamed B.named
  have hlocks := B.notSynchronized
  subst hsz
  have hD := hD0.self (sz := s.heap.size)
  generalize hAe : va_A [] s.heap.size = A at hD hZ ⊢
  have hA : ∀ q : Nat, s.heap.size ≤ q → A q := fun q h => by rw [← hAe]; exact Or.inr h
  have hl := lv_entry ([.int v]) (n := 1) (Nat.le_of_ble_eq_true rfl)
  rw [lg_entry_eq]
  generalize (lg_sl ([.int v]) ++ List.replicate (1 - (lg_sl ([.int v])).length) Slot.unset).toArray = ls at hl ⊢
  have hl : lv_has ls 1 [(0, .int v)] := hl
  refine g_start (A := A) hP (fun H locs hP hS => ?_)
  refine lv_iload_n hx hb dX5_loops_0 rfl (lv_at hl 0 rfl) ?_
  refine lv_iconst (v := 2) hx hb dX5_loops_1 (by decide) ?_
  refine lv_icmp_le (tgt := 9) hx hb dX5_loops_2 (by decide) (fun c_2 => ?_) (fun c_2 => ?_)
  · refine lv_iconst (v := 0) hx hb dX5_loops_9 (by decide) ?_
    have hP9 := hP.sub (ws' := []) [] rfl
    have hD9 := hD.sub (ws' := []) [] (by decide) rfl
    have hK9 := hK.sub (tys' := []) [] rfl
    exact W.zret (v := 0) hx hb hr (by decide) (fun t ht hW => ⟨⟨0, ([], []), rfl, (Or.inr ⟨rfl, rfl, c_2⟩), by rw [ht]; exact hP9, va_K.moved hW.alike hK9, hD9⟩, hS.F ht⟩) hS.2.2 dX5_loops_10
  refine lv_iconst (v := 1) hx hb dX5_loops_5 (by decide) ?_
  refine lv_goto (tgt := 10) hx hb dX5_loops_6 (by decide) ?_
  have hP9 := hP.sub (ws' := []) [] rfl
  have hD9 := hD.sub (ws' := []) [] (by decide) rfl
  have hK9 := hK.sub (tys' := []) [] rfl
  exact W.zret (v := 1) hx hb hr (by decide) (fun t ht hW => ⟨⟨1, ([], []), rfl, (Or.inl ⟨rfl, rfl, c_2⟩), by rw [ht]; exact hP9, va_K.moved hW.alike hK9, hD9⟩, hS.F ht⟩) hS.2.2 dX5_loops_10

set_option maxHeartbeats 400000 in
set_option maxRecDepth 100000 in
/-- Tape() -/
theorem c_Tape_init (l : Launch) (dC : Nat → ClassId) (dI : Nat → Nat → Nat) (sz : Nat) (h : Nat) : Met l yX7_init (wsG (.code yX7_init cX7_init 1 none)) ({ frames := 1, cells := 1, slots := 9000, locals := 12 }) (va_Pc [.ref h] (gP (dC, dI) [] [(h, .inr (7, [.null, .int 0]))] sz)) (va_Qv (fun u : va_W × gT => ∃ (tb : Nat) (cB : ClassId), u = ([(h, .inr (7, [.ref tb, .int 0])), (tb, .inl (cB, 9000, .inl (fun _ => 0)))], [(cB, .byte)])) (gB (dC, dI) (va_A [(h, .inr (7, [.null, .int 0]))] sz)) (va_A [(h, .inr (7, [.null, .int 0]))] sz)) 1 9000 (va_A [(h, .inr (7, [.null, .int 0]))] sz) := by
  refine Met.ofW (cc := cX7_init) (maxL := 1) (ret := none) (by decide) rfl ?_
  intro p e s m args below meth c s₁ B hml hv
  obtain ⟨rfl, hsz, hP, hK, hD0, hN, hZ⟩ := hv
  have hx := B.exec
  have hb := B.bytes
  have hr := B.returns
  have hts := atoms_spec (ws := (wsG (.code yX7_init cX7_init 1 none))) B.pre
  have hown : s.vm.findClass RX7 = some m.cls := findClass_of_methodNamed B.named
  have hlocks := B.notSynchronized
  have hin : meth.name = "<init>" := (name_of_methodNamed B.named B.method).1
  subst hsz
  have hD := hD0.self (sz := s.heap.size)
  generalize hAe : va_A [(h, .inr (7, [.null, .int 0]))] s.heap.size = A at hD hZ ⊢
  have hA : ∀ q : Nat, s.heap.size ≤ q → A q := fun q h => by rw [← hAe]; exact Or.inr h
  have hl := lv_entry ([.ref h]) (n := 1) (Nat.le_of_ble_eq_true rfl)
  rw [lg_entry_eq]
  generalize (lg_sl ([.ref h]) ++ List.replicate (1 - (lg_sl ([.ref h])).length) Slot.unset).toArray = ls at hl ⊢
  have hl : lv_has ls 1 [(0, .ref h)] := hl
  refine g_start (A := A) hP (fun H locs hP hS => ?_)
  refine lv_aload_n hx hb dX7_init_0 rfl (lv_at hl 0 rfl) ?_
  refine W.objInit hx hb hown (hts (.methodLink RX7 3 objectInit) (List.mem_cons_of_mem _ kw_46)) (hts (.instanceMethod objectInit) (List.mem_cons_of_mem _ kw_14)) (hts (.code objectInit ⟨#[0xb1]⟩ 1 none) (List.mem_cons_of_mem _ kw_15)) rfl (by rw [hml]; exact hl.1) rfl dX7_init_1 (Nat.le_of_ble_eq_true rfl) (Nat.le_of_ble_eq_true rfl) ?_
  refine W.eq (g2 := F0 m 4 ls []) rfl ?_
  refine lv_aload_n hx hb dX7_init_4 rfl (lv_at hl 0 rfl) ?_
  refine lv_sipush (v := 9000) hx hb dX7_init_5 (by decide) ?_
  refine va_newa (atype := .byte) (ty := .byte) (N' := 9000) (a0 := (9000, .inl (fun _ => 0))) hx hb (hts (.arrayClass .byte) (List.mem_cons_of_mem _ kw_47)) rfl hK hP hD hS hA (z_byte _) (by decide) (by decide) (Nat.le_of_ble_eq_true rfl) (Nat.le_of_ble_eq_true rfl) (Nat.le_of_ble_eq_true rfl) dX7_init_8 (fun q_8 cq_8 H hK hP hD hS => ?_)
  have hP : va_P (dC, dI) vwCl [(h, .inr (7, [.null, .int 0])), (q_8, .inl (cq_8, 9000, .inl (fun _ => 0)))] H := hP
  have hD : va_D A [(h, .inr (7, [.null, .int 0])), (q_8, .inl (cq_8, 9000, .inl (fun _ => 0)))] := hD
  have hK : va_K (dC, dI) vwCl [(cq_8, .byte)] s := hK
  refine W.widen (k := 1) (n := 9000) (Nat.le_of_ble_eq_true rfl) (Nat.le_of_ble_eq_true rfl) ?_
  refine va_putF (D := (dC, dI)) (ci := 7) (v := .ref q_8) (ty := tyX7 0) (C := RX7) (T := TX7) (N := 2) hx hb hts iwX7 tyX7 tyX7_ok nmX7 hown hK hP hD hS 0 rfl rfl 0 (by decide) (hts (.fieldLink RX7 9 "ModulePlayer$Tape" "bytes" "[B") (List.mem_cons_of_mem _ kw_48)) (fun _ h9 => h9) rfl hin rfl (by decide +kernel) (rfl) (rfl) (Nat.le_of_ble_eq_true rfl) dX7_init_10 (fun H locs hP hD hS => ?_)
  have hP : va_P (dC, dI) vwCl [(h, .inr (7, [.ref q_8, .int 0])), (q_8, .inl (cq_8, 9000, .inl (fun _ => 0)))] H := hP
  have hD : va_D A [(h, .inr (7, [.ref q_8, .int 0])), (q_8, .inl (cq_8, 9000, .inl (fun _ => 0)))] := hD
  have hP9 := hP.sub (ws' := [(h, .inr (7, [.ref q_8, .int 0])), (q_8, .inl (cq_8, 9000, .inl (fun _ => 0)))]) [0, 1] rfl
  have hD9 := hD.sub (ws' := [(h, .inr (7, [.ref q_8, .int 0])), (q_8, .inl (cq_8, 9000, .inl (fun _ => 0)))]) [0, 1] (by decide +kernel) rfl
  have hK9 := hK.sub (tys' := [(cq_8, .byte)]) [0] rfl
  exact W.vret hx hb hr (fun t ht hW => ⟨⟨([(h, .inr (7, [.ref q_8, .int 0])), (q_8, .inl (cq_8, 9000, .inl (fun _ => 0)))], [(cq_8, .byte)]), rfl, ⟨q_8, cq_8, rfl⟩, by rw [ht]; exact hP9, va_K.moved hW.alike hK9, hD9⟩, hS.F ht⟩) hS.2.2 dX7_init_13

set_option maxHeartbeats 400000 in
set_option maxRecDepth 100000 in
/-- Sample() -/
theorem c_Sample_init (l : Launch) (dC : Nat → ClassId) (dI : Nat → Nat → Nat) (sz : Nat) (h : Nat) : Met l yX5_init (wsG (.code yX5_init cX5_init 1 none)) ({ frames := 1, cells := 0, slots := 0, locals := 12 }) (va_Pc [.ref h] (gP (dC, dI) [] [(h, .inr (5, [.int 0, .int 0, .int 0, .int 0, .int 0, .int 0]))] sz)) (va_Qv (fun u : va_W × gT => u = ([(h, .inr (5, [.int 0, .int 0, .int 0, .int 0, .int 0, .int 0]))], [])) (gB (dC, dI) (va_A [(h, .inr (5, [.int 0, .int 0, .int 0, .int 0, .int 0, .int 0]))] sz)) (va_A [(h, .inr (5, [.int 0, .int 0, .int 0, .int 0, .int 0, .int 0]))] sz)) 0 0 (va_A [(h, .inr (5, [.int 0, .int 0, .int 0, .int 0, .int 0, .int 0]))] sz) := by
  refine Met.ofW (cc := cX5_init) (maxL := 1) (ret := none) (by decide) rfl ?_
  intro p e s m args below meth c s₁ B hml hv
  obtain ⟨rfl, hsz, hP, hK, hD0, hN, hZ⟩ := hv
  have hx := B.exec
  have hb := B.bytes
  have hr := B.returns
  have hts := atoms_spec (ws := (wsG (.code yX5_init cX5_init 1 none))) B.pre
  have hown : s.vm.findClass RX5 = some m.cls := findClass_of_methodNamed B.named
  have hlocks := B.notSynchronized
  have hin : meth.name = "<init>" := (name_of_methodNamed B.named B.method).1
  subst hsz
  have hD := hD0.self (sz := s.heap.size)
  generalize hAe : va_A [(h, .inr (5, [.int 0, .int 0, .int 0, .int 0, .int 0, .int 0]))] s.heap.size = A at hD hZ ⊢
  have hA : ∀ q : Nat, s.heap.size ≤ q → A q := fun q h => by rw [← hAe]; exact Or.inr h
  have hl := lv_entry ([.ref h]) (n := 1) (Nat.le_of_ble_eq_true rfl)
  rw [lg_entry_eq]
  generalize (lg_sl ([.ref h]) ++ List.replicate (1 - (lg_sl ([.ref h])).length) Slot.unset).toArray = ls at hl ⊢
  have hl : lv_has ls 1 [(0, .ref h)] := hl
  refine g_start (A := A) hP (fun H locs hP hS => ?_)
  refine lv_aload_n hx hb dX5_init_0 rfl (lv_at hl 0 rfl) ?_
  refine W.objInit hx hb hown (hts (.methodLink RX5 1 objectInit) (List.mem_cons_of_mem _ kw_60)) (hts (.instanceMethod objectInit) (List.mem_cons_of_mem _ kw_14)) (hts (.code objectInit ⟨#[0xb1]⟩ 1 none) (List.mem_cons_of_mem _ kw_15)) rfl (by rw [hml]; exact hl.1) rfl dX5_init_1 (Nat.le_of_ble_eq_true rfl) (Nat.le_of_ble_eq_true rfl) ?_
  refine W.eq (g2 := F0 m 4 ls []) rfl ?_
  have hP9 := hP.sub (ws' := [(h, .inr (5, [.int 0, .int 0, .int 0, .int 0, .int 0, .int 0]))]) [0] rfl
  have hD9 := hD.sub (ws' := [(h, .inr (5, [.int 0, .int 0, .int 0, .int 0, .int 0, .int 0]))]) [0] (by decide +kernel) rfl
  have hK9 := hK.sub (tys' := []) [] rfl
  exact W.vret hx hb hr (fun t ht hW => ⟨⟨([(h, .inr (5, [.int 0, .int 0, .int 0, .int 0, .int 0, .int 0]))], []), rfl, rfl, by rw [ht]; exact hP9, va_K.moved hW.alike hK9, hD9⟩, hS.F ht⟩) hS.2.2 dX5_init_4

set_option maxHeartbeats 400000 in
set_option maxRecDepth 100000 in
/-- Wobble() -/
theorem c_Wobble_init (l : Launch) (dC : Nat → ClassId) (dI : Nat → Nat → Nat) (sz : Nat) (h : Nat) : Met l yX8_init (wsG (.code yX8_init cX8_init 1 none)) ({ frames := 1, cells := 0, slots := 0, locals := 12 }) (va_Pc [.ref h] (gP (dC, dI) [] [(h, .inr (8, [.int 0, .int 0, .int 0, .int 0]))] sz)) (va_Qv (fun u : va_W × gT => u = ([(h, .inr (8, [.int 0, .int 0, .int 0, .int 0]))], [])) (gB (dC, dI) (va_A [(h, .inr (8, [.int 0, .int 0, .int 0, .int 0]))] sz)) (va_A [(h, .inr (8, [.int 0, .int 0, .int 0, .int 0]))] sz)) 0 0 (va_A [(h, .inr (8, [.int 0, .int 0, .int 0, .int 0]))] sz) := by
  refine Met.ofW (cc := cX8_init) (maxL := 1) (ret := none) (by decide) rfl ?_
  intro p e s m args below meth c s₁ B hml hv
  obtain ⟨rfl, hsz, hP, hK, hD0, hN, hZ⟩ := hv
  have hx := B.exec
  have hb := B.bytes
  have hr := B.returns
  have hts := atoms_spec (ws := (wsG (.code yX8_init cX8_init 1 none))) B.pre
  have hown : s.vm.findClass RX8 = some m.cls := findClass_of_methodNamed B.named
  have hlocks := B.notSynchronized
  have hin : meth.name = "<init>" := (name_of_methodNamed B.named B.method).1
  subst hsz
  have hD := hD0.self (sz := s.heap.size)
  generalize hAe : va_A [(h, .inr (8, [.int 0, .int 0, .int 0, .int 0]))] s.heap.size = A at hD hZ ⊢
  have hA : ∀ q : Nat, s.heap.size ≤ q → A q := fun q h => by rw [← hAe]; exact Or.inr h
  have hl := lv_entry ([.ref h]) (n := 1) (Nat.le_of_ble_eq_true rfl)
  rw [lg_entry_eq]
  generalize (lg_sl ([.ref h]) ++ List.replicate (1 - (lg_sl ([.ref h])).length) Slot.unset).toArray = ls at hl ⊢
  have hl : lv_has ls 1 [(0, .ref h)] := hl
  refine g_start (A := A) hP (fun H locs hP hS => ?_)
  refine lv_aload_n hx hb dX8_init_0 rfl (lv_at hl 0 rfl) ?_
  refine W.objInit hx hb hown (hts (.methodLink RX8 1 objectInit) (List.mem_cons_of_mem _ kw_92)) (hts (.instanceMethod objectInit) (List.mem_cons_of_mem _ kw_14)) (hts (.code objectInit ⟨#[0xb1]⟩ 1 none) (List.mem_cons_of_mem _ kw_15)) rfl (by rw [hml]; exact hl.1) rfl dX8_init_1 (Nat.le_of_ble_eq_true rfl) (Nat.le_of_ble_eq_true rfl) ?_
  refine W.eq (g2 := F0 m 4 ls []) rfl ?_
  have hP9 := hP.sub (ws' := [(h, .inr (8, [.int 0, .int 0, .int 0, .int 0]))]) [0] rfl
  have hD9 := hD.sub (ws' := [(h, .inr (8, [.int 0, .int 0, .int 0, .int 0]))]) [0] (by decide +kernel) rfl
  have hK9 := hK.sub (tys' := []) [] rfl
  exact W.vret hx hb hr (fun t ht hW => ⟨⟨([(h, .inr (8, [.int 0, .int 0, .int 0, .int 0]))], []), rfl, rfl, by rw [ht]; exact hP9, va_K.moved hW.alike hK9, hD9⟩, hS.F ht⟩) hS.2.2 dX8_init_4

set_option maxHeartbeats 400000 in
set_option maxRecDepth 100000 in
/-- Score() -/
theorem c_Score_init (l : Launch) (dC : Nat → ClassId) (dI : Nat → Nat → Nat) (sz : Nat) (h : Nat) : Met l yX6_init (wsG (.code yX6_init cX6_init 1 none)) ({ frames := 1, cells := 2, slots := 2176, locals := 12 }) (va_Pc [.ref h] (gP (dC, dI) [] [(h, .inr (6, [.null, .null, .int 0, .int 0]))] sz)) (va_Qv (fun u : va_W × gT => ∃ (ce : Nat) (pl : Nat) (cI : ClassId), u = ([(h, .inr (6, [.ref ce, .ref pl, .int 1, .int 0])), (ce, .inl (cI, 2048, .inl (fun _ => 0))), (pl, .inl (cI, 128, .inl (fun _ => 0)))], [(cI, .int)])) (gB (dC, dI) (va_A [(h, .inr (6, [.null, .null, .int 0, .int 0]))] sz)) (va_A [(h, .inr (6, [.null, .null, .int 0, .int 0]))] sz)) 2 2176 (va_A [(h, .inr (6, [.null, .null, .int 0, .int 0]))] sz) := by
  refine Met.ofW (cc := cX6_init) (maxL := 1) (ret := none) (by decide) rfl ?_
  intro p e s m args below meth c s₁ B hml hv
  obtain ⟨rfl, hsz, hP, hK, hD0, hN, hZ⟩ := hv
  have hx := B.exec
  have hb := B.bytes
  have hr := B.returns
  have hts := atoms_spec (ws := (wsG (.code yX6_init cX6_init 1 none))) B.pre
  have hown : s.vm.findClass RX6 = some m.cls := findClass_of_methodNamed B.named
  have hlocks := B.notSynchronized
  have hin : meth.name = "<init>" := (name_of_methodNamed B.named B.method).1
  subst hsz
  have hD := hD0.self (sz := s.heap.size)
  generalize hAe : va_A [(h, .inr (6, [.null, .null, .int 0, .int 0]))] s.heap.size = A at hD hZ ⊢
  have hA : ∀ q : Nat, s.heap.size ≤ q → A q := fun q h => by rw [← hAe]; exact Or.inr h
  have hl := lv_entry ([.ref h]) (n := 1) (Nat.le_of_ble_eq_true rfl)
  rw [lg_entry_eq]
  generalize (lg_sl ([.ref h]) ++ List.replicate (1 - (lg_sl ([.ref h])).length) Slot.unset).toArray = ls at hl ⊢
  have hl : lv_has ls 1 [(0, .ref h)] := hl
  refine g_start (A := A) hP (fun H locs hP hS => ?_)
  refine lv_aload_n hx hb dX6_init_0 rfl (lv_at hl 0 rfl) ?_
  refine W.objInit hx hb hown (hts (.methodLink RX6 3 objectInit) (List.mem_cons_of_mem _ kw_63)) (hts (.instanceMethod objectInit) (List.mem_cons_of_mem _ kw_14)) (hts (.code objectInit ⟨#[0xb1]⟩ 1 none) (List.mem_cons_of_mem _ kw_15)) rfl (by rw [hml]; exact hl.1) rfl dX6_init_1 (Nat.le_of_ble_eq_true rfl) (Nat.le_of_ble_eq_true rfl) ?_
  refine W.eq (g2 := F0 m 4 ls []) rfl ?_
  refine lv_aload_n hx hb dX6_init_4 rfl (lv_at hl 0 rfl) ?_
  refine lv_sipush (v := 2048) hx hb dX6_init_5 (by decide) ?_
  refine va_newa (atype := .int) (ty := .int) (N' := 2048) (a0 := (2048, .inl (fun _ => 0))) hx hb (hts (.arrayClass .int) (List.mem_cons_of_mem _ kw_64)) rfl hK hP hD hS hA (z_int _) (by decide) (by decide) (Nat.le_of_ble_eq_true rfl) (Nat.le_of_ble_eq_true rfl) (Nat.le_of_ble_eq_true rfl) dX6_init_8 (fun q_8 cq_8 H hK hP hD hS => ?_)
  have hP : va_P (dC, dI) vwCl [(h, .inr (6, [.null, .null, .int 0, .int 0])), (q_8, .inl (cq_8, 2048, .inl (fun _ => 0)))] H := hP
  have hD : va_D A [(h, .inr (6, [.null, .null, .int 0, .int 0])), (q_8, .inl (cq_8, 2048, .inl (fun _ => 0)))] := hD
  have hK : va_K (dC, dI) vwCl [(cq_8, .int)] s := hK
  refine W.widen (k := 1) (n := 2048) (Nat.le_of_ble_eq_true rfl) (Nat.le_of_ble_eq_true rfl) ?_
  refine va_putF (D := (dC, dI)) (ci := 6) (v := .ref q_8) (ty := tyX6 0) (C := RX6) (T := TX6) (N := 4) hx hb hts iwX6 tyX6 tyX6_ok nmX6 hown hK hP hD hS 0 rfl rfl 0 (by decide) (hts (.fieldLink RX6 9 "ModulePlayer$Score" "cells" "[I") (List.mem_cons_of_mem _ kw_65)) (fun _ h9 => h9) rfl hin rfl (by decide +kernel) (rfl) (rfl) (Nat.le_of_ble_eq_true rfl) dX6_init_10 (fun H locs hP hD hS => ?_)
  have hP : va_P (dC, dI) vwCl [(h, .inr (6, [.ref q_8, .null, .int 0, .int 0])), (q_8, .inl (cq_8, 2048, .inl (fun _ => 0)))] H := hP
  have hD : va_D A [(h, .inr (6, [.ref q_8, .null, .int 0, .int 0])), (q_8, .inl (cq_8, 2048, .inl (fun _ => 0)))] := hD
  refine lv_aload_n hx hb dX6_init_13 rfl (lv_at hl 0 rfl) ?_
  refine lv_sipush (v := 128) hx hb dX6_init_14 (by decide) ?_
  refine va_newa (atype := .int) (ty := .int) (N' := 128) (a0 := (128, .inl (fun _ => 0))) hx hb (hts (.arrayClass .int) (List.mem_cons_of_mem _ kw_64)) rfl hK hP hD hS hA (z_int _) (by decide) (by decide) (Nat.le_of_ble_eq_true rfl) (Nat.le_of_ble_eq_true rfl) (Nat.le_of_ble_eq_true rfl) dX6_init_17 (fun q_17 cq_17 H hK hP hD hS => ?_)
  have hP : va_P (dC, dI) vwCl [(h, .inr (6, [.ref q_8, .null, .int 0, .int 0])), (q_8, .inl (cq_8, 2048, .inl (fun _ => 0))), (q_17, .inl (cq_17, 128, .inl (fun _ => 0)))] H := hP
  have hD : va_D A [(h, .inr (6, [.ref q_8, .null, .int 0, .int 0])), (q_8, .inl (cq_8, 2048, .inl (fun _ => 0))), (q_17, .inl (cq_17, 128, .inl (fun _ => 0)))] := hD
  have hK : va_K (dC, dI) vwCl [(cq_8, .int), (cq_17, .int)] s := hK
  have hcq : cq_8 = cq_17 := g_same hK (i := 0) (j := 1) rfl rfl rfl
  subst hcq
  have hK : va_K (dC, dI) vwCl [(cq_8, .int)] s := hK.sub [0] rfl
  refine W.widen (k := 2) (n := 2176) (Nat.le_of_ble_eq_true rfl) (Nat.le_of_ble_eq_true rfl) ?_
  refine va_putF (D := (dC, dI)) (ci := 6) (v := .ref q_17) (ty := tyX6 1) (C := RX6) (T := TX6) (N := 4) hx hb hts iwX6 tyX6 tyX6_ok nmX6 hown hK hP hD hS 0 rfl rfl 1 (by decide) (hts (.fieldLink RX6 15 "ModulePlayer$Score" "places" "[I") (List.mem_cons_of_mem _ kw_66)) (fun _ h9 => h9) rfl hin rfl (by decide +kernel) (rfl) (rfl) (Nat.le_of_ble_eq_true rfl) dX6_init_19 (fun H locs hP hD hS => ?_)
  have hP : va_P (dC, dI) vwCl [(h, .inr (6, [.ref q_8, .ref q_17, .int 0, .int 0])), (q_8, .inl (cq_8, 2048, .inl (fun _ => 0))), (q_17, .inl (cq_8, 128, .inl (fun _ => 0)))] H := hP
  have hD : va_D A [(h, .inr (6, [.ref q_8, .ref q_17, .int 0, .int 0])), (q_8, .inl (cq_8, 2048, .inl (fun _ => 0))), (q_17, .inl (cq_8, 128, .inl (fun _ => 0)))] := hD
  refine lv_aload_n hx hb dX6_init_22 rfl (lv_at hl 0 rfl) ?_
  refine lv_iconst (v := 1) hx hb dX6_init_23 (by decide) ?_
  refine va_put (D := (dC, dI)) (ci := 6) (v := .int 1) (ty := tyX6 2) (C := RX6) (T := TX6) (N := 4) hx hb hts iwX6 tyX6 tyX6_ok nmX6 hown hK hP hD hS 0 rfl rfl 2 (by decide) (hts (.fieldLink RX6 18 "ModulePlayer$Score" "length" "I") (List.mem_cons_of_mem _ kw_67)) (fun _ h9 => h9) rfl (by decide +kernel) (rfl) (rfl) (Nat.le_of_ble_eq_true rfl) dX6_init_24 (fun H locs hP hD hS => ?_)
  have hP : va_P (dC, dI) vwCl [(h, .inr (6, [.ref q_8, .ref q_17, .int 1, .int 0])), (q_8, .inl (cq_8, 2048, .inl (fun _ => 0))), (q_17, .inl (cq_8, 128, .inl (fun _ => 0)))] H := hP
  have hD : va_D A [(h, .inr (6, [.ref q_8, .ref q_17, .int 1, .int 0])), (q_8, .inl (cq_8, 2048, .inl (fun _ => 0))), (q_17, .inl (cq_8, 128, .inl (fun _ => 0)))] := hD
  have hP9 := hP.sub (ws' := [(h, .inr (6, [.ref q_8, .ref q_17, .int 1, .int 0])), (q_8, .inl (cq_8, 2048, .inl (fun _ => 0))), (q_17, .inl (cq_8, 128, .inl (fun _ => 0)))]) [0, 1, 2] rfl
  have hD9 := hD.sub (ws' := [(h, .inr (6, [.ref q_8, .ref q_17, .int 1, .int 0])), (q_8, .inl (cq_8, 2048, .inl (fun _ => 0))), (q_17, .inl (cq_8, 128, .inl (fun _ => 0)))]) [0, 1, 2] (by decide +kernel) rfl
  have hK9 := hK.sub (tys' := [(cq_8, .int)]) [0] rfl
  exact W.vret hx hb hr (fun t ht hW => ⟨⟨([(h, .inr (6, [.ref q_8, .ref q_17, .int 1, .int 0])), (q_8, .inl (cq_8, 2048, .inl (fun _ => 0))), (q_17, .inl (cq_8, 128, .inl (fun _ => 0)))], [(cq_8, .int)]), rfl, ⟨q_8, q_17, cq_8, rfl⟩, by rw [ht]; exact hP9, va_K.moved hW.alike hK9, hD9⟩, hS.F ht⟩) hS.2.2 dX6_init_27

set_option maxHeartbeats 400000 in
set_option maxRecDepth 100000 in
/-- Reader() -/
theorem c_Reader_init (l : Launch) (dC : Nat → ClassId) (dI : Nat → Nat → Nat) (sz : Nat) (h : Nat) : Met l yX4_init (wsG (.code yX4_init cX4_init 1 none)) ({ frames := 1, cells := 0, slots := 0, locals := 12 }) (va_Pc [.ref h] (gP (dC, dI) [] [(h, .inr (4, [.int 0, .int 0]))] sz)) (va_Qv (fun u : va_W × gT => u = ([(h, .inr (4, [.int 0, .int (-1)]))], [])) (gB (dC, dI) (va_A [(h, .inr (4, [.int 0, .int 0]))] sz)) (va_A [(h, .inr (4, [.int 0, .int 0]))] sz)) 0 0 (va_A [(h, .inr (4, [.int 0, .int 0]))] sz) := by
  refine Met.ofW (cc := cX4_init) (maxL := 1) (ret := none) (by decide) rfl ?_
  intro p e s m args below meth c s₁ B hml hv
  obtain ⟨rfl, hsz, hP, hK, hD0, hN, hZ⟩ := hv
  have hx := B.exec
  have hb := B.bytes
  have hr := B.returns
  have hts := atoms_spec (ws := (wsG (.code yX4_init cX4_init 1 none))) B.pre
  have hown : s.vm.findClass RX4 = some m.cls := findClass_of_methodNamed B.named
  have hlocks := B.notSynchronized
  have hin : meth.name = "<init>" := (name_of_methodNamed B.named B.method).1
  subst hsz
  have hD := hD0.self (sz := s.heap.size)
  generalize hAe : va_A [(h, .inr (4, [.int 0, .int 0]))] s.heap.size = A at hD hZ ⊢
  have hA : ∀ q : Nat, s.heap.size ≤ q → A q := fun q h => by rw [← hAe]; exact Or.inr h
  have hl := lv_entry ([.ref h]) (n := 1) (Nat.le_of_ble_eq_true rfl)
  rw [lg_entry_eq]
  generalize (lg_sl ([.ref h]) ++ List.replicate (1 - (lg_sl ([.ref h])).length) Slot.unset).toArray = ls at hl ⊢
  have hl : lv_has ls 1 [(0, .ref h)] := hl
  refine g_start (A := A) hP (fun H locs hP hS => ?_)
  refine lv_aload_n hx hb dX4_init_0 rfl (lv_at hl 0 rfl) ?_
  refine W.objInit hx hb hown (hts (.methodLink RX4 5 objectInit) (List.mem_cons_of_mem _ kw_70)) (hts (.instanceMethod objectInit) (List.mem_cons_of_mem _ kw_14)) (hts (.code objectInit ⟨#[0xb1]⟩ 1 none) (List.mem_cons_of_mem _ kw_15)) rfl (by rw [hml]; exact hl.1) rfl dX4_init_1 (Nat.le_of_ble_eq_true rfl) (Nat.le_of_ble_eq_true rfl) ?_
  refine W.eq (g2 := F0 m 4 ls []) rfl ?_
  refine lv_aload_n hx hb dX4_init_4 rfl (lv_at hl 0 rfl) ?_
  refine lv_iconst (v := 0) hx hb dX4_init_5 (by decide) ?_
  refine va_put (D := (dC, dI)) (ci := 4) (v := .int 0) (ty := tyX4 0) (C := RX4) (T := TX4) (N := 2) hx hb hts iwX4 tyX4 tyX4_ok nmX4 hown hK hP hD hS 0 rfl rfl 0 (by decide) (hts (.fieldLink RX4 11 "ModulePlayer$Reader" "fault" "I") (List.mem_cons_of_mem _ kw_71)) (fun _ h9 => h9) rfl (by decide +kernel) (rfl) (rfl) (Nat.le_of_ble_eq_true rfl) dX4_init_6 (fun H locs hP hD hS => ?_)
  have hP : va_P (dC, dI) vwCl [(h, .inr (4, [.int 0, .int 0]))] H := hP
  have hD : va_D A [(h, .inr (4, [.int 0, .int 0]))] := hD
  refine lv_aload_n hx hb dX4_init_9 rfl (lv_at hl 0 rfl) ?_
  refine lv_iconst (v := (-1)) hx hb dX4_init_10 (by decide) ?_
  refine va_put (D := (dC, dI)) (ci := 4) (v := .int (-1)) (ty := tyX4 1) (C := RX4) (T := TX4) (N := 2) hx hb hts iwX4 tyX4 tyX4_ok nmX4 hown hK hP hD hS 0 rfl rfl 1 (by decide) (hts (.fieldLink RX4 15 "ModulePlayer$Reader" "faultPlace" "I") (List.mem_cons_of_mem _ kw_72)) (fun _ h9 => h9) rfl (by decide +kernel) (rfl) (rfl) (Nat.le_of_ble_eq_true rfl) dX4_init_11 (fun H locs hP hD hS => ?_)
  have hP : va_P (dC, dI) vwCl [(h, .inr (4, [.int 0, .int (-1)]))] H := hP
  have hD : va_D A [(h, .inr (4, [.int 0, .int (-1)]))] := hD
  have hP9 := hP.sub (ws' := [(h, .inr (4, [.int 0, .int (-1)]))]) [0] rfl
  have hD9 := hD.sub (ws' := [(h, .inr (4, [.int 0, .int (-1)]))]) [0] (by decide +kernel) rfl
  have hK9 := hK.sub (tys' := []) [] rfl
  exact W.vret hx hb hr (fun t ht hW => ⟨⟨([(h, .inr (4, [.int 0, .int (-1)]))], []), rfl, rfl, by rw [ht]; exact hP9, va_K.moved hW.alike hK9, hD9⟩, hS.F ht⟩) hS.2.2 dX4_init_14

set_option maxHeartbeats 400000 in
set_option maxRecDepth 100000 in
/-- Flow() -/
theorem c_Flow_init (l : Launch) (dC : Nat → ClassId) (dI : Nat → Nat → Nat) (sz : Nat) (h sc : Nat) : Met l yX2_init (wsG (.code yX2_init cX2_init 2 none)) ({ frames := 1, cells := 1, slots := 128, locals := 12 }) (va_Pc [.ref h, .ref sc] (gP (dC, dI) [] [(h, .inr (2, [.null, .null, .int 0, .int 0, .int 0, .int 0, .int 0, .int 0, .int 0, .int 0, .int 0, .int 0, .int 0]))] sz)) (va_Qv (fun u : va_W × gT => ∃ (be : Nat) (cJ : ClassId), u = ([(h, .inr (2, [.ref sc, .ref be, .int 0, .int 0, .int 0, .int 0, .int 0, .int 0, .int 0, .int 0, .int 0, .int 0, .int 0])), (be, .inl (cJ, 128, .inr (.inl (fun _ => 0))))], [(cJ, .long)])) (gB (dC, dI) (va_A [(h, .inr (2, [.null, .null, .int 0, .int 0, .int 0, .int 0, .int 0, .int 0, .int 0, .int 0, .int 0, .int 0, .int 0]))] sz)) (va_A [(h, .inr (2, [.null, .null, .int 0, .int 0, .int 0, .int 0, .int 0, .int 0, .int 0, .int 0, .int 0, .int 0, .int 0]))] sz)) 1 128 (va_A [(h, .inr (2, [.null, .null, .int 0, .int 0, .int 0, .int 0, .int 0, .int 0, .int 0, .int 0, .int 0, .int 0, .int 0]))] sz) := by
  refine Met.ofW (cc := cX2_init) (maxL := 2) (ret := none) (by decide) rfl ?_
  intro p e s m args below meth c s₁ B hml hv
  obtain ⟨rfl, hsz, hP, hK, hD0, hN, hZ⟩ := hv
  have hx := B.exec
  have hb := B.bytes
  have hr := B.returns
  have hts := atoms_spec (ws := (wsG (.code yX2_init cX2_init 2 none))) B.pre
  have hown : s.vm.findClass RX2 = some m.cls := findClass_of_methodNamed B.named
  have hlocks := B.notSynchronized
  have hin : meth.name = "<init>" := (name_of_methodNamed B.named B.method).1
  subst hsz
  have hD := hD0.self (sz := s.heap.size)
  generalize hAe : va_A [(h, .inr (2, [.null, .null, .int 0, .int 0, .int 0, .int 0, .int 0, .int 0, .int 0, .int 0, .int 0, .int 0, .int 0]))] s.heap.size = A at hD hZ ⊢
  have hA : ∀ q : Nat, s.heap.size ≤ q → A q := fun q h => by rw [← hAe]; exact Or.inr h
  have hl := lv_entry ([.ref h, .ref sc]) (n := 2) (Nat.le_of_ble_eq_true rfl)
  rw [lg_entry_eq]
  generalize (lg_sl ([.ref h, .ref sc]) ++ List.replicate (2 - (lg_sl ([.ref h, .ref sc])).length) Slot.unset).toArray = ls at hl ⊢
  have hl : lv_has ls 2 [(0, .ref h), (1, .ref sc)] := hl
  refine g_start (A := A) hP (fun H locs hP hS => ?_)
  refine lv_aload_n hx hb dX2_init_0 rfl (lv_at hl 0 rfl) ?_
  refine W.objInit hx hb hown (hts (.methodLink RX2 3 objectInit) (List.mem_cons_of_mem _ kw_76)) (hts (.instanceMethod objectInit) (List.mem_cons_of_mem _ kw_14)) (hts (.code objectInit ⟨#[0xb1]⟩ 1 none) (List.mem_cons_of_mem _ kw_15)) rfl (by rw [hml]; exact hl.1) rfl dX2_init_1 (Nat.le_of_ble_eq_true rfl) (Nat.le_of_ble_eq_true rfl) ?_
  refine W.eq (g2 := F0 m 4 ls []) rfl ?_
  refine lv_aload_n hx hb dX2_init_4 rfl (lv_at hl 0 rfl) ?_
  refine lv_sipush (v := 128) hx hb dX2_init_5 (by decide) ?_
  refine va_newa (atype := .long) (ty := .long) (N' := 128) (a0 := (128, .inr (.inl (fun _ => 0)))) hx hb (hts (.arrayClass .long) (List.mem_cons_of_mem _ kw_77)) rfl hK hP hD hS hA (z_long _) (by decide) (by decide) (Nat.le_of_ble_eq_true rfl) (Nat.le_of_ble_eq_true rfl) (Nat.le_of_ble_eq_true rfl) dX2_init_8 (fun q_8 cq_8 H hK hP hD hS => ?_)
  have hP : va_P (dC, dI) vwCl [(h, .inr (2, [.null, .null, .int 0, .int 0, .int 0, .int 0, .int 0, .int 0, .int 0, .int 0, .int 0, .int 0, .int 0])), (q_8, .inl (cq_8, 128, .inr (.inl (fun _ => 0))))] H := hP
  have hD : va_D A [(h, .inr (2, [.null, .null, .int 0, .int 0, .int 0, .int 0, .int 0, .int 0, .int 0, .int 0, .int 0, .int 0, .int 0])), (q_8, .inl (cq_8, 128, .inr (.inl (fun _ => 0))))] := hD
  have hK : va_K (dC, dI) vwCl [(cq_8, .long)] s := hK
  refine W.widen (k := 1) (n := 128) (Nat.le_of_ble_eq_true rfl) (Nat.le_of_ble_eq_true rfl) ?_
  refine va_putF (D := (dC, dI)) (ci := 2) (v := .ref q_8) (ty := tyX2 1) (C := RX2) (T := TX2) (N := 13) hx hb hts iwX2 tyX2 tyX2_ok nmX2 hown hK hP hD hS 0 rfl rfl 1 (by decide) (hts (.fieldLink RX2 9 "ModulePlayer$Flow" "begun" "[J") (List.mem_cons_of_mem _ kw_78)) (fun _ h9 => h9) rfl hin rfl (by decide +kernel) (rfl) (rfl) (Nat.le_of_ble_eq_true rfl) dX2_init_10 (fun H locs hP hD hS => ?_)
  have hP : va_P (dC, dI) vwCl [(h, .inr (2, [.null, .ref q_8, .int 0, .int 0, .int 0, .int 0, .int 0, .int 0, .int 0, .int 0, .int 0, .int 0, .int 0])), (q_8, .inl (cq_8, 128, .inr (.inl (fun _ => 0))))] H := hP
  have hD : va_D A [(h, .inr (2, [.null, .ref q_8, .int 0, .int 0, .int 0, .int 0, .int 0, .int 0, .int 0, .int 0, .int 0, .int 0, .int 0])), (q_8, .inl (cq_8, 128, .inr (.inl (fun _ => 0))))] := hD
  refine lv_aload_n hx hb dX2_init_13 rfl (lv_at hl 0 rfl) ?_
  refine lv_aload_n hx hb dX2_init_14 rfl (lv_at hl 1 rfl) ?_
  refine va_putF (D := (dC, dI)) (ci := 2) (v := .ref sc) (ty := tyX2 0) (C := RX2) (T := TX2) (N := 13) hx hb hts iwX2 tyX2 tyX2_ok nmX2 hown hK hP hD hS 0 rfl rfl 0 (by decide) (hts (.fieldLink RX2 15 "ModulePlayer$Flow" "score" "LModulePlayer$Score;") (List.mem_cons_of_mem _ kw_79)) (fun _ h9 => h9) rfl hin rfl (by decide +kernel) (rfl) (rfl) (Nat.le_of_ble_eq_true rfl) dX2_init_15 (fun H locs hP hD hS => ?_)
  have hP : va_P (dC, dI) vwCl [(h, .inr (2, [.ref sc, .ref q_8, .int 0, .int 0, .int 0, .int 0, .int 0, .int 0, .int 0, .int 0, .int 0, .int 0, .int 0])), (q_8, .inl (cq_8, 128, .inr (.inl (fun _ => 0))))] H := hP
  have hD : va_D A [(h, .inr (2, [.ref sc, .ref q_8, .int 0, .int 0, .int 0, .int 0, .int 0, .int 0, .int 0, .int 0, .int 0, .int 0, .int 0])), (q_8, .inl (cq_8, 128, .inr (.inl (fun _ => 0))))] := hD
  have hP9 := hP.sub (ws' := [(h, .inr (2, [.ref sc, .ref q_8, .int 0, .int 0, .int 0, .int 0, .int 0, .int 0, .int 0, .int 0, .int 0, .int 0, .int 0])), (q_8, .inl (cq_8, 128, .inr (.inl (fun _ => 0))))]) [0, 1] rfl
  have hD9 := hD.sub (ws' := [(h, .inr (2, [.ref sc, .ref q_8, .int 0, .int 0, .int 0, .int 0, .int 0, .int 0, .int 0, .int 0, .int 0, .int 0, .int 0])), (q_8, .inl (cq_8, 128, .inr (.inl (fun _ => 0))))]) [0, 1] (by decide +kernel) rfl
  have hK9 := hK.sub (tys' := [(cq_8, .long)]) [0] rfl
  exact W.vret hx hb hr (fun t ht hW => ⟨⟨([(h, .inr (2, [.ref sc, .ref q_8, .int 0, .int 0, .int 0, .int 0, .int 0, .int 0, .int 0, .int 0, .int 0, .int 0, .int 0])), (q_8, .inl (cq_8, 128, .inr (.inl (fun _ => 0))))], [(cq_8, .long)]), rfl, ⟨q_8, cq_8, rfl⟩, by rw [ht]; exact hP9, va_K.moved hW.alike hK9, hD9⟩, hS.F ht⟩) hS.2.2 dX2_init_18

set_option maxHeartbeats 400000 in
set_option maxRecDepth 100000 in
/-- Channel() -/
theorem c_Channel_init (l : Launch) (dC : Nat → ClassId) (dI : Nat → Nat → Nat) (sz : Nat) (h bk : Nat) : Met l yX1_init (wsG (.code yX1_init cX1_init 2 none)) ({ frames := 2, cells := 2, slots := 8, locals := 32 }) (va_Pc [.ref h, .ref bk] (gP (dC, dI) [] [(h, .inr (1, [.null, .null, .null, .int 0, .int 0, .int 0, .int 0, .int 0, .int 0, .int 0, .int 0, .int 0, .int 0, .int 0, .int 0, .int 0, .long 0, .int 0, .int 0]))] sz)) (va_Qv (fun u : va_W × gT => ∃ (vi : Nat) (tr : Nat), u = ([(h, .inr (1, [.ref bk, .ref vi, .ref tr, .int 0, .int 0, .int 0, .int 0, .int 0, .int 0, .int 0, .int 0, .int 0, .int 0, .int 0, .int 0, .int 0, .long 0, .int 0, .int 0])), (vi, .inr (8, [.int 0, .int 0, .int 0, .int 0])), (tr, .inr (8, [.int 0, .int 0, .int 0, .int 0]))], [])) (gB (dC, dI) (va_A [(h, .inr (1, [.null, .null, .null, .int 0, .int 0, .int 0, .int 0, .int 0, .int 0, .int 0, .int 0, .int 0, .int 0, .int 0, .int 0, .int 0, .long 0, .int 0, .int 0]))] sz)) (va_A [(h, .inr (1, [.null, .null, .null, .int 0, .int 0, .int 0, .int 0, .int 0, .int 0, .int 0, .int 0, .int 0, .int 0, .int 0, .int 0, .int 0, .long 0, .int 0, .int 0]))] sz)) 2 8 (va_A [(h, .inr (1, [.null, .null, .null, .int 0, .int 0, .int 0, .int 0, .int 0, .int 0, .int 0, .int 0, .int 0, .int 0, .int 0, .int 0, .int 0, .long 0, .int 0, .int 0]))] sz) := by
  refine Met.ofW (cc := cX1_init) (maxL := 2) (ret := none) (by decide) rfl ?_
  intro p e s m args below meth c s₁ B hml hv
  obtain ⟨rfl, hsz, hP, hK, hD0, hN, hZ⟩ := hv
  have hx := B.exec
  have hb := B.bytes
  have hr := B.returns
  have hts := atoms_spec (ws := (wsG (.code yX1_init cX1_init 2 none))) B.pre
  have hown : s.vm.findClass RX1 = some m.cls := findClass_of_methodNamed B.named
  have hlocks := B.notSynchronized
  have hin : meth.name = "<init>" := (name_of_methodNamed B.named B.method).1
  subst hsz
  have hD := hD0.self (sz := s.heap.size)
  generalize hAe : va_A [(h, .inr (1, [.null, .null, .null, .int 0, .int 0, .int 0, .int 0, .int 0, .int 0, .int 0, .int 0, .int 0, .int 0, .int 0, .int 0, .int 0, .long 0, .int 0, .int 0]))] s.heap.size = A at hD hZ ⊢
  have hA : ∀ q : Nat, s.heap.size ≤ q → A q := fun q h => by rw [← hAe]; exact Or.inr h
  have hl := lv_entry ([.ref h, .ref bk]) (n := 2) (Nat.le_of_ble_eq_true rfl)
  rw [lg_entry_eq]
  generalize (lg_sl ([.ref h, .ref bk]) ++ List.replicate (2 - (lg_sl ([.ref h, .ref bk])).length) Slot.unset).toArray = ls at hl ⊢
  have hl : lv_has ls 2 [(0, .ref h), (1, .ref bk)] := hl
  refine g_start (A := A) hP (fun H locs hP hS => ?_)
  refine lv_aload_n hx hb dX1_init_0 rfl (lv_at hl 0 rfl) ?_
  refine W.objInit hx hb hown (hts (.methodLink RX1 3 objectInit) (List.mem_cons_of_mem _ kw_83)) (hts (.instanceMethod objectInit) (List.mem_cons_of_mem _ kw_14)) (hts (.code objectInit ⟨#[0xb1]⟩ 1 none) (List.mem_cons_of_mem _ kw_15)) rfl (by rw [hml]; exact hl.1) rfl dX1_init_1 (Nat.le_of_ble_eq_true rfl) (Nat.le_of_ble_eq_true rfl) ?_
  refine W.eq (g2 := F0 m 4 ls []) rfl ?_
  refine lv_aload_n hx hb dX1_init_4 rfl (lv_at hl 0 rfl) ?_
  refine va_new (ci := 8) (fs := [.int 0, .int 0, .int 0, .int 0]) (C := RX8) (T := TX8) (N := 4) hx hb hts iwX8 tyX8 tyX8_ok hown (hts (.classLink RX1 9 RX8) (List.mem_cons_of_mem _ kw_84)) (hts (.instantiable RX8 4) (List.mem_cons_of_mem _ kw_85)) (hts (.initialized RX8) (List.mem_cons_of_mem _ kw_86)) hK hP hD hS hA rfl (fun j hj => by rcases (show j = 0 ∨ j = 1 ∨ j = 2 ∨ j = 3 by omega) with rfl | rfl | rfl | rfl <;> rfl) (Nat.le_of_ble_eq_true rfl) (Nat.le_of_ble_eq_true rfl) dX1_init_5 (fun q_5 H hP hD hS => ?_)
  have hP : va_P (dC, dI) vwCl [(h, .inr (1, [.null, .null, .null, .int 0, .int 0, .int 0, .int 0, .int 0, .int 0, .int 0, .int 0, .int 0, .int 0, .int 0, .int 0, .int 0, .long 0, .int 0, .int 0])), (q_5, .inr (8, [.int 0, .int 0, .int 0, .int 0]))] H := hP
  have hD : va_D A [(h, .inr (1, [.null, .null, .null, .int 0, .int 0, .int 0, .int 0, .int 0, .int 0, .int 0, .int 0, .int 0, .int 0, .int 0, .int 0, .int 0, .long 0, .int 0, .int 0])), (q_5, .inr (8, [.int 0, .int 0, .int 0, .int 0]))] := hD
  refine W.widen (k := 1) (n := 4) (Nat.le_of_ble_eq_true rfl) (Nat.le_of_ble_eq_true rfl) ?_
  refine lv_dup hx hb dX1_init_8 rfl ?_
  refine g_callv (wr := [(h, .inr (1, [.null, .null, .null, .int 0, .int 0, .int 0, .int 0, .int 0, .int 0, .int 0, .int 0, .int 0, .int 0, .int 0, .int 0, .int 0, .long 0, .int 0, .int 0]))]) (va_runIN (As := []) (rest := [.ref q_5, .ref h]) ⟨hx, hb, hml, hown, hts⟩ (c_Wobble_init l dC dI H.size q_5 ) ⟨va_cnB 0 hts (wsG_good kw_91) rfl rfl rfl (hN.1 (.methodLinkNest RX1 11 yX8_init RX10) (by decide +kernel)) (hts (.initialized RX8) (List.mem_cons_of_mem _ kw_86)) (by decide +kernel) ⟨Nat.le_of_ble_eq_true rfl, Nat.le_of_ble_eq_true rfl⟩, rfl, (hts (.instanceMethod yX8_init) (List.mem_cons_of_mem _ kw_90))⟩ (g_preS (As := [.ref q_5]) hP hD hK hS hA hN hZ [1] (by decide +kernel) rfl [] rfl) rfl rfl hl.1 rfl (lv_room (Nat.le_of_ble_eq_true rfl)) dX1_init_9 ⟨Nat.le_of_ble_eq_true rfl, Nat.le_of_ble_eq_true rfl⟩) hP hD hK hS hA [1] [0] rfl rfl (by decide +kernel) (by decide +kernel) (fun w ty1 H locs hw_9 hP hD _ hS => ?_)
  have hu := hw_9
  cases hu
  have hP : va_P (dC, dI) vwCl [(h, .inr (1, [.null, .null, .null, .int 0, .int 0, .int 0, .int 0, .int 0, .int 0, .int 0, .int 0, .int 0, .int 0, .int 0, .int 0, .int 0, .long 0, .int 0, .int 0])), (q_5, .inr (8, [.int 0, .int 0, .int 0, .int 0]))] H := hP
  have hD : va_D A [(h, .inr (1, [.null, .null, .null, .int 0, .int 0, .int 0, .int 0, .int 0, .int 0, .int 0, .int 0, .int 0, .int 0, .int 0, .int 0, .int 0, .long 0, .int 0, .int 0])), (q_5, .inr (8, [.int 0, .int 0, .int 0, .int 0]))] := hD
  refine va_putF (D := (dC, dI)) (ci := 1) (v := .ref q_5) (ty := tyX1 1) (C := RX1) (T := TX1) (N := 19) hx hb hts iwX1 tyX1 tyX1_ok nmX1 hown hK hP hD hS 0 rfl rfl 1 (by decide) (hts (.fieldLink RX1 12 "ModulePlayer$Channel" "vibrato" "LModulePlayer$Wobble;") (List.mem_cons_of_mem _ kw_87)) (fun _ h9 => h9) rfl hin rfl (by decide +kernel) (rfl) (rfl) (Nat.le_of_ble_eq_true rfl) dX1_init_12 (fun H locs hP hD hS => ?_)
  have hP : va_P (dC, dI) vwCl [(h, .inr (1, [.null, .ref q_5, .null, .int 0, .int 0, .int 0, .int 0, .int 0, .int 0, .int 0, .int 0, .int 0, .int 0, .int 0, .int 0, .int 0, .long 0, .int 0, .int 0])), (q_5, .inr (8, [.int 0, .int 0, .int 0, .int 0]))] H := hP
  have hD : va_D A [(h, .inr (1, [.null, .ref q_5, .null, .int 0, .int 0, .int 0, .int 0, .int 0, .int 0, .int 0, .int 0, .int 0, .int 0, .int 0, .int 0, .int 0, .long 0, .int 0, .int 0])), (q_5, .inr (8, [.int 0, .int 0, .int 0, .int 0]))] := hD
  refine lv_aload_n hx hb dX1_init_15 rfl (lv_at hl 0 rfl) ?_
  refine va_new (ci := 8) (fs := [.int 0, .int 0, .int 0, .int 0]) (C := RX8) (T := TX8) (N := 4) hx hb hts iwX8 tyX8 tyX8_ok hown (hts (.classLink RX1 9 RX8) (List.mem_cons_of_mem _ kw_84)) (hts (.instantiable RX8 4) (List.mem_cons_of_mem _ kw_85)) (hts (.initialized RX8) (List.mem_cons_of_mem _ kw_86)) hK hP hD hS hA rfl (fun j hj => by rcases (show j = 0 ∨ j = 1 ∨ j = 2 ∨ j = 3 by omega) with rfl | rfl | rfl | rfl <;> rfl) (Nat.le_of_ble_eq_true rfl) (Nat.le_of_ble_eq_true rfl) dX1_init_16 (fun q_16 H hP hD hS => ?_)
  have hP : va_P (dC, dI) vwCl [(h, .inr (1, [.null, .ref q_5, .null, .int 0, .int 0, .int 0, .int 0, .int 0, .int 0, .int 0, .int 0, .int 0, .int 0, .int 0, .int 0, .int 0, .long 0, .int 0, .int 0])), (q_5, .inr (8, [.int 0, .int 0, .int 0, .int 0])), (q_16, .inr (8, [.int 0, .int 0, .int 0, .int 0]))] H := hP
  have hD : va_D A [(h, .inr (1, [.null, .ref q_5, .null, .int 0, .int 0, .int 0, .int 0, .int 0, .int 0, .int 0, .int 0, .int 0, .int 0, .int 0, .int 0, .int 0, .long 0, .int 0, .int 0])), (q_5, .inr (8, [.int 0, .int 0, .int 0, .int 0])), (q_16, .inr (8, [.int 0, .int 0, .int 0, .int 0]))] := hD
  refine W.widen (k := 2) (n := 8) (Nat.le_of_ble_eq_true rfl) (Nat.le_of_ble_eq_true rfl) ?_
  refine lv_dup hx hb dX1_init_19 rfl ?_
  refine g_callv (wr := [(h, .inr (1, [.null, .ref q_5, .null, .int 0, .int 0, .int 0, .int 0, .int 0, .int 0, .int 0, .int 0, .int 0, .int 0, .int 0, .int 0, .int 0, .long 0, .int 0, .int 0])), (q_5, .inr (8, [.int 0, .int 0, .int 0, .int 0]))]) (va_runIN (As := []) (rest := [.ref q_16, .ref h]) ⟨hx, hb, hml, hown, hts⟩ (c_Wobble_init l dC dI H.size q_16 ) ⟨va_cnB 0 hts (wsG_good kw_91) rfl rfl rfl (hN.1 (.methodLinkNest RX1 11 yX8_init RX10) (by decide +kernel)) (hts (.initialized RX8) (List.mem_cons_of_mem _ kw_86)) (by decide +kernel) ⟨Nat.le_of_ble_eq_true rfl, Nat.le_of_ble_eq_true rfl⟩, rfl, (hts (.instanceMethod yX8_init) (List.mem_cons_of_mem _ kw_90))⟩ (g_preS (As := [.ref q_16]) hP hD hK hS hA hN hZ [2] (by decide +kernel) rfl [] rfl) rfl rfl hl.1 rfl (lv_room (Nat.le_of_ble_eq_true rfl)) dX1_init_20 ⟨Nat.le_of_ble_eq_true rfl, Nat.le_of_ble_eq_true rfl⟩) hP hD hK hS hA [2] [0, 1] rfl rfl (by decide +kernel) (by decide +kernel) (fun w ty1 H locs hw_20 hP hD _ hS => ?_)
  have hu := hw_20
  cases hu
  have hP : va_P (dC, dI) vwCl [(h, .inr (1, [.null, .ref q_5, .null, .int 0, .int 0, .int 0, .int 0, .int 0, .int 0, .int 0, .int 0, .int 0, .int 0, .int 0, .int 0, .int 0, .long 0, .int 0, .int 0])), (q_5, .inr (8, [.int 0, .int 0, .int 0, .int 0])), (q_16, .inr (8, [.int 0, .int 0, .int 0, .int 0]))] H := hP
  have hD : va_D A [(h, .inr (1, [.null, .ref q_5, .null, .int 0, .int 0, .int 0, .int 0, .int 0, .int 0, .int 0, .int 0, .int 0, .int 0, .int 0, .int 0, .int 0, .long 0, .int 0, .int 0])), (q_5, .inr (8, [.int 0, .int 0, .int 0, .int 0])), (q_16, .inr (8, [.int 0, .int 0, .int 0, .int 0]))] := hD
  refine va_putF (D := (dC, dI)) (ci := 1) (v := .ref q_16) (ty := tyX1 2) (C := RX1) (T := TX1) (N := 19) hx hb hts iwX1 tyX1 tyX1_ok nmX1 hown hK hP hD hS 0 rfl rfl 2 (by decide) (hts (.fieldLink RX1 18 "ModulePlayer$Channel" "tremolo" "LModulePlayer$Wobble;") (List.mem_cons_of_mem _ kw_88)) (fun _ h9 => h9) rfl hin rfl (by decide +kernel) (rfl) (rfl) (Nat.le_of_ble_eq_true rfl) dX1_init_23 (fun H locs hP hD hS => ?_)
  have hP : va_P (dC, dI) vwCl [(h, .inr (1, [.null, .ref q_5, .ref q_16, .int 0, .int 0, .int 0, .int 0, .int 0, .int 0, .int 0, .int 0, .int 0, .int 0, .int 0, .int 0, .int 0, .long 0, .int 0, .int 0])), (q_5, .inr (8, [.int 0, .int 0, .int 0, .int 0])), (q_16, .inr (8, [.int 0, .int 0, .int 0, .int 0]))] H := hP
  have hD : va_D A [(h, .inr (1, [.null, .ref q_5, .ref q_16, .int 0, .int 0, .int 0, .int 0, .int 0, .int 0, .int 0, .int 0, .int 0, .int 0, .int 0, .int 0, .int 0, .long 0, .int 0, .int 0])), (q_5, .inr (8, [.int 0, .int 0, .int 0, .int 0])), (q_16, .inr (8, [.int 0, .int 0, .int 0, .int 0]))] := hD
  refine lv_aload_n hx hb dX1_init_26 rfl (lv_at hl 0 rfl) ?_
  refine lv_aload_n hx hb dX1_init_27 rfl (lv_at hl 1 rfl) ?_
  refine va_putF (D := (dC, dI)) (ci := 1) (v := .ref bk) (ty := tyX1 0) (C := RX1) (T := TX1) (N := 19) hx hb hts iwX1 tyX1 tyX1_ok nmX1 hown hK hP hD hS 0 rfl rfl 0 (by decide) (hts (.fieldLink RX1 21 "ModulePlayer$Channel" "bank" "LModulePlayer$Bank;") (List.mem_cons_of_mem _ kw_89)) (fun _ h9 => h9) rfl hin rfl (by decide +kernel) (rfl) (rfl) (Nat.le_of_ble_eq_true rfl) dX1_init_28 (fun H locs hP hD hS => ?_)
  have hP : va_P (dC, dI) vwCl [(h, .inr (1, [.ref bk, .ref q_5, .ref q_16, .int 0, .int 0, .int 0, .int 0, .int 0, .int 0, .int 0, .int 0, .int 0, .int 0, .int 0, .int 0, .int 0, .long 0, .int 0, .int 0])), (q_5, .inr (8, [.int 0, .int 0, .int 0, .int 0])), (q_16, .inr (8, [.int 0, .int 0, .int 0, .int 0]))] H := hP
  have hD : va_D A [(h, .inr (1, [.ref bk, .ref q_5, .ref q_16, .int 0, .int 0, .int 0, .int 0, .int 0, .int 0, .int 0, .int 0, .int 0, .int 0, .int 0, .int 0, .int 0, .long 0, .int 0, .int 0])), (q_5, .inr (8, [.int 0, .int 0, .int 0, .int 0])), (q_16, .inr (8, [.int 0, .int 0, .int 0, .int 0]))] := hD
  have hP9 := hP.sub (ws' := [(h, .inr (1, [.ref bk, .ref q_5, .ref q_16, .int 0, .int 0, .int 0, .int 0, .int 0, .int 0, .int 0, .int 0, .int 0, .int 0, .int 0, .int 0, .int 0, .long 0, .int 0, .int 0])), (q_5, .inr (8, [.int 0, .int 0, .int 0, .int 0])), (q_16, .inr (8, [.int 0, .int 0, .int 0, .int 0]))]) [0, 1, 2] rfl
  have hD9 := hD.sub (ws' := [(h, .inr (1, [.ref bk, .ref q_5, .ref q_16, .int 0, .int 0, .int 0, .int 0, .int 0, .int 0, .int 0, .int 0, .int 0, .int 0, .int 0, .int 0, .int 0, .long 0, .int 0, .int 0])), (q_5, .inr (8, [.int 0, .int 0, .int 0, .int 0])), (q_16, .inr (8, [.int 0, .int 0, .int 0, .int 0]))]) [0, 1, 2] (by decide +kernel) rfl
  have hK9 := hK.sub (tys' := []) [] rfl
  exact W.vret hx hb hr (fun t ht hW => ⟨⟨([(h, .inr (1, [.ref bk, .ref q_5, .ref q_16, .int 0, .int 0, .int 0, .int 0, .int 0, .int 0, .int 0, .int 0, .int 0, .int 0, .int 0, .int 0, .int 0, .long 0, .int 0, .int 0])), (q_5, .inr (8, [.int 0, .int 0, .int 0, .int 0])), (q_16, .inr (8, [.int 0, .int 0, .int 0, .int 0]))], []), rfl, ⟨q_5, q_16, rfl⟩, by rw [ht]; exact hP9, va_K.moved hW.alike hK9, hD9⟩, hS.F ht⟩) hS.2.2 dX1_init_31
