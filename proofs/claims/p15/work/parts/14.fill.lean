set_option maxHeartbeats 400000 in
set_option maxRecDepth 100000 in
/-- Arrays.rangeCheck -/
theorem c_range (l : Launch) (dC : Nat → ClassId) (dI : Nat → Nat → Nat) (sz : Nat) (n a b : Nat) (h1 : a ≤ b) (h2 : b ≤ n) (h3 : n < 2147483648) : Met l yJ7_rangeCheck_23922 (wsG (.code yJ7_rangeCheck_23922 cJ7_rangeCheck_23922 3 none)) ({ frames := 0, cells := 0, slots := 0, locals := 0 }) (va_Pc [.int (nI n), .int (nI a), .int (nI b)] (gP (dC, dI) [] [] sz)) (va_Qv (fun u : va_W × gT => u = ([], [])) (gB (dC, dI) (va_A [] sz)) (va_A [] sz)) 0 0 (va_A [] sz) := by
  refine Met.ofW (cc := cJ7_rangeCheck_23922) (maxL := 3) (ret := none) (by decide) rfl ?_
  intro p e s m args below meth c s₁ B hml hv
  obtain ⟨rfl, hsz, hP, hK, hD0, hN, hZ⟩ := hv
  have hx := B.exec
  have hb := B.bytes
  have hr := B.returns
  have hts := atoms_spec (ws := (wsG (.code yJ7_rangeCheck_23922 cJ7_rangeCheck_23922 3 none))) B.pre
  have hown : s.vm.findClass RJ7 = some m.cls := findClass_of_methodNamed B.named
  have hlocks := B.notSynchronized
  subst hsz
  have hD := hD0.self (sz := s.heap.size)
  generalize hAe : va_A [] s.heap.size = A at hD hZ ⊢
  have hA : ∀ q : Nat, s.heap.size ≤ q → A q := fun q h => by rw [← hAe]; exact Or.inr h
  have hl := lv_entry ([.int (nI n), .int (nI a), .int (nI b)]) (n := 3) (Nat.le_of_ble_eq_true rfl)
  rw [lg_entry_eq]
  generalize (lg_sl ([.int (nI n), .int (nI a), .int (nI b)]) ++ List.replicate (3 - (lg_sl ([.int (nI n), .int (nI a), .int (nI b)])).length) Slot.unset).toArray = ls at hl ⊢
  have hl : lv_has ls 3 [(0, .int (nI n)), (1, .int (nI a)), (2, .int (nI b))] := hl
  refine g_start (A := A) hP (fun H locs hP hS => ?_)
  refine lv_iload_n hx hb dJ7_rangeCheck_23922_0 rfl (lv_at hl 1 rfl) ?_
  refine lv_iload_n hx hb dJ7_rangeCheck_23922_1 rfl (lv_at hl 2 rfl) ?_
  refine lv_icmp_le (tgt := 46) hx hb dJ7_rangeCheck_23922_2 (by decide) (fun c_2 => ?_) (fun c_2 => absurd (nI_le h1 (by omega)) c_2)
  refine lv_iload_n hx hb dJ7_rangeCheck_23922_46 rfl (lv_at hl 1 rfl) ?_
  refine lv_if_ge (tgt := 59) hx hb dJ7_rangeCheck_23922_47 (by decide) (fun c_47 => ?_) (fun c_47 => absurd (nI_pos' (by omega)) c_47)
  refine lv_iload_n hx hb dJ7_rangeCheck_23922_59 rfl (lv_at hl 2 rfl) ?_
  refine lv_iload_n hx hb dJ7_rangeCheck_23922_60 rfl (lv_at hl 0 rfl) ?_
  refine lv_icmp_le (tgt := 73) hx hb dJ7_rangeCheck_23922_61 (by decide) (fun c_61 => ?_) (fun c_61 => absurd (nI_le h2 (by omega)) c_61)
  have hP9 := hP.sub (ws' := []) [] rfl
  have hD9 := hD.sub (ws' := []) [] (by decide) rfl
  have hK9 := hK.sub (tys' := []) [] rfl
  exact W.vret hx hb hr (fun t ht hW => ⟨⟨([], []), rfl, rfl, by rw [ht]; exact hP9, va_K.moved hW.alike hK9, hD9⟩, hS.F ht⟩) hS.2.2 dJ7_rangeCheck_23922_73

set_option maxHeartbeats 400000 in
set_option maxRecDepth 100000 in
/-- Arrays.fill -/
theorem c_fillI (l : Launch) (dC : Nat → ClassId) (dI : Nat → Nat → Nat) (sz : Nat) (h : Nat) (cI : ClassId) (n a b : Nat) (f : Nat → Int32) (v : Int32) (h1 : a ≤ b) (h2 : b ≤ n) (h3 : n < 2147483648) : Met l yJ7_fill_fda19 (wsG (.code yJ7_fill_fda19 cJ7_fill_fda19 5 none)) ({ frames := 1, cells := 0, slots := 0, locals := 22 }) (va_Pc [.ref h, .int (nI a), .int (nI b), .int v] (gP (dC, dI) [(cI, .int)] [(h, .inl (cI, n, .inl f))] sz)) (va_Qv (fun u : va_W × gT => ∃ (f2 : Nat → Int32), u = ([(h, .inl (cI, n, .inl f2))], []) ∧ (∀ x, f2 x = if a ≤ x ∧ x < b then v else f x)) (gB (dC, dI) (va_A [(h, .inl (cI, n, .inl f))] sz)) (va_A [(h, .inl (cI, n, .inl f))] sz)) 0 0 (va_A [(h, .inl (cI, n, .inl f))] sz) := by
  refine Met.ofW (cc := cJ7_fill_fda19) (maxL := 5) (ret := none) (by decide) rfl ?_
  intro p e s m args below meth c s₁ B hml hv
  obtain ⟨rfl, hsz, hP, hK, hD0, hN, hZ⟩ := hv
  have hx := B.exec
  have hb := B.bytes
  have hr := B.returns
  have hts := atoms_spec (ws := (wsG (.code yJ7_fill_fda19 cJ7_fill_fda19 5 none))) B.pre
  have hown : s.vm.findClass RJ7 = some m.cls := findClass_of_methodNamed B.named
  have hlocks := B.notSynchronized
  subst hsz
  have hD := hD0.self (sz := s.heap.size)
  generalize hAe : va_A [(h, .inl (cI, n, .inl f))] s.heap.size = A at hD hZ ⊢
  have hA : ∀ q : Nat, s.heap.size ≤ q → A q := fun q h => by rw [← hAe]; exact Or.inr h
  have hl := lv_entry ([.ref h, .int (nI a), .int (nI b), .int v]) (n := 5) (Nat.le_of_ble_eq_true rfl)
  rw [lg_entry_eq]
  generalize (lg_sl ([.ref h, .int (nI a), .int (nI b), .int v]) ++ List.replicate (5 - (lg_sl ([.ref h, .int (nI a), .int (nI b), .int v])).length) Slot.unset).toArray = ls at hl ⊢
  have hl : lv_has ls 5 [(0, .ref h), (1, .int (nI a)), (2, .int (nI b)), (3, .int v)] := hl
  refine g_start (A := A) hP (fun H locs hP hS => ?_)
  refine lv_aload_n hx hb dJ7_fill_fda19_0 rfl (lv_at hl 0 rfl) ?_
  refine va_alen (v := nI n) hx hb hK hP 0 0 rfl rfl (rfl) dJ7_fill_fda19_1 ?_
  refine lv_iload_n hx hb dJ7_fill_fda19_2 rfl (lv_at hl 1 rfl) ?_
  refine lv_iload_n hx hb dJ7_fill_fda19_3 rfl (lv_at hl 2 rfl) ?_
  refine g_callv (wr := [(h, .inl (cI, n, .inl f))]) (va_runS (As := [.int (nI n), .int (nI a), .int (nI b)]) (rest := []) ⟨hx, hb, hml, hown, hts⟩ (c_range l dC dI H.size n a b (h1) (h2) (h3)) (va_cwS 3 hts (gG_S kw_412 kw_413 kw_124 kw_414) rfl rfl rfl (by decide +kernel) ⟨Nat.le_of_ble_eq_true rfl, Nat.le_of_ble_eq_true rfl⟩) (g_preS hP hD hK hS hA hN hZ [] (by decide) rfl [] rfl) rfl rfl hl.1 rfl (lv_room (Nat.le_of_ble_eq_true rfl)) dJ7_fill_fda19_4 ⟨Nat.le_of_ble_eq_true rfl, Nat.le_of_ble_eq_true rfl⟩) hP hD hK hS hA [] [0] rfl rfl (by decide +kernel) (by decide +kernel) (fun w ty1 H locs hw_4 hP hD _ hS => ?_)
  have hu := hw_4
  cases hu
  have hP : va_P (dC, dI) vwCl [(h, .inl (cI, n, .inl f))] H := hP
  have hD : va_D A [(h, .inl (cI, n, .inl f))] := hD
  refine lv_iload_n hx hb dJ7_fill_fda19_7 rfl (lv_at hl 1 rfl) ?_
  refine lv_istore (lv' := [(4, .int (nI a)), (0, .ref h), (1, .int (nI a)), (2, .int (nI b)), (3, .int v)]) hx hb dJ7_fill_fda19_8 hl (by decide) rfl (fun ls hl => ?_)
  rw [← ffill_0 f a v] at hP hD
  have LP10 : ∀ (fu10 : Nat) (k : Nat) (hk1 : a ≤ k) (hk2 : k ≤ b) (hm10 : b - k < fu10) (H : Heap) (locs : List Loc), va_P (dC, dI) vwCl [(h, .inl (cI, n, .inl (ffill f a k v)))] H → va_D A [(h, .inl (cI, n, .inl (ffill f a k v)))] → va_S A s.heap H locs → ∀ ls : Array Slot, lv_has ls 5 [(4, .int (nI k)), (0, .ref h), (1, .int (nI a)), (2, .int (nI b)), (3, .int v)] → W p l e ({ frames := 1, cells := 0, slots := 0, locals := 22 }) s m ([.ref h, .int (nI a), .int (nI b), .int v] : List Value).toArray below meth c H locs (0) (0) (MQ below (va_Qv (fun u : va_W × gT => ∃ (f2 : Nat → Int32), u = ([(h, .inl (cI, n, .inl f2))], []) ∧ (∀ x, f2 x = if a ≤ x ∧ x < b then v else f x)) (gB (dC, dI) A) A) ([.ref h, .int (nI a), .int (nI b), .int v] : List Value).toArray s 0 0 A) (F0 m 10 ls []) := by
    intro fu10
    induction fu10 with
    | zero => intro k hk1 hk2 hm10; exact absurd hm10 (Nat.not_lt_zero _)
    | succ fu10 ih10 =>
      intro k hk1 hk2 hm10 H locs hP hD hS ls hl
      refine lv_iload hx hb dJ7_fill_fda19_10 (lv_at hl 0 rfl) ?_
      refine lv_iload_n hx hb dJ7_fill_fda19_12 rfl (lv_at hl 3 rfl) ?_
      refine lv_icmp_ge (tgt := 27) hx hb dJ7_fill_fda19_13 (by decide) (fun c_13 => ?_) (fun c_13 => ?_)
      · have hP9 := hP.sub (ws' := [(h, .inl (cI, n, .inl (ffill f a k v)))]) [0] rfl
        have hD9 := hD.sub (ws' := [(h, .inl (cI, n, .inl (ffill f a k v)))]) [0] (by decide +kernel) rfl
        have hK9 := hK.sub (tys' := []) [] rfl
        exact W.vret hx hb hr (fun t ht hW => ⟨⟨([(h, .inl (cI, n, .inl (ffill f a k v)))], []), rfl, ⟨(ffill f a k v), rfl, (fun x => ffill_e (by have := nI_le' c_13 (by omega) (by omega); omega) x)⟩, by rw [ht]; exact hP9, va_K.moved hW.alike hK9, hD9⟩, hS.F ht⟩) hS.2.2 dJ7_fill_fda19_27
      refine lv_aload_n hx hb dJ7_fill_fda19_16 rfl (lv_at hl 1 rfl) ?_
      refine lv_iload hx hb dJ7_fill_fda19_17 (lv_at hl 0 rfl) ?_
      refine lv_iload_n hx hb dJ7_fill_fda19_19 rfl (lv_at hl 4 rfl) ?_
      refine g_iast hx hb hK hP hD hS 0 0 rfl rfl k (nI_clamp (by have := nI_nle' c_13 (by omega); omega)) (vp_in_nI (by have := nI_nle' c_13 (by omega); omega) (by omega)) dJ7_fill_fda19_20 (fun H locs hP hD hS => ?_)
      have hP : va_P (dC, dI) vwCl [(h, .inl (cI, n, .inl (upd (ffill f a k v) k v)))] H := hP
      have hD : va_D A [(h, .inl (cI, n, .inl (upd (ffill f a k v) k v)))] := hD
      have hfe_20 : upd (ffill f a k v) k v = ffill f a (k + 1) v := ffill_s hk1
      rw [hfe_20] at hP hD
      refine lv_iinc (v := nI (k + 1)) (lv' := [(4, .int (nI (k + 1))), (0, .ref h), (1, .int (nI a)), (2, .int (nI b)), (3, .int v)]) hx hb dJ7_fill_fda19_21 hl (k := 0) rfl (nI_1 k) (by decide) rfl (fun ls hl => ?_)
      refine lv_goto (tgt := 10) hx hb dJ7_fill_fda19_24 (by decide) ?_
      exact ih10 (k + 1) (by omega) (by have := nI_nle' c_13 (by omega); omega) (by have := nI_nle' c_13 (by omega); omega) _ _ (hP.sub [0] rfl) (hD.sub [0] (by decide +kernel) rfl) hS _ (lv_sub hl [0, 1, 2, 3, 4] rfl)
  exact LP10 _ a (Nat.le_refl a) (h1) (Nat.lt_succ_self _) _ _ (hP.sub [0] rfl) (hD.sub [0] (by decide +kernel) rfl) hS _ (lv_sub hl [0, 1, 2, 3, 4] rfl)

set_option maxHeartbeats 400000 in
set_option maxRecDepth 100000 in
/-- Arrays.fill -/
theorem c_fillB (l : Launch) (dC : Nat → ClassId) (dI : Nat → Nat → Nat) (sz : Nat) (h : Nat) (cI : ClassId) (n a b : Nat) (f : Nat → Int32) (v : Int32) (h1 : a ≤ b) (h2 : b ≤ n) (h3 : n < 2147483648) : Met l yJ7_fill_eb02e (wsG (.code yJ7_fill_eb02e cJ7_fill_eb02e 5 none)) ({ frames := 1, cells := 0, slots := 0, locals := 22 }) (va_Pc [.ref h, .int (nI a), .int (nI b), .int v] (gP (dC, dI) [(cI, .byte)] [(h, .inl (cI, n, .inl f))] sz)) (va_Qv (fun u : va_W × gT => ∃ (f2 : Nat → Int32), u = ([(h, .inl (cI, n, .inl f2))], []) ∧ (∀ x, f2 x = if a ≤ x ∧ x < b then v.toInt8.toInt32 else f x)) (gB (dC, dI) (va_A [(h, .inl (cI, n, .inl f))] sz)) (va_A [(h, .inl (cI, n, .inl f))] sz)) 0 0 (va_A [(h, .inl (cI, n, .inl f))] sz) := by
  refine Met.ofW (cc := cJ7_fill_eb02e) (maxL := 5) (ret := none) (by decide) rfl ?_
  intro p e s m args below meth c s₁ B hml hv
  obtain ⟨rfl, hsz, hP, hK, hD0, hN, hZ⟩ := hv
  have hx := B.exec
  have hb := B.bytes
  have hr := B.returns
  have hts := atoms_spec (ws := (wsG (.code yJ7_fill_eb02e cJ7_fill_eb02e 5 none))) B.pre
  have hown : s.vm.findClass RJ7 = some m.cls := findClass_of_methodNamed B.named
  have hlocks := B.notSynchronized
  subst hsz
  have hD := hD0.self (sz := s.heap.size)
  generalize hAe : va_A [(h, .inl (cI, n, .inl f))] s.heap.size = A at hD hZ ⊢
  have hA : ∀ q : Nat, s.heap.size ≤ q → A q := fun q h => by rw [← hAe]; exact Or.inr h
  have hl := lv_entry ([.ref h, .int (nI a), .int (nI b), .int v]) (n := 5) (Nat.le_of_ble_eq_true rfl)
  rw [lg_entry_eq]
  generalize (lg_sl ([.ref h, .int (nI a), .int (nI b), .int v]) ++ List.replicate (5 - (lg_sl ([.ref h, .int (nI a), .int (nI b), .int v])).length) Slot.unset).toArray = ls at hl ⊢
  have hl : lv_has ls 5 [(0, .ref h), (1, .int (nI a)), (2, .int (nI b)), (3, .int v)] := hl
  refine g_start (A := A) hP (fun H locs hP hS => ?_)
  refine lv_aload_n hx hb dJ7_fill_eb02e_0 rfl (lv_at hl 0 rfl) ?_
  refine va_alen (v := nI n) hx hb hK hP 0 0 rfl rfl (rfl) dJ7_fill_eb02e_1 ?_
  refine lv_iload_n hx hb dJ7_fill_eb02e_2 rfl (lv_at hl 1 rfl) ?_
  refine lv_iload_n hx hb dJ7_fill_eb02e_3 rfl (lv_at hl 2 rfl) ?_
  refine g_callv (wr := [(h, .inl (cI, n, .inl f))]) (va_runS (As := [.int (nI n), .int (nI a), .int (nI b)]) (rest := []) ⟨hx, hb, hml, hown, hts⟩ (c_range l dC dI H.size n a b (h1) (h2) (h3)) (va_cwS 3 hts (gG_S kw_412 kw_413 kw_124 kw_414) rfl rfl rfl (by decide +kernel) ⟨Nat.le_of_ble_eq_true rfl, Nat.le_of_ble_eq_true rfl⟩) (g_preS hP hD hK hS hA hN hZ [] (by decide) rfl [] rfl) rfl rfl hl.1 rfl (lv_room (Nat.le_of_ble_eq_true rfl)) dJ7_fill_eb02e_4 ⟨Nat.le_of_ble_eq_true rfl, Nat.le_of_ble_eq_true rfl⟩) hP hD hK hS hA [] [0] rfl rfl (by decide +kernel) (by decide +kernel) (fun w ty1 H locs hw_4 hP hD _ hS => ?_)
  have hu := hw_4
  cases hu
  have hP : va_P (dC, dI) vwCl [(h, .inl (cI, n, .inl f))] H := hP
  have hD : va_D A [(h, .inl (cI, n, .inl f))] := hD
  refine lv_iload_n hx hb dJ7_fill_eb02e_7 rfl (lv_at hl 1 rfl) ?_
  refine lv_istore (lv' := [(4, .int (nI a)), (0, .ref h), (1, .int (nI a)), (2, .int (nI b)), (3, .int v)]) hx hb dJ7_fill_eb02e_8 hl (by decide) rfl (fun ls hl => ?_)
  rw [← ffill_0 f a v.toInt8.toInt32] at hP hD
  have LP10 : ∀ (fu10 : Nat) (k : Nat) (hk1 : a ≤ k) (hk2 : k ≤ b) (hm10 : b - k < fu10) (H : Heap) (locs : List Loc), va_P (dC, dI) vwCl [(h, .inl (cI, n, .inl (ffill f a k v.toInt8.toInt32)))] H → va_D A [(h, .inl (cI, n, .inl (ffill f a k v.toInt8.toInt32)))] → va_S A s.heap H locs → ∀ ls : Array Slot, lv_has ls 5 [(4, .int (nI k)), (0, .ref h), (1, .int (nI a)), (2, .int (nI b)), (3, .int v)] → W p l e ({ frames := 1, cells := 0, slots := 0, locals := 22 }) s m ([.ref h, .int (nI a), .int (nI b), .int v] : List Value).toArray below meth c H locs (0) (0) (MQ below (va_Qv (fun u : va_W × gT => ∃ (f2 : Nat → Int32), u = ([(h, .inl (cI, n, .inl f2))], []) ∧ (∀ x, f2 x = if a ≤ x ∧ x < b then v.toInt8.toInt32 else f x)) (gB (dC, dI) A) A) ([.ref h, .int (nI a), .int (nI b), .int v] : List Value).toArray s 0 0 A) (F0 m 10 ls []) := by
    intro fu10
    induction fu10 with
    | zero => intro k hk1 hk2 hm10; exact absurd hm10 (Nat.not_lt_zero _)
    | succ fu10 ih10 =>
      intro k hk1 hk2 hm10 H locs hP hD hS ls hl
      refine lv_iload hx hb dJ7_fill_eb02e_10 (lv_at hl 0 rfl) ?_
      refine lv_iload_n hx hb dJ7_fill_eb02e_12 rfl (lv_at hl 3 rfl) ?_
      refine lv_icmp_ge (tgt := 27) hx hb dJ7_fill_eb02e_13 (by decide) (fun c_13 => ?_) (fun c_13 => ?_)
      · have hP9 := hP.sub (ws' := [(h, .inl (cI, n, .inl (ffill f a k v.toInt8.toInt32)))]) [0] rfl
        have hD9 := hD.sub (ws' := [(h, .inl (cI, n, .inl (ffill f a k v.toInt8.toInt32)))]) [0] (by decide +kernel) rfl
        have hK9 := hK.sub (tys' := []) [] rfl
        exact W.vret hx hb hr (fun t ht hW => ⟨⟨([(h, .inl (cI, n, .inl (ffill f a k v.toInt8.toInt32)))], []), rfl, ⟨(ffill f a k v.toInt8.toInt32), rfl, (fun x => ffill_e (by have := nI_le' c_13 (by omega) (by omega); omega) x)⟩, by rw [ht]; exact hP9, va_K.moved hW.alike hK9, hD9⟩, hS.F ht⟩) hS.2.2 dJ7_fill_eb02e_27
      refine lv_aload_n hx hb dJ7_fill_eb02e_16 rfl (lv_at hl 1 rfl) ?_
      refine lv_iload hx hb dJ7_fill_eb02e_17 (lv_at hl 0 rfl) ?_
      refine lv_iload_n hx hb dJ7_fill_eb02e_19 rfl (lv_at hl 4 rfl) ?_
      refine g_bast hx hb hK hP hD hS 0 0 rfl rfl (x' := v.toInt8.toInt32) (vp_nar_byte _) k (nI_clamp (by have := nI_nle' c_13 (by omega); omega)) (vp_in_nI (by have := nI_nle' c_13 (by omega); omega) (by omega)) dJ7_fill_eb02e_20 (fun H locs hP hD hS => ?_)
      have hP : va_P (dC, dI) vwCl [(h, .inl (cI, n, .inl (upd (ffill f a k v.toInt8.toInt32) k v.toInt8.toInt32)))] H := hP
      have hD : va_D A [(h, .inl (cI, n, .inl (upd (ffill f a k v.toInt8.toInt32) k v.toInt8.toInt32)))] := hD
      have hfe_20 : upd (ffill f a k v.toInt8.toInt32) k v.toInt8.toInt32 = ffill f a (k + 1) v.toInt8.toInt32 := ffill_s hk1
      rw [hfe_20] at hP hD
      refine lv_iinc (v := nI (k + 1)) (lv' := [(4, .int (nI (k + 1))), (0, .ref h), (1, .int (nI a)), (2, .int (nI b)), (3, .int v)]) hx hb dJ7_fill_eb02e_21 hl (k := 0) rfl (nI_1 k) (by decide) rfl (fun ls hl => ?_)
      refine lv_goto (tgt := 10) hx hb dJ7_fill_eb02e_24 (by decide) ?_
      exact ih10 (k + 1) (by omega) (by have := nI_nle' c_13 (by omega); omega) (by have := nI_nle' c_13 (by omega); omega) _ _ (hP.sub [0] rfl) (hD.sub [0] (by decide +kernel) rfl) hS _ (lv_sub hl [0, 1, 2, 3, 4] rfl)
  exact LP10 _ a (Nat.le_refl a) (h1) (Nat.lt_succ_self _) _ _ (hP.sub [0] rfl) (hD.sub [0] (by decide +kernel) rfl) hS _ (lv_sub hl [0, 1, 2, 3, 4] rfl)

set_option maxHeartbeats 400000 in
set_option maxRecDepth 100000 in
/-- Arrays.fill of longs -/
theorem c_fillJ (l : Launch) (dC : Nat → ClassId) (dI : Nat → Nat → Nat) (sz : Nat) (h : Nat) (cJ : ClassId) (n : Nat) (f : Nat → Int64) (v : Int64) (h3 : n < 2147483648) : Met l yJ7_fill_d0a16 (wsG (.code yJ7_fill_d0a16 cJ7_fill_d0a16 5 none)) ({ frames := 0, cells := 0, slots := 0, locals := 0 }) (va_Pc [.ref h, .long v] (gP (dC, dI) [(cJ, .long)] [(h, .inl (cJ, n, .inr (.inl f)))] sz)) (va_Qv (fun u : va_W × gT => ∃ (f2 : Nat → Int64), u = ([(h, .inl (cJ, n, .inr (.inl f2)))], []) ∧ (∀ x, x < n → f2 x = v)) (gB (dC, dI) (va_A [(h, .inl (cJ, n, .inr (.inl f)))] sz)) (va_A [(h, .inl (cJ, n, .inr (.inl f)))] sz)) 0 0 (va_A [(h, .inl (cJ, n, .inr (.inl f)))] sz) := by
  refine Met.ofW (cc := cJ7_fill_d0a16) (maxL := 5) (ret := none) (by decide) rfl ?_
  intro p e s m args below meth c s₁ B hml hv
  obtain ⟨rfl, hsz, hP, hK, hD0, hN, hZ⟩ := hv
  have hx := B.exec
  have hb := B.bytes
  have hr := B.returns
  have hts := atoms_spec (ws := (wsG (.code yJ7_fill_d0a16 cJ7_fill_d0a16 5 none))) B.pre
  have hown : s.vm.findClass RJ7 = some m.cls := findClass_of_methodNamed B.named
  have hlocks := B.notSynchronized
  subst hsz
  have hD := hD0.self (sz := s.heap.size)
  generalize hAe : va_A [(h, .inl (cJ, n, .inr (.inl f)))] s.heap.size = A at hD hZ ⊢
  have hA : ∀ q : Nat, s.heap.size ≤ q → A q := fun q h => by rw [← hAe]; exact Or.inr h
  have hl := lv_entry ([.ref h, .long v]) (n := 5) (Nat.le_of_ble_eq_true rfl)
  rw [lg_entry_eq]
  generalize (lg_sl ([.ref h, .long v]) ++ List.replicate (5 - (lg_sl ([.ref h, .long v])).length) Slot.unset).toArray = ls at hl ⊢
  have hl : lv_has ls 5 [(0, .ref h), (1, .long v)] := hl
  refine g_start (A := A) hP (fun H locs hP hS => ?_)
  refine lv_iconst (v := 0) hx hb dJ7_fill_d0a16_0 (by decide) ?_
  refine lv_istore_n (lv' := [(3, .int 0), (0, .ref h), (1, .long v)]) hx hb dJ7_fill_d0a16_1 rfl hl (by decide) rfl (fun ls hl => ?_)
  refine lv_aload_n hx hb dJ7_fill_d0a16_2 rfl (lv_at hl 1 rfl) ?_
  refine va_alen (v := nI n) hx hb hK hP 0 0 rfl rfl (rfl) dJ7_fill_d0a16_3 ?_
  refine lv_istore (lv' := [(4, .int (nI n)), (3, .int 0), (0, .ref h), (1, .long v)]) hx hb dJ7_fill_d0a16_4 hl (by decide) rfl (fun ls hl => ?_)
  have LP6 : ∀ (fu6 : Nat) (k : Nat) (g : Nat → Int64) (hk2 : k ≤ n) (hg : ∀ x, x < k → g x = v) (hm6 : n - k < fu6) (H : Heap) (locs : List Loc), va_P (dC, dI) vwCl [(h, .inl (cJ, n, .inr (.inl g)))] H → va_D A [(h, .inl (cJ, n, .inr (.inl g)))] → va_S A s.heap H locs → ∀ ls : Array Slot, lv_has ls 5 [(4, .int (nI n)), (3, .int (nI k)), (0, .ref h), (1, .long v)] → W p l e ({ frames := 0, cells := 0, slots := 0, locals := 0 }) s m ([.ref h, .long v] : List Value).toArray below meth c H locs (0) (0) (MQ below (va_Qv (fun u : va_W × gT => ∃ (f2 : Nat → Int64), u = ([(h, .inl (cJ, n, .inr (.inl f2)))], []) ∧ (∀ x, x < n → f2 x = v)) (gB (dC, dI) A) A) ([.ref h, .long v] : List Value).toArray s 0 0 A) (F0 m 6 ls []) := by
    intro fu6
    induction fu6 with
    | zero => intro k g hk2 hg hm6; exact absurd hm6 (Nat.not_lt_zero _)
    | succ fu6 ih6 =>
      intro k g hk2 hg hm6 H locs hP hD hS ls hl
      refine lv_iload_n hx hb dJ7_fill_d0a16_6 rfl (lv_at hl 1 rfl) ?_
      refine lv_iload hx hb dJ7_fill_d0a16_7 (lv_at hl 0 rfl) ?_
      refine lv_icmp_ge (tgt := 22) hx hb dJ7_fill_d0a16_9 (by decide) (fun c_9 => ?_) (fun c_9 => ?_)
      · have hP9 := hP.sub (ws' := [(h, .inl (cJ, n, .inr (.inl g)))]) [0] rfl
        have hD9 := hD.sub (ws' := [(h, .inl (cJ, n, .inr (.inl g)))]) [0] (by decide +kernel) rfl
        have hK9 := hK.sub (tys' := []) [] rfl
        exact W.vret hx hb hr (fun t ht hW => ⟨⟨([(h, .inl (cJ, n, .inr (.inl g)))], []), rfl, ⟨g, rfl, (fun x hx0 => hg x (by have := nI_le' c_9 (by omega) (by omega); omega))⟩, by rw [ht]; exact hP9, va_K.moved hW.alike hK9, hD9⟩, hS.F ht⟩) hS.2.2 dJ7_fill_d0a16_22
      refine lv_aload_n hx hb dJ7_fill_d0a16_12 rfl (lv_at hl 2 rfl) ?_
      refine lv_iload_n hx hb dJ7_fill_d0a16_13 rfl (lv_at hl 1 rfl) ?_
      refine lv_lload_n hx hb dJ7_fill_d0a16_14 rfl (lv_at hl 3 rfl) ?_
      refine g_last hx hb hK hP hD hS 0 0 rfl rfl k (nI_clamp (by have := nI_nle' c_9 (by omega); omega)) (vp_in_nI (by have := nI_nle' c_9 (by omega); omega) (by omega)) dJ7_fill_d0a16_15 (fun H locs hP hD hS => ?_)
      have hP : va_P (dC, dI) vwCl [(h, .inl (cJ, n, .inr (.inl (vp_updL g k v))))] H := hP
      have hD : va_D A [(h, .inl (cJ, n, .inr (.inl (vp_updL g k v))))] := hD
      refine lv_iinc (v := nI (k + 1)) (lv' := [(3, .int (nI (k + 1))), (4, .int (nI n)), (0, .ref h), (1, .long v)]) hx hb dJ7_fill_d0a16_16 hl (k := 1) rfl (nI_1 k) (by decide) rfl (fun ls hl => ?_)
      refine lv_goto (tgt := 6) hx hb dJ7_fill_d0a16_19 (by decide) ?_
      exact ih6 (k + 1) (vp_updL g k v) (by have := nI_nle' c_9 (by omega); omega) (fun x hx0 => updL_s hg hx0) (by have := nI_nle' c_9 (by omega); omega) _ _ (hP.sub [0] rfl) (hD.sub [0] (by decide +kernel) rfl) hS _ (lv_sub hl [1, 0, 2, 3] rfl)
  exact LP6 _ 0 f (Nat.zero_le n) (fun x hx0 => absurd hx0 (Nat.not_lt_zero x)) (Nat.lt_succ_self _) _ _ (hP.sub [0] rfl) (hD.sub [0] (by decide +kernel) rfl) hS _ (lv_sub hl [0, 1, 2, 3] rfl)

set_option maxHeartbeats 400000 in
set_option maxRecDepth 100000 in
/-- Arrays.fill of ints -/
theorem c_fillA (l : Launch) (dC : Nat → ClassId) (dI : Nat → Nat → Nat) (sz : Nat) (h : Nat) (cI : ClassId) (n : Nat) (f : Nat → Int32) (v : Int32) (h3 : n < 2147483648) : Met l yJ7_fill_53178 (wsG (.code yJ7_fill_53178 cJ7_fill_53178 4 none)) ({ frames := 0, cells := 0, slots := 0, locals := 0 }) (va_Pc [.ref h, .int v] (gP (dC, dI) [(cI, .int)] [(h, .inl (cI, n, .inl f))] sz)) (va_Qv (fun u : va_W × gT => ∃ (f2 : Nat → Int32), u = ([(h, .inl (cI, n, .inl f2))], []) ∧ (∀ x, x < n → f2 x = v)) (gB (dC, dI) (va_A [(h, .inl (cI, n, .inl f))] sz)) (va_A [(h, .inl (cI, n, .inl f))] sz)) 0 0 (va_A [(h, .inl (cI, n, .inl f))] sz) := by
  refine Met.ofW (cc := cJ7_fill_53178) (maxL := 4) (ret := none) (by decide) rfl ?_
  intro p e s m args below meth c s₁ B hml hv
  obtain ⟨rfl, hsz, hP, hK, hD0, hN, hZ⟩ := hv
  have hx := B.exec
  have hb := B.bytes
  have hr := B.returns
  have hts := atoms_spec (ws := (wsG (.code yJ7_fill_53178 cJ7_fill_53178 4 none))) B.pre
  have hown : s.vm.findClass RJ7 = some m.cls := findClass_of_methodNamed B.named
  have hlocks := B.notSynchronized
  subst hsz
  have hD := hD0.self (sz := s.heap.size)
  generalize hAe : va_A [(h, .inl (cI, n, .inl f))] s.heap.size = A at hD hZ ⊢
  have hA : ∀ q : Nat, s.heap.size ≤ q → A q := fun q h => by rw [← hAe]; exact Or.inr h
  have hl := lv_entry ([.ref h, .int v]) (n := 4) (Nat.le_of_ble_eq_true rfl)
  rw [lg_entry_eq]
  generalize (lg_sl ([.ref h, .int v]) ++ List.replicate (4 - (lg_sl ([.ref h, .int v])).length) Slot.unset).toArray = ls at hl ⊢
  have hl : lv_has ls 4 [(0, .ref h), (1, .int v)] := hl
  refine g_start (A := A) hP (fun H locs hP hS => ?_)
  refine lv_iconst (v := 0) hx hb dJ7_fill_53178_0 (by decide) ?_
  refine lv_istore_n (lv' := [(2, .int 0), (0, .ref h), (1, .int v)]) hx hb dJ7_fill_53178_1 rfl hl (by decide) rfl (fun ls hl => ?_)
  refine lv_aload_n hx hb dJ7_fill_53178_2 rfl (lv_at hl 1 rfl) ?_
  refine va_alen (v := nI n) hx hb hK hP 0 0 rfl rfl (rfl) dJ7_fill_53178_3 ?_
  refine lv_istore_n (lv' := [(3, .int (nI n)), (2, .int 0), (0, .ref h), (1, .int v)]) hx hb dJ7_fill_53178_4 rfl hl (by decide) rfl (fun ls hl => ?_)
  have LP5 : ∀ (fu5 : Nat) (k : Nat) (g : Nat → Int32) (hk2 : k ≤ n) (hg : ∀ x, x < k → g x = v) (hm5 : n - k < fu5) (H : Heap) (locs : List Loc), va_P (dC, dI) vwCl [(h, .inl (cI, n, .inl g))] H → va_D A [(h, .inl (cI, n, .inl g))] → va_S A s.heap H locs → ∀ ls : Array Slot, lv_has ls 4 [(3, .int (nI n)), (2, .int (nI k)), (0, .ref h), (1, .int v)] → W p l e ({ frames := 0, cells := 0, slots := 0, locals := 0 }) s m ([.ref h, .int v] : List Value).toArray below meth c H locs (0) (0) (MQ below (va_Qv (fun u : va_W × gT => ∃ (f2 : Nat → Int32), u = ([(h, .inl (cI, n, .inl f2))], []) ∧ (∀ x, x < n → f2 x = v)) (gB (dC, dI) A) A) ([.ref h, .int v] : List Value).toArray s 0 0 A) (F0 m 5 ls []) := by
    intro fu5
    induction fu5 with
    | zero => intro k g hk2 hg hm5; exact absurd hm5 (Nat.not_lt_zero _)
    | succ fu5 ih5 =>
      intro k g hk2 hg hm5 H locs hP hD hS ls hl
      refine lv_iload_n hx hb dJ7_fill_53178_5 rfl (lv_at hl 1 rfl) ?_
      refine lv_iload_n hx hb dJ7_fill_53178_6 rfl (lv_at hl 0 rfl) ?_
      refine lv_icmp_ge (tgt := 20) hx hb dJ7_fill_53178_7 (by decide) (fun c_7 => ?_) (fun c_7 => ?_)
      · have hP9 := hP.sub (ws' := [(h, .inl (cI, n, .inl g))]) [0] rfl
        have hD9 := hD.sub (ws' := [(h, .inl (cI, n, .inl g))]) [0] (by decide +kernel) rfl
        have hK9 := hK.sub (tys' := []) [] rfl
        exact W.vret hx hb hr (fun t ht hW => ⟨⟨([(h, .inl (cI, n, .inl g))], []), rfl, ⟨g, rfl, (fun x hx0 => hg x (by have := nI_le' c_7 (by omega) (by omega); omega))⟩, by rw [ht]; exact hP9, va_K.moved hW.alike hK9, hD9⟩, hS.F ht⟩) hS.2.2 dJ7_fill_53178_20
      refine lv_aload_n hx hb dJ7_fill_53178_10 rfl (lv_at hl 2 rfl) ?_
      refine lv_iload_n hx hb dJ7_fill_53178_11 rfl (lv_at hl 1 rfl) ?_
      refine lv_iload_n hx hb dJ7_fill_53178_12 rfl (lv_at hl 3 rfl) ?_
      refine g_iast hx hb hK hP hD hS 0 0 rfl rfl k (nI_clamp (by have := nI_nle' c_7 (by omega); omega)) (vp_in_nI (by have := nI_nle' c_7 (by omega); omega) (by omega)) dJ7_fill_53178_13 (fun H locs hP hD hS => ?_)
      have hP : va_P (dC, dI) vwCl [(h, .inl (cI, n, .inl (upd g k v)))] H := hP
      have hD : va_D A [(h, .inl (cI, n, .inl (upd g k v)))] := hD
      refine lv_iinc (v := nI (k + 1)) (lv' := [(2, .int (nI (k + 1))), (3, .int (nI n)), (0, .ref h), (1, .int v)]) hx hb dJ7_fill_53178_14 hl (k := 1) rfl (nI_1 k) (by decide) rfl (fun ls hl => ?_)
      refine lv_goto (tgt := 5) hx hb dJ7_fill_53178_17 (by decide) ?_
      exact ih5 (k + 1) (upd g k v) (by have := nI_nle' c_7 (by omega); omega) (fun x hx0 => upd_s hg hx0) (by have := nI_nle' c_7 (by omega); omega) _ _ (hP.sub [0] rfl) (hD.sub [0] (by decide +kernel) rfl) hS _ (lv_sub hl [1, 0, 2, 3] rfl)
  exact LP5 _ 0 f (Nat.zero_le n) (fun x hx0 => absurd hx0 (Nat.not_lt_zero x)) (Nat.lt_succ_self _) _ _ (hP.sub [0] rfl) (hD.sub [0] (by decide +kernel) rfl) hS _ (lv_sub hl [0, 1, 2, 3] rfl)
