set_option maxHeartbeats 400000 in
set_option maxRecDepth 100000 in
theorem x_at (l : Launch) (dC : Nat → ClassId) (dI : Nat → Nat → Nat) (sz : Nat) (h b : Nat) (cB : ClassId) (f : Nat → Int32) (L : Nat) (kx : Nat) (hL : L ≤ 9000) (hk : kx < L) : Met l yX7_at (wsG (.code yX7_at cX7_at 2 (some .int))) ({ frames := 1, cells := 0, slots := 0, locals := 21 }) (va_Pc [.ref h, .int (nI kx)] (gP (dC, dI) [(cB, .byte)] [(h, .inr (7, [.ref b, .int (nI L)])), (b, .inl (cB, 9000, .inl f))] sz)) (va_Qi (fun (r : Int32) (u : va_W × gT) => u = ([(h, .inr (7, [.ref b, .int (nI L)])), (b, .inl (cB, 9000, .inl f))], []) ∧ r = nI (by8 f kx)) (gB (dC, dI) (va_A [(h, .inr (7, [.ref b, .int (nI L)])), (b, .inl (cB, 9000, .inl f))] sz)) (va_A [(h, .inr (7, [.ref b, .int (nI L)])), (b, .inl (cB, 9000, .inl f))] sz)) 0 0 (va_A [(h, .inr (7, [.ref b, .int (nI L)])), (b, .inl (cB, 9000, .inl f))] sz) := by
  refine Met.ofW (cc := cX7_at) (maxL := 2) (ret := (some .int)) (by decide) rfl ?_
  intro p e s m args below meth c s₁ B hml hv
  obtain ⟨rfl, hsz, hP, hK, hD0, hN, hZ⟩ := hv
  have hx := B.exec
  have hb := B.bytes
  have hr := B.returns
  have hts := atoms_spec (ws := (wsG (.code yX7_at cX7_at 2 (some .int)))) B.pre
  have hown : s.vm.findClass RX7 = some m.cls := findClass_of_methodNamed B.named
  have hlocks := B.notSynchronized
  subst hsz
  have hD := hD0.self (sz := s.heap.size)
  generalize hAe : va_A [(h, .inr (7, [.ref b, .int (nI L)])), (b, .inl (cB, 9000, .inl f))] s.heap.size = A at hD hZ ⊢
  have hA : ∀ q : Nat, s.heap.size ≤ q → A q := fun q h => by rw [← hAe]; exact Or.inr h
  have hl := lv_entry ([.ref h, .int (nI kx)]) (n := 2) (Nat.le_of_ble_eq_true rfl)
  rw [lg_entry_eq]
  generalize (lg_sl ([.ref h, .int (nI kx)]) ++ List.replicate (2 - (lg_sl ([.ref h, .int (nI kx)])).length) Slot.unset).toArray = ls at hl ⊢
  have hl : lv_has ls 2 [(0, .ref h), (1, .int (nI kx))] := hl
  refine g_start (A := A) hP (fun H locs hP hS => ?_)
  refine lv_iload_n hx hb dX7_at_0 rfl (lv_at hl 1 rfl) ?_
  refine lv_aload_n hx hb dX7_at_1 rfl (lv_at hl 0 rfl) ?_
  refine va_get (D := (dC, dI)) (ci := 7) (v := .int (nI L)) (C := RX7) (T := TX7) (N := 2) hx hb hts iwX7 hown hK hP 0 rfl rfl 1 (by decide) (hts (.fieldLink RX7 15 "ModulePlayer$Tape" "length" "I") (List.mem_cons_of_mem _ kw_241)) (fun _ h9 => h9) rfl dX7_at_2 ?_
  refine g_calli (wr := [(h, .inr (7, [.ref b, .int (nI L)])), (b, .inl (cB, 9000, .inl f))]) (va_runSN (As := [.int (nI kx), .int (nI L)]) (rest := []) ⟨hx, hb, hml, hown, hts⟩ (c_isIn l dC dI H.size (nI kx) (nI L) ) ⟨va_cnB 2 hts (wsG_good kw_248) rfl rfl rfl (hN.1 (.methodLinkNest RX7 19 yX10_isIn RX10) (by decide +kernel)) (hts (.initialized RX10) (List.mem_cons_of_mem _ kw_2)) (by decide +kernel) ⟨Nat.le_of_ble_eq_true rfl, Nat.le_of_ble_eq_true rfl⟩, (hts (.static yX10_isIn) (List.mem_cons_of_mem _ kw_247)), trivial⟩ (g_preS hP hD hK hS hA hN hZ [] (by decide) rfl [] rfl) rfl rfl hl.1 rfl (lv_room (Nat.le_of_ble_eq_true rfl)) dX7_at_5 ⟨Nat.le_of_ble_eq_true rfl, Nat.le_of_ble_eq_true rfl⟩) hP hD hK hS hA [] [0, 1] rfl rfl (by decide +kernel) (by decide +kernel) (fun r_5 w ty1 H locs hw_5 hP hD _ hS => ?_)
  rcases hw_5 with ⟨hu, hr_5, h_5⟩ | ⟨hu, hr_5, h_5⟩
  · cases hu
    have hP : va_P (dC, dI) vwCl [(h, .inr (7, [.ref b, .int (nI L)])), (b, .inl (cB, 9000, .inl f))] H := hP
    have hD : va_D A [(h, .inr (7, [.ref b, .int (nI L)])), (b, .inl (cB, 9000, .inl f))] := hD
    refine g_topi (y := 1) hr_5 ?_
    refine lv_if_eq (tgt := 34) hx hb dX7_at_8 (by decide) (fun c_8 => absurd c_8 (by decide)) (fun c_8 => ?_)
    refine lv_iload_n hx hb dX7_at_11 rfl (lv_at hl 1 rfl) ?_
    refine lv_sipush (v := 9000) hx hb dX7_at_12 (by decide) ?_
    refine g_calli (wr := [(h, .inr (7, [.ref b, .int (nI L)])), (b, .inl (cB, 9000, .inl f))]) (va_runSN (As := [.int (nI kx), .int 9000]) (rest := []) ⟨hx, hb, hml, hown, hts⟩ (c_isIn l dC dI H.size (nI kx) 9000 ) ⟨va_cnB 2 hts (wsG_good kw_248) rfl rfl rfl (hN.1 (.methodLinkNest RX7 19 yX10_isIn RX10) (by decide +kernel)) (hts (.initialized RX10) (List.mem_cons_of_mem _ kw_2)) (by decide +kernel) ⟨Nat.le_of_ble_eq_true rfl, Nat.le_of_ble_eq_true rfl⟩, (hts (.static yX10_isIn) (List.mem_cons_of_mem _ kw_247)), trivial⟩ (g_preS hP hD hK hS hA hN hZ [] (by decide) rfl [] rfl) rfl rfl hl.1 rfl (lv_room (Nat.le_of_ble_eq_true rfl)) dX7_at_15 ⟨Nat.le_of_ble_eq_true rfl, Nat.le_of_ble_eq_true rfl⟩) hP hD hK hS hA [] [0, 1] rfl rfl (by decide +kernel) (by decide +kernel) (fun r_15 w ty1 H locs hw_15 hP hD _ hS => ?_)
    rcases hw_15 with ⟨hu, hr_15, h_15⟩ | ⟨hu, hr_15, h_15⟩
    · cases hu
      have hP : va_P (dC, dI) vwCl [(h, .inr (7, [.ref b, .int (nI L)])), (b, .inl (cB, 9000, .inl f))] H := hP
      have hD : va_D A [(h, .inr (7, [.ref b, .int (nI L)])), (b, .inl (cB, 9000, .inl f))] := hD
      refine g_topi (y := 1) hr_15 ?_
      refine lv_if_eq (tgt := 34) hx hb dX7_at_18 (by decide) (fun c_18 => absurd c_18 (by decide)) (fun c_18 => ?_)
      refine lv_aload_n hx hb dX7_at_21 rfl (lv_at hl 0 rfl) ?_
      refine va_get (D := (dC, dI)) (ci := 7) (v := .ref b) (C := RX7) (T := TX7) (N := 2) hx hb hts iwX7 hown hK hP 0 rfl rfl 0 (by decide) (hts (.fieldLink RX7 9 "ModulePlayer$Tape" "bytes" "[B") (List.mem_cons_of_mem _ kw_48)) (fun _ h9 => h9) rfl dX7_at_22 ?_
      refine lv_iload_n hx hb dX7_at_25 rfl (lv_at hl 1 rfl) ?_
      refine g_bald hx hb hK hP 1 0 rfl rfl kx (nI_clamp (Nat.lt_trans (show kx < 9000 from by omega) (by decide))) (vp_in_nI (by omega) (by decide)) dX7_at_26 ?_
      refine lv_sipush (v := 255) hx hb dX7_at_27 (by decide) ?_
      refine lv_iand hx hb dX7_at_30 ?_
      refine g_topi (y := nI (by8 f kx)) (by8_e f kx) ?_
      refine lv_goto (tgt := 35) hx hb dX7_at_31 (by decide) ?_
      have hP9 := hP
      have hD9 := hD
      have hK9 := hK.sub (tys' := []) [] rfl
      exact W.iret (v := nI (by8 f kx)) hx hb hr (fun t ht hW => ⟨⟨nI (by8 f kx), _, rfl, ⟨rfl, rfl⟩, by rw [ht]; exact hP9, va_K.moved hW.alike hK9, hD9⟩, hS.F ht⟩) hS.2.2 dX7_at_35
    exact False.elim (h_15 (isin0 (by omega : kx < 9000) (by decide)))
  exact False.elim (h_5 (isin0 hk (by omega)))

set_option maxHeartbeats 400000 in
set_option maxRecDepth 100000 in
theorem x_pair (l : Launch) (dC : Nat → ClassId) (dI : Nat → Nat → Nat) (sz : Nat) (h b : Nat) (cB : ClassId) (f : Nat → Int32) (L : Nat) (kx : Nat) (hL : L ≤ 9000) (hk : kx + 1 < L) : Met l yX7_pairAt (wsG (.code yX7_pairAt cX7_pairAt 2 (some .int))) ({ frames := 2, cells := 0, slots := 0, locals := 42 }) (va_Pc [.ref h, .int (nI kx)] (gP (dC, dI) [(cB, .byte)] [(h, .inr (7, [.ref b, .int (nI L)])), (b, .inl (cB, 9000, .inl f))] sz)) (va_Qi (fun (r : Int32) (u : va_W × gT) => u = ([(h, .inr (7, [.ref b, .int (nI L)])), (b, .inl (cB, 9000, .inl f))], []) ∧ r = nI (256 * by8 f kx + by8 f (kx + 1))) (gB (dC, dI) (va_A [(h, .inr (7, [.ref b, .int (nI L)])), (b, .inl (cB, 9000, .inl f))] sz)) (va_A [(h, .inr (7, [.ref b, .int (nI L)])), (b, .inl (cB, 9000, .inl f))] sz)) 0 0 (va_A [(h, .inr (7, [.ref b, .int (nI L)])), (b, .inl (cB, 9000, .inl f))] sz) := by
  refine Met.ofW (cc := cX7_pairAt) (maxL := 2) (ret := (some .int)) (by decide) rfl ?_
  intro p e s m args below meth c s₁ B hml hv
  obtain ⟨rfl, hsz, hP, hK, hD0, hN, hZ⟩ := hv
  have hx := B.exec
  have hb := B.bytes
  have hr := B.returns
  have hts := atoms_spec (ws := (wsG (.code yX7_pairAt cX7_pairAt 2 (some .int)))) B.pre
  have hown : s.vm.findClass RX7 = some m.cls := findClass_of_methodNamed B.named
  have hlocks := B.notSynchronized
  subst hsz
  have hD := hD0.self (sz := s.heap.size)
  generalize hAe : va_A [(h, .inr (7, [.ref b, .int (nI L)])), (b, .inl (cB, 9000, .inl f))] s.heap.size = A at hD hZ ⊢
  have hA : ∀ q : Nat, s.heap.size ≤ q → A q := fun q h => by rw [← hAe]; exact Or.inr h
  have hl := lv_entry ([.ref h, .int (nI kx)]) (n := 2) (Nat.le_of_ble_eq_true rfl)
  rw [lg_entry_eq]
  generalize (lg_sl ([.ref h, .int (nI kx)]) ++ List.replicate (2 - (lg_sl ([.ref h, .int (nI kx)])).length) Slot.unset).toArray = ls at hl ⊢
  have hl : lv_has ls 2 [(0, .ref h), (1, .int (nI kx))] := hl
  refine g_start (A := A) hP (fun H locs hP hS => ?_)
  refine lv_aload_n hx hb dX7_pairAt_0 rfl (lv_at hl 0 rfl) ?_
  refine lv_iload_n hx hb dX7_pairAt_1 rfl (lv_at hl 1 rfl) ?_
  refine g_calli (wr := []) (va_runV (As := [.int (nI kx)]) (rest := []) ⟨hx, hb, hml, hown, hts⟩ (x_at l dC dI H.size h b cB f L kx (hL) (by omega)) (cwV 1 hts (gG_V kw_313 kw_296 kw_297 kw_18 kw_298) rfl rfl rfl (by decide +kernel) ⟨Nat.le_of_ble_eq_true rfl, Nat.le_of_ble_eq_true rfl⟩) (g_preV (C := RX7) (T := TX7) (N := 2) hP hD hK hS hA hN hZ (q0 := 0) rfl rfl [0, 1] (by decide +kernel) rfl [0] rfl) rfl rfl hl.1 rfl (lv_room (Nat.le_of_ble_eq_true rfl)) dX7_pairAt_2 ⟨Nat.le_of_ble_eq_true rfl, Nat.le_of_ble_eq_true rfl⟩) hP hD hK hS hA [0, 1] [] rfl rfl (by decide +kernel) (by decide +kernel) (fun r_2 w ty1 H locs hw_2 hP hD _ hS => ?_)
  rcases hw_2 with ⟨hu, hr_2⟩
  cases hu
  have hP : va_P (dC, dI) vwCl [(h, .inr (7, [.ref b, .int (nI L)])), (b, .inl (cB, 9000, .inl f))] H := hP
  have hD : va_D A [(h, .inr (7, [.ref b, .int (nI L)])), (b, .inl (cB, 9000, .inl f))] := hD
  refine g_topi (y := nI (by8 f kx)) hr_2 ?_
  refine lv_sipush (v := 256) hx hb dX7_pairAt_5 (by decide) ?_
  refine lv_imul hx hb dX7_pairAt_8 ?_
  refine g_topi (y := nI (256 * by8 f kx)) ((pk_mul _ 256).trans (up_e (Nat.mul_comm _ _))) ?_
  refine lv_aload_n hx hb dX7_pairAt_9 rfl (lv_at hl 0 rfl) ?_
  refine lv_iload_n hx hb dX7_pairAt_10 rfl (lv_at hl 1 rfl) ?_
  refine lv_iconst (v := 1) hx hb dX7_pairAt_11 (by decide) ?_
  refine lv_iadd hx hb dX7_pairAt_12 ?_
  refine g_topi (y := nI (kx + 1)) (nI_1 _) ?_
  refine g_calli (wr := []) (va_runV (As := [.int (nI (kx + 1))]) (rest := [.int (nI (256 * by8 f kx))]) ⟨hx, hb, hml, hown, hts⟩ (x_at l dC dI H.size h b cB f L (kx + 1) (hL) (hk)) (cwV 1 hts (gG_V kw_313 kw_296 kw_297 kw_18 kw_298) rfl rfl rfl (by decide +kernel) ⟨Nat.le_of_ble_eq_true rfl, Nat.le_of_ble_eq_true rfl⟩) (g_preV (C := RX7) (T := TX7) (N := 2) hP hD hK hS hA hN hZ (q0 := 0) rfl rfl [0, 1] (by decide +kernel) rfl [0] rfl) rfl rfl hl.1 rfl (lv_room (Nat.le_of_ble_eq_true rfl)) dX7_pairAt_13 ⟨Nat.le_of_ble_eq_true rfl, Nat.le_of_ble_eq_true rfl⟩) hP hD hK hS hA [0, 1] [] rfl rfl (by decide +kernel) (by decide +kernel) (fun r_13 w ty1 H locs hw_13 hP hD _ hS => ?_)
  rcases hw_13 with ⟨hu, hr_13⟩
  cases hu
  have hP : va_P (dC, dI) vwCl [(h, .inr (7, [.ref b, .int (nI L)])), (b, .inl (cB, 9000, .inl f))] H := hP
  have hD : va_D A [(h, .inr (7, [.ref b, .int (nI L)])), (b, .inl (cB, 9000, .inl f))] := hD
  refine g_topi (y := nI (by8 f (kx + 1))) hr_13 ?_
  refine lv_iadd hx hb dX7_pairAt_16 ?_
  refine g_topi (y := nI (256 * by8 f kx + by8 f (kx + 1))) (nI_add _ _) ?_
  have hP9 := hP
  have hD9 := hD
  have hK9 := hK.sub (tys' := []) [] rfl
  exact W.iret (v := nI (256 * by8 f kx + by8 f (kx + 1))) hx hb hr (fun t ht hW => ⟨⟨nI (256 * by8 f kx + by8 f (kx + 1)), _, rfl, ⟨rfl, rfl⟩, by rw [ht]; exact hP9, va_K.moved hW.alike hK9, hD9⟩, hS.F ht⟩) hS.2.2 dX7_pairAt_17

set_option maxHeartbeats 400000 in
set_option maxRecDepth 100000 in
theorem x_wrongSample (l : Launch) (dC : Nat → ClassId) (dI : Nat → Nat → Nat) (sz : Nat) (ta tb : Nat) (cB : ClassId) (ft : Nat → Int32) (L : Nat) (hL : L ≤ 9000) (hL8 : 1084 ≤ L) : Met l yX4_wrongSample (wsG (.code yX4_wrongSample cX4_wrongSample 7 (some .int))) ({ frames := 3, cells := 0, slots := 0, locals := 63 }) (va_Pc [.ref ta] (gP (dC, dI) [(cB, .byte)] [(ta, .inr (7, [.ref tb, .int (nI L)])), (tb, .inl (cB, 9000, .inl ft))] sz)) (va_Qi (fun (r : Int32) (u : va_W × gT) => u = ([(ta, .inr (7, [.ref tb, .int (nI L)])), (tb, .inl (cB, 9000, .inl ft))], []) ∧ r = wI (hsF ft 31 1 0)) (gB (dC, dI) (va_A [(ta, .inr (7, [.ref tb, .int (nI L)])), (tb, .inl (cB, 9000, .inl ft))] sz)) (va_A [(ta, .inr (7, [.ref tb, .int (nI L)])), (tb, .inl (cB, 9000, .inl ft))] sz)) 0 0 (va_A [(ta, .inr (7, [.ref tb, .int (nI L)])), (tb, .inl (cB, 9000, .inl ft))] sz) := by
  refine Met.ofW (cc := cX4_wrongSample) (maxL := 7) (ret := (some .int)) (by decide) rfl ?_
  intro p e s m args below meth c s₁ B hml hv
  obtain ⟨rfl, hsz, hP, hK, hD0, hN, hZ⟩ := hv
  have hx := B.exec
  have hb := B.bytes
  have hr := B.returns
  have hts := atoms_spec (ws := (wsG (.code yX4_wrongSample cX4_wrongSample 7 (some .int)))) B.pre
  have hown : s.vm.findClass RX4 = some m.cls := findClass_of_methodNamed B.named
  have hlocks := B.notSynchronized
  subst hsz
  have hD := hD0.self (sz := s.heap.size)
  generalize hAe : va_A [(ta, .inr (7, [.ref tb, .int (nI L)])), (tb, .inl (cB, 9000, .inl ft))] s.heap.size = A at hD hZ ⊢
  have hA : ∀ q : Nat, s.heap.size ≤ q → A q := fun q h => by rw [← hAe]; exact Or.inr h
  have hl := lv_entry ([.ref ta]) (n := 7) (Nat.le_of_ble_eq_true rfl)
  rw [lg_entry_eq]
  generalize (lg_sl ([.ref ta]) ++ List.replicate (7 - (lg_sl ([.ref ta])).length) Slot.unset).toArray = ls at hl ⊢
  have hl : lv_has ls 7 [(0, .ref ta)] := hl
  refine g_start (A := A) hP (fun H locs hP hS => ?_)
  refine lv_iconst (v := 0) hx hb dX4_wrongSample_0 (by decide) ?_
  refine lv_istore_n (lv' := [(1, .int 0), (0, .ref ta)]) hx hb dX4_wrongSample_1 rfl hl (by decide) rfl (fun ls hl => ?_)
  refine lv_iconst (v := 1) hx hb dX4_wrongSample_2 (by decide) ?_
  refine lv_istore_n (lv' := [(2, .int 1), (1, .int 0), (0, .ref ta)]) hx hb dX4_wrongSample_3 rfl hl (by decide) rfl (fun ls hl => ?_)
  have LP4 : ∀ (fu4 : Nat) (q4 : Nat) (ah : Nat) (hq4a : 1 ≤ q4) (hq4 : q4 ≤ 32) (hah : ah ≤ 4000) (hhv : hsF ft (32 - q4) q4 ah = hsF ft 31 1 0) (hm4 : 32 - q4 < fu4) (H : Heap) (locs : List Loc), va_P (dC, dI) vwCl [(ta, .inr (7, [.ref tb, .int (nI L)])), (tb, .inl (cB, 9000, .inl ft))] H → va_D A [(ta, .inr (7, [.ref tb, .int (nI L)])), (tb, .inl (cB, 9000, .inl ft))] → va_S A s.heap H locs → ∀ ls : Array Slot, lv_has ls 7 [(2, .int (nI q4)), (1, .int (nI ah)), (0, .ref ta)] → W p l e ({ frames := 3, cells := 0, slots := 0, locals := 63 }) s m ([.ref ta] : List Value).toArray below meth c H locs (0) (0) (MQ below (va_Qi (fun (r : Int32) (u : va_W × gT) => u = ([(ta, .inr (7, [.ref tb, .int (nI L)])), (tb, .inl (cB, 9000, .inl ft))], []) ∧ r = wI (hsF ft 31 1 0)) (gB (dC, dI) A) A) ([.ref ta] : List Value).toArray s 0 0 A) (F0 m 4 ls []) := by
    intro fu4
    induction fu4 with
    | zero => intro q4 ah hq4a hq4 hah hhv hm4; exact absurd hm4 (Nat.not_lt_zero _)
    | succ fu4 ih4 =>
      intro q4 ah hq4a hq4 hah hhv hm4 H locs hP hD hS ls hl
      refine lv_iload_n hx hb dX4_wrongSample_4 rfl (lv_at hl 0 rfl) ?_
      refine lv_bipush (v := 31) hx hb dX4_wrongSample_5 (by decide) ?_
      refine lv_icmp_gt (tgt := 129) hx hb dX4_wrongSample_7 (by decide) (fun c_7 => ?_) (fun c_7 => ?_)
      · refine lv_iconst (v := (-1)) hx hb dX4_wrongSample_129 (by decide) ?_
        have hP9 := hP
        have hD9 := hD
        have hK9 := hK.sub (tys' := []) [] rfl
        exact W.iret (v := (-1)) hx hb hr (fun t ht hW => ⟨⟨(-1), _, rfl, ⟨rfl, wI_0 (by rw [← hhv, show q4 = 32 by have := nI_lt' (a := 31) c_7 (by decide) (by omega); omega]; rfl)⟩, by rw [ht]; exact hP9, va_K.moved hW.alike hK9, hD9⟩, hS.F ht⟩) hS.2.2 dX4_wrongSample_130
      have hq3 : q4 < 32 := by have := nI_nlt2 (a := 31) c_7 (by omega); omega
      have htl := tw2_lt ft (30 * q4 + 12)
      refine lv_iload_n hx hb dX4_wrongSample_10 rfl (lv_at hl 0 rfl) ?_
      refine g_calli (wr := [(ta, .inr (7, [.ref tb, .int (nI L)])), (tb, .inl (cB, 9000, .inl ft))]) (va_runS (As := [.int (nI q4)]) (rest := []) ⟨hx, hb, hml, hown, hts⟩ (c_sampleAt l dC dI H.size q4 (hq4a)) (va_cwS 1 hts (gG_S kw_306 kw_307 kw_30 kw_308) rfl rfl rfl (by decide +kernel) ⟨Nat.le_of_ble_eq_true rfl, Nat.le_of_ble_eq_true rfl⟩) (g_preS hP hD hK hS hA hN hZ [] (by decide) rfl [] rfl) rfl rfl hl.1 rfl (lv_room (Nat.le_of_ble_eq_true rfl)) dX4_wrongSample_11 ⟨Nat.le_of_ble_eq_true rfl, Nat.le_of_ble_eq_true rfl⟩) hP hD hK hS hA [] [0, 1] rfl rfl (by decide +kernel) (by decide +kernel) (fun r_11 w ty1 H locs hw_11 hP hD _ hS => ?_)
      rcases hw_11 with ⟨hu, hr_11⟩
      cases hu
      have hP : va_P (dC, dI) vwCl [(ta, .inr (7, [.ref tb, .int (nI L)])), (tb, .inl (cB, 9000, .inl ft))] H := hP
      have hD : va_D A [(ta, .inr (7, [.ref tb, .int (nI L)])), (tb, .inl (cB, 9000, .inl ft))] := hD
      refine g_topi (y := nI (20 + 30 * (q4 - 1))) hr_11 ?_
      refine lv_istore_n (lv' := [(3, .int (nI (20 + 30 * (q4 - 1)))), (2, .int (nI q4)), (1, .int (nI ah)), (0, .ref ta)]) hx hb dX4_wrongSample_14 rfl hl (by decide) rfl (fun ls hl => ?_)
      refine lv_iconst (v := 2) hx hb dX4_wrongSample_15 (by decide) ?_
      refine lv_aload_n hx hb dX4_wrongSample_16 rfl (lv_at hl 3 rfl) ?_
      refine lv_iload_n hx hb dX4_wrongSample_17 rfl (lv_at hl 0 rfl) ?_
      refine lv_bipush (v := 22) hx hb dX4_wrongSample_18 (by decide) ?_
      refine lv_iadd hx hb dX4_wrongSample_20 ?_
      refine g_topi (y := nI (30 * q4 + 12)) ((nI_add _ 22).trans (up_e (by omega))) ?_
      refine g_calli (wr := []) (va_runV (As := [.int (nI (30 * q4 + 12))]) (rest := [.int 2]) ⟨hx, hb, hml, hown, hts⟩ (x_pair l dC dI H.size ta tb cB ft L (30 * q4 + 12) (hL) (by omega)) (cwV 1 hts (gG_V kw_309 kw_310 kw_311 kw_18 kw_312) rfl rfl rfl (by decide +kernel) ⟨Nat.le_of_ble_eq_true rfl, Nat.le_of_ble_eq_true rfl⟩) (g_preV (C := RX7) (T := TX7) (N := 2) hP hD hK hS hA hN hZ (q0 := 0) rfl rfl [0, 1] (by decide +kernel) rfl [0] rfl) rfl rfl hl.1 rfl (lv_room (Nat.le_of_ble_eq_true rfl)) dX4_wrongSample_21 ⟨Nat.le_of_ble_eq_true rfl, Nat.le_of_ble_eq_true rfl⟩) hP hD hK hS hA [0, 1] [] rfl rfl (by decide +kernel) (by decide +kernel) (fun r_21 w ty1 H locs hw_21 hP hD _ hS => ?_)
      rcases hw_21 with ⟨hu, hr_21⟩
      cases hu
      have hP : va_P (dC, dI) vwCl [(ta, .inr (7, [.ref tb, .int (nI L)])), (tb, .inl (cB, 9000, .inl ft))] H := hP
      have hD : va_D A [(ta, .inr (7, [.ref tb, .int (nI L)])), (tb, .inl (cB, 9000, .inl ft))] := hD
      refine g_topi (y := nI (256 * by8 ft (30 * q4 + 12) + by8 ft ((30 * q4 + 12) + 1))) hr_21 ?_
      refine lv_imul hx hb dX4_wrongSample_24 ?_
      refine g_topi (y := nI (tw2 ft (30 * q4 + 12))) (pk_mul 2 _) ?_
      refine lv_istore (lv' := [(4, .int (nI (tw2 ft (30 * q4 + 12)))), (3, .int (nI (20 + 30 * (q4 - 1)))), (2, .int (nI q4)), (1, .int (nI ah)), (0, .ref ta)]) hx hb dX4_wrongSample_25 hl (by decide) rfl (fun ls hl => ?_)
      refine lv_iload hx hb dX4_wrongSample_27 (lv_at hl 0 rfl) ?_
      refine lv_iload_n hx hb dX4_wrongSample_29 rfl (lv_at hl 3 rfl) ?_
      refine g_calli (wr := [(ta, .inr (7, [.ref tb, .int (nI L)])), (tb, .inl (cB, 9000, .inl ft))]) (va_runS (As := [.int (nI (tw2 ft (30 * q4 + 12))), .int (nI ah)]) (rest := []) ⟨hx, hb, hml, hown, hts⟩ (c_lenFits l dC dI H.size (nI (tw2 ft (30 * q4 + 12))) (nI ah) ) (va_cwS 2 hts (gG_S kw_314 kw_315 kw_22 kw_316) rfl rfl rfl (by decide +kernel) ⟨Nat.le_of_ble_eq_true rfl, Nat.le_of_ble_eq_true rfl⟩) (g_preS hP hD hK hS hA hN hZ [] (by decide) rfl [] rfl) rfl rfl hl.1 rfl (lv_room (Nat.le_of_ble_eq_true rfl)) dX4_wrongSample_30 ⟨Nat.le_of_ble_eq_true rfl, Nat.le_of_ble_eq_true rfl⟩) hP hD hK hS hA [] [0, 1] rfl rfl (by decide +kernel) (by decide +kernel) (fun r_30 w ty1 H locs hw_30 hP hD _ hS => ?_)
      rcases hw_30 with ⟨hu, hr_30, hh_30⟩ | ⟨hu, hr_30, hh_30⟩
      · cases hu
        have hP : va_P (dC, dI) vwCl [(ta, .inr (7, [.ref tb, .int (nI L)])), (tb, .inl (cB, 9000, .inl ft))] H := hP
        have hD : va_D A [(ta, .inr (7, [.ref tb, .int (nI L)])), (tb, .inl (cB, 9000, .inl ft))] := hD
        refine g_topi (y := 1) hr_30 ?_
        refine lv_if_ne (tgt := 41) hx hb dX4_wrongSample_33 (by decide) (fun c_33 => ?_) (fun c_33 => absurd c_33 (by decide))
        refine lv_iload_n hx hb dX4_wrongSample_41 rfl (lv_at hl 3 rfl) ?_
        refine lv_iload hx hb dX4_wrongSample_42 (lv_at hl 0 rfl) ?_
        refine lv_iadd hx hb dX4_wrongSample_44 ?_
        refine g_topi (y := nI (ah + tw2 ft (30 * q4 + 12))) (nI_add _ _) ?_
        refine lv_istore_n (lv' := [(1, .int (nI (ah + tw2 ft (30 * q4 + 12)))), (4, .int (nI (tw2 ft (30 * q4 + 12)))), (3, .int (nI (20 + 30 * (q4 - 1)))), (2, .int (nI q4)), (0, .ref ta)]) hx hb dX4_wrongSample_45 rfl hl (by decide) rfl (fun ls hl => ?_)
        refine lv_aload_n hx hb dX4_wrongSample_46 rfl (lv_at hl 4 rfl) ?_
        refine lv_iload_n hx hb dX4_wrongSample_47 rfl (lv_at hl 2 rfl) ?_
        refine lv_bipush (v := 24) hx hb dX4_wrongSample_48 (by decide) ?_
        refine lv_iadd hx hb dX4_wrongSample_50 ?_
        refine g_topi (y := nI (30 * q4 + 14)) ((nI_add _ 24).trans (up_e (by omega))) ?_
        refine g_calli (wr := []) (va_runV (As := [.int (nI (30 * q4 + 14))]) (rest := []) ⟨hx, hb, hml, hown, hts⟩ (x_at l dC dI H.size ta tb cB ft L (30 * q4 + 14) (hL) (by omega)) (cwV 1 hts (gG_V kw_295 kw_296 kw_297 kw_18 kw_298) rfl rfl rfl (by decide +kernel) ⟨Nat.le_of_ble_eq_true rfl, Nat.le_of_ble_eq_true rfl⟩) (g_preV (C := RX7) (T := TX7) (N := 2) hP hD hK hS hA hN hZ (q0 := 0) rfl rfl [0, 1] (by decide +kernel) rfl [0] rfl) rfl rfl hl.1 rfl (lv_room (Nat.le_of_ble_eq_true rfl)) dX4_wrongSample_51 ⟨Nat.le_of_ble_eq_true rfl, Nat.le_of_ble_eq_true rfl⟩) hP hD hK hS hA [0, 1] [] rfl rfl (by decide +kernel) (by decide +kernel) (fun r_51 w ty1 H locs hw_51 hP hD _ hS => ?_)
        rcases hw_51 with ⟨hu, hr_51⟩
        cases hu
        have hP : va_P (dC, dI) vwCl [(ta, .inr (7, [.ref tb, .int (nI L)])), (tb, .inl (cB, 9000, .inl ft))] H := hP
        have hD : va_D A [(ta, .inr (7, [.ref tb, .int (nI L)])), (tb, .inl (cB, 9000, .inl ft))] := hD
        refine g_topi (y := nI (by8 ft (30 * q4 + 14))) hr_51 ?_
        refine lv_bipush (v := 15) hx hb dX4_wrongSample_54 (by decide) ?_
        refine lv_icmp_le (tgt := 64) hx hb dX4_wrongSample_56 (by decide) (fun c_56 => ?_) (fun c_56 => ?_)
        · refine lv_aload_n hx hb dX4_wrongSample_64 rfl (lv_at hl 4 rfl) ?_
          refine lv_iload_n hx hb dX4_wrongSample_65 rfl (lv_at hl 2 rfl) ?_
          refine lv_bipush (v := 25) hx hb dX4_wrongSample_66 (by decide) ?_
          refine lv_iadd hx hb dX4_wrongSample_68 ?_
          refine g_topi (y := nI (30 * q4 + 15)) ((nI_add _ 25).trans (up_e (by omega))) ?_
          refine g_calli (wr := []) (va_runV (As := [.int (nI (30 * q4 + 15))]) (rest := []) ⟨hx, hb, hml, hown, hts⟩ (x_at l dC dI H.size ta tb cB ft L (30 * q4 + 15) (hL) (by omega)) (cwV 1 hts (gG_V kw_295 kw_296 kw_297 kw_18 kw_298) rfl rfl rfl (by decide +kernel) ⟨Nat.le_of_ble_eq_true rfl, Nat.le_of_ble_eq_true rfl⟩) (g_preV (C := RX7) (T := TX7) (N := 2) hP hD hK hS hA hN hZ (q0 := 0) rfl rfl [0, 1] (by decide +kernel) rfl [0] rfl) rfl rfl hl.1 rfl (lv_room (Nat.le_of_ble_eq_true rfl)) dX4_wrongSample_69 ⟨Nat.le_of_ble_eq_true rfl, Nat.le_of_ble_eq_true rfl⟩) hP hD hK hS hA [0, 1] [] rfl rfl (by decide +kernel) (by decide +kernel) (fun r_69 w ty1 H locs hw_69 hP hD _ hS => ?_)
          rcases hw_69 with ⟨hu, hr_69⟩
          cases hu
          have hP : va_P (dC, dI) vwCl [(ta, .inr (7, [.ref tb, .int (nI L)])), (tb, .inl (cB, 9000, .inl ft))] H := hP
          have hD : va_D A [(ta, .inr (7, [.ref tb, .int (nI L)])), (tb, .inl (cB, 9000, .inl ft))] := hD
          refine g_topi (y := nI (by8 ft (30 * q4 + 15))) hr_69 ?_
          refine lv_bipush (v := 64) hx hb dX4_wrongSample_72 (by decide) ?_
          refine lv_icmp_le (tgt := 82) hx hb dX4_wrongSample_74 (by decide) (fun c_74 => ?_) (fun c_74 => ?_)
          · refine lv_iconst (v := 2) hx hb dX4_wrongSample_82 (by decide) ?_
            refine lv_aload_n hx hb dX4_wrongSample_83 rfl (lv_at hl 4 rfl) ?_
            refine lv_iload_n hx hb dX4_wrongSample_84 rfl (lv_at hl 2 rfl) ?_
            refine lv_bipush (v := 26) hx hb dX4_wrongSample_85 (by decide) ?_
            refine lv_iadd hx hb dX4_wrongSample_87 ?_
            refine g_topi (y := nI (30 * q4 + 16)) ((nI_add _ 26).trans (up_e (by omega))) ?_
            refine g_calli (wr := []) (va_runV (As := [.int (nI (30 * q4 + 16))]) (rest := [.int 2]) ⟨hx, hb, hml, hown, hts⟩ (x_pair l dC dI H.size ta tb cB ft L (30 * q4 + 16) (hL) (by omega)) (cwV 1 hts (gG_V kw_309 kw_310 kw_311 kw_18 kw_312) rfl rfl rfl (by decide +kernel) ⟨Nat.le_of_ble_eq_true rfl, Nat.le_of_ble_eq_true rfl⟩) (g_preV (C := RX7) (T := TX7) (N := 2) hP hD hK hS hA hN hZ (q0 := 0) rfl rfl [0, 1] (by decide +kernel) rfl [0] rfl) rfl rfl hl.1 rfl (lv_room (Nat.le_of_ble_eq_true rfl)) dX4_wrongSample_88 ⟨Nat.le_of_ble_eq_true rfl, Nat.le_of_ble_eq_true rfl⟩) hP hD hK hS hA [0, 1] [] rfl rfl (by decide +kernel) (by decide +kernel) (fun r_88 w ty1 H locs hw_88 hP hD _ hS => ?_)
            rcases hw_88 with ⟨hu, hr_88⟩
            cases hu
            have hP : va_P (dC, dI) vwCl [(ta, .inr (7, [.ref tb, .int (nI L)])), (tb, .inl (cB, 9000, .inl ft))] H := hP
            have hD : va_D A [(ta, .inr (7, [.ref tb, .int (nI L)])), (tb, .inl (cB, 9000, .inl ft))] := hD
            refine g_topi (y := nI (256 * by8 ft (30 * q4 + 16) + by8 ft ((30 * q4 + 16) + 1))) hr_88 ?_
            refine lv_imul hx hb dX4_wrongSample_91 ?_
            refine g_topi (y := nI (tw2 ft (30 * q4 + 16))) (pk_mul 2 _) ?_
            refine lv_istore (lv' := [(5, .int (nI (tw2 ft (30 * q4 + 16)))), (1, .int (nI (ah + tw2 ft (30 * q4 + 12)))), (4, .int (nI (tw2 ft (30 * q4 + 12)))), (3, .int (nI (20 + 30 * (q4 - 1)))), (2, .int (nI q4)), (0, .ref ta)]) hx hb dX4_wrongSample_92 hl (by decide) rfl (fun ls hl => ?_)
            refine lv_iconst (v := 2) hx hb dX4_wrongSample_94 (by decide) ?_
            refine lv_aload_n hx hb dX4_wrongSample_95 rfl (lv_at hl 5 rfl) ?_
            refine lv_iload_n hx hb dX4_wrongSample_96 rfl (lv_at hl 3 rfl) ?_
            refine lv_bipush (v := 28) hx hb dX4_wrongSample_97 (by decide) ?_
            refine lv_iadd hx hb dX4_wrongSample_99 ?_
            refine g_topi (y := nI (30 * q4 + 18)) ((nI_add _ 28).trans (up_e (by omega))) ?_
            refine g_calli (wr := []) (va_runV (As := [.int (nI (30 * q4 + 18))]) (rest := [.int 2]) ⟨hx, hb, hml, hown, hts⟩ (x_pair l dC dI H.size ta tb cB ft L (30 * q4 + 18) (hL) (by omega)) (cwV 1 hts (gG_V kw_309 kw_310 kw_311 kw_18 kw_312) rfl rfl rfl (by decide +kernel) ⟨Nat.le_of_ble_eq_true rfl, Nat.le_of_ble_eq_true rfl⟩) (g_preV (C := RX7) (T := TX7) (N := 2) hP hD hK hS hA hN hZ (q0 := 0) rfl rfl [0, 1] (by decide +kernel) rfl [0] rfl) rfl rfl hl.1 rfl (lv_room (Nat.le_of_ble_eq_true rfl)) dX4_wrongSample_100 ⟨Nat.le_of_ble_eq_true rfl, Nat.le_of_ble_eq_true rfl⟩) hP hD hK hS hA [0, 1] [] rfl rfl (by decide +kernel) (by decide +kernel) (fun r_100 w ty1 H locs hw_100 hP hD _ hS => ?_)
            rcases hw_100 with ⟨hu, hr_100⟩
            cases hu
            have hP : va_P (dC, dI) vwCl [(ta, .inr (7, [.ref tb, .int (nI L)])), (tb, .inl (cB, 9000, .inl ft))] H := hP
            have hD : va_D A [(ta, .inr (7, [.ref tb, .int (nI L)])), (tb, .inl (cB, 9000, .inl ft))] := hD
            refine g_topi (y := nI (256 * by8 ft (30 * q4 + 18) + by8 ft ((30 * q4 + 18) + 1))) hr_100 ?_
            refine lv_imul hx hb dX4_wrongSample_103 ?_
            refine g_topi (y := nI (tw2 ft (30 * q4 + 18))) (pk_mul 2 _) ?_
            refine lv_istore (lv' := [(6, .int (nI (tw2 ft (30 * q4 + 18)))), (5, .int (nI (tw2 ft (30 * q4 + 16)))), (1, .int (nI (ah + tw2 ft (30 * q4 + 12)))), (4, .int (nI (tw2 ft (30 * q4 + 12)))), (3, .int (nI (20 + 30 * (q4 - 1)))), (2, .int (nI q4)), (0, .ref ta)]) hx hb dX4_wrongSample_104 hl (by decide) rfl (fun ls hl => ?_)
            refine lv_iload hx hb dX4_wrongSample_106 (lv_at hl 3 rfl) ?_
            refine lv_iload hx hb dX4_wrongSample_108 (lv_at hl 1 rfl) ?_
            refine lv_iload hx hb dX4_wrongSample_110 (lv_at hl 0 rfl) ?_
            refine g_calli (wr := [(ta, .inr (7, [.ref tb, .int (nI L)])), (tb, .inl (cB, 9000, .inl ft))]) (va_runS (As := [.int (nI (tw2 ft (30 * q4 + 12))), .int (nI (tw2 ft (30 * q4 + 16))), .int (nI (tw2 ft (30 * q4 + 18)))]) (rest := []) ⟨hx, hb, hml, hown, hts⟩ (c_loopFits l dC dI H.size (nI (tw2 ft (30 * q4 + 12))) (nI (tw2 ft (30 * q4 + 16))) (nI (tw2 ft (30 * q4 + 18))) ) (va_cwS 3 hts (gG_S kw_317 kw_318 kw_57 kw_319) rfl rfl rfl (by decide +kernel) ⟨Nat.le_of_ble_eq_true rfl, Nat.le_of_ble_eq_true rfl⟩) (g_preS hP hD hK hS hA hN hZ [] (by decide) rfl [] rfl) rfl rfl hl.1 rfl (lv_room (Nat.le_of_ble_eq_true rfl)) dX4_wrongSample_112 ⟨Nat.le_of_ble_eq_true rfl, Nat.le_of_ble_eq_true rfl⟩) hP hD hK hS hA [] [0, 1] rfl rfl (by decide +kernel) (by decide +kernel) (fun r_112 w ty1 H locs hw_112 hP hD _ hS => ?_)
            rcases hw_112 with ⟨hu, hr_112, hh_112⟩ | ⟨hu, hr_112, hh_112⟩
            · cases hu
              have hP : va_P (dC, dI) vwCl [(ta, .inr (7, [.ref tb, .int (nI L)])), (tb, .inl (cB, 9000, .inl ft))] H := hP
              have hD : va_D A [(ta, .inr (7, [.ref tb, .int (nI L)])), (tb, .inl (cB, 9000, .inl ft))] := hD
              refine g_topi (y := 1) hr_112 ?_
              refine lv_if_ne (tgt := 123) hx hb dX4_wrongSample_115 (by decide) (fun c_115 => ?_) (fun c_115 => absurd c_115 (by decide))
              refine lv_iinc (v := nI (q4 + 1)) (lv' := [(2, .int (nI (q4 + 1))), (6, .int (nI (tw2 ft (30 * q4 + 18)))), (5, .int (nI (tw2 ft (30 * q4 + 16)))), (1, .int (nI (ah + tw2 ft (30 * q4 + 12)))), (4, .int (nI (tw2 ft (30 * q4 + 12)))), (3, .int (nI (20 + 30 * (q4 - 1)))), (0, .ref ta)]) hx hb dX4_wrongSample_123 hl (k := 5) rfl (nI_1 q4) (by decide) rfl (fun ls hl => ?_)
              refine lv_goto (tgt := 4) hx hb dX4_wrongSample_126 (by decide) ?_
              exact ih4 (q4 + 1) (ah + tw2 ft (30 * q4 + 12)) (by omega) (hq3) (by have := (lo_iff htl hah).mp hh_30; omega) (hs_n hhv hq3 (fun qv => by have := (lo_iff htl hah).mp hh_30; omega) (fun qv => by have := nI_le' (b := 15) c_56 (by have := by8_lt ft (30 * q4 + 14); omega) (by decide); omega) (fun qv => by have := nI_le' (b := 64) c_74 (by have := by8_lt ft (30 * q4 + 15); omega) (by decide); omega) (lf_t (tw2_lt ft _) (tw2_lt ft _) (tw2_lt ft _) (tw2_ev ft _) (tw2_ev ft _) hh_112)) (by omega) _ _ hP hD hS _ (lv_sub hl [0, 3, 6] rfl)
            cases hu
            have hP : va_P (dC, dI) vwCl [(ta, .inr (7, [.ref tb, .int (nI L)])), (tb, .inl (cB, 9000, .inl ft))] H := hP
            have hD : va_D A [(ta, .inr (7, [.ref tb, .int (nI L)])), (tb, .inl (cB, 9000, .inl ft))] := hD
            refine g_topi (y := 0) hr_112 ?_
            refine lv_if_ne (tgt := 123) hx hb dX4_wrongSample_115 (by decide) (fun c_115 => absurd c_115 (by decide)) (fun c_115 => ?_)
            refine lv_iload_n hx hb dX4_wrongSample_118 rfl (lv_at hl 4 rfl) ?_
            refine lv_bipush (v := 26) hx hb dX4_wrongSample_119 (by decide) ?_
            refine lv_iadd hx hb dX4_wrongSample_121 ?_
            refine g_topi (y := nI (30 * q4 + 16)) ((nI_add _ 26).trans (up_e (by omega))) ?_
            have hP9 := hP
            have hD9 := hD
            have hK9 := hK.sub (tys' := []) [] rfl
            exact W.iret (v := nI (30 * q4 + 16)) hx hb hr (fun t ht hW => ⟨⟨nI (30 * q4 + 16), _, rfl, ⟨rfl, wI_p (hs_d hhv hq3 (fun qv => by have := (lo_iff htl hah).mp hh_30; omega) (fun qv => by have := nI_le' (b := 15) c_56 (by have := by8_lt ft (30 * q4 + 14); omega) (by decide); omega) (fun qv => by have := nI_le' (b := 64) c_74 (by have := by8_lt ft (30 * q4 + 15); omega) (by decide); omega) (lf_f (tw2_lt ft _) (tw2_lt ft _) (tw2_lt ft _) (tw2_ev ft _) (tw2_ev ft _) hh_112)) (by omega)⟩, by rw [ht]; exact hP9, va_K.moved hW.alike hK9, hD9⟩, hS.F ht⟩) hS.2.2 dX4_wrongSample_122
          refine lv_iload_n hx hb dX4_wrongSample_77 rfl (lv_at hl 2 rfl) ?_
          refine lv_bipush (v := 25) hx hb dX4_wrongSample_78 (by decide) ?_
          refine lv_iadd hx hb dX4_wrongSample_80 ?_
          refine g_topi (y := nI (30 * q4 + 15)) ((nI_add _ 25).trans (up_e (by omega))) ?_
          have hP9 := hP
          have hD9 := hD
          have hK9 := hK.sub (tys' := []) [] rfl
          exact W.iret (v := nI (30 * q4 + 15)) hx hb hr (fun t ht hW => ⟨⟨nI (30 * q4 + 15), _, rfl, ⟨rfl, wI_p (hs_c hhv hq3 (fun qv => by have := (lo_iff htl hah).mp hh_30; omega) (fun qv => by have := nI_le' (b := 15) c_56 (by have := by8_lt ft (30 * q4 + 14); omega) (by decide); omega) (nI_nle' (b := 64) c_74 (by decide))) (by omega)⟩, by rw [ht]; exact hP9, va_K.moved hW.alike hK9, hD9⟩, hS.F ht⟩) hS.2.2 dX4_wrongSample_81
        refine lv_iload_n hx hb dX4_wrongSample_59 rfl (lv_at hl 2 rfl) ?_
        refine lv_bipush (v := 24) hx hb dX4_wrongSample_60 (by decide) ?_
        refine lv_iadd hx hb dX4_wrongSample_62 ?_
        refine g_topi (y := nI (30 * q4 + 14)) ((nI_add _ 24).trans (up_e (by omega))) ?_
        have hP9 := hP
        have hD9 := hD
        have hK9 := hK.sub (tys' := []) [] rfl
        exact W.iret (v := nI (30 * q4 + 14)) hx hb hr (fun t ht hW => ⟨⟨nI (30 * q4 + 14), _, rfl, ⟨rfl, wI_p (hs_b hhv hq3 (fun qv => by have := (lo_iff htl hah).mp hh_30; omega) (nI_nle' (b := 15) c_56 (by decide))) (by omega)⟩, by rw [ht]; exact hP9, va_K.moved hW.alike hK9, hD9⟩, hS.F ht⟩) hS.2.2 dX4_wrongSample_63
      cases hu
      have hP : va_P (dC, dI) vwCl [(ta, .inr (7, [.ref tb, .int (nI L)])), (tb, .inl (cB, 9000, .inl ft))] H := hP
      have hD : va_D A [(ta, .inr (7, [.ref tb, .int (nI L)])), (tb, .inl (cB, 9000, .inl ft))] := hD
      refine g_topi (y := 0) hr_30 ?_
      refine lv_if_ne (tgt := 41) hx hb dX4_wrongSample_33 (by decide) (fun c_33 => absurd c_33 (by decide)) (fun c_33 => ?_)
      refine lv_iload_n hx hb dX4_wrongSample_36 rfl (lv_at hl 1 rfl) ?_
      refine lv_bipush (v := 22) hx hb dX4_wrongSample_37 (by decide) ?_
      refine lv_iadd hx hb dX4_wrongSample_39 ?_
      refine g_topi (y := nI (30 * q4 + 12)) ((nI_add _ 22).trans (up_e (by omega))) ?_
      have hP9 := hP
      have hD9 := hD
      have hK9 := hK.sub (tys' := []) [] rfl
      exact W.iret (v := nI (30 * q4 + 12)) hx hb hr (fun t ht hW => ⟨⟨nI (30 * q4 + 12), _, rfl, ⟨rfl, wI_p (hs_a hhv hq3 (lo_f htl hah (tw2_ev ft _) hh_30)) (by omega)⟩, by rw [ht]; exact hP9, va_K.moved hW.alike hK9, hD9⟩, hS.F ht⟩) hS.2.2 dX4_wrongSample_40
  exact LP4 _ 1 0 (by decide) (by decide) (Nat.zero_le _) (rfl) (Nat.lt_succ_self _) _ _ hP hD hS _ (lv_sub hl [0, 1, 2] rfl)

set_option maxHeartbeats 400000 in
set_option maxRecDepth 100000 in
theorem x_wrongMark (l : Launch) (dC : Nat → ClassId) (dI : Nat → Nat → Nat) (sz : Nat) (ta tb : Nat) (cB : ClassId) (ft : Nat → Int32) (L : Nat) (hL : L ≤ 9000) (hL8 : 1084 ≤ L) : Met l yX4_wrongMark (wsG (.code yX4_wrongMark cX4_wrongMark 2 (some .int))) ({ frames := 2, cells := 0, slots := 0, locals := 42 }) (va_Pc [.ref ta] (gP (dC, dI) [(cB, .byte)] [(ta, .inr (7, [.ref tb, .int (nI L)])), (tb, .inl (cB, 9000, .inl ft))] sz)) (va_Qi (fun (r : Int32) (u : va_W × gT) => u = ([(ta, .inr (7, [.ref tb, .int (nI L)])), (tb, .inl (cB, 9000, .inl ft))], []) ∧ r = wI (mkF ft)) (gB (dC, dI) (va_A [(ta, .inr (7, [.ref tb, .int (nI L)])), (tb, .inl (cB, 9000, .inl ft))] sz)) (va_A [(ta, .inr (7, [.ref tb, .int (nI L)])), (tb, .inl (cB, 9000, .inl ft))] sz)) 0 0 (va_A [(ta, .inr (7, [.ref tb, .int (nI L)])), (tb, .inl (cB, 9000, .inl ft))] sz) := by
  refine Met.ofW (cc := cX4_wrongMark) (maxL := 2) (ret := (some .int)) (by decide) rfl ?_
  intro p e s m args below meth c s₁ B hml hv
  obtain ⟨rfl, hsz, hP, hK, hD0, hN, hZ⟩ := hv
  have hx := B.exec
  have hb := B.bytes
  have hr := B.returns
  have hts := atoms_spec (ws := (wsG (.code yX4_wrongMark cX4_wrongMark 2 (some .int)))) B.pre
  have hown : s.vm.findClass RX4 = some m.cls := findClass_of_methodNamed B.named
  have hlocks := B.notSynchronized
  subst hsz
  have hD := hD0.self (sz := s.heap.size)
  generalize hAe : va_A [(ta, .inr (7, [.ref tb, .int (nI L)])), (tb, .inl (cB, 9000, .inl ft))] s.heap.size = A at hD hZ ⊢
  have hA : ∀ q : Nat, s.heap.size ≤ q → A q := fun q h => by rw [← hAe]; exact Or.inr h
  have hl := lv_entry ([.ref ta]) (n := 2) (Nat.le_of_ble_eq_true rfl)
  rw [lg_entry_eq]
  generalize (lg_sl ([.ref ta]) ++ List.replicate (2 - (lg_sl ([.ref ta])).length) Slot.unset).toArray = ls at hl ⊢
  have hl : lv_has ls 2 [(0, .ref ta)] := hl
  refine g_start (A := A) hP (fun H locs hP hS => ?_)
  refine lv_iconst (v := 0) hx hb dX4_wrongMark_0 (by decide) ?_
  refine lv_istore_n (lv' := [(1, .int 0), (0, .ref ta)]) hx hb dX4_wrongMark_1 rfl hl (by decide) rfl (fun ls hl => ?_)
  refine lv_iload_n hx hb dX4_wrongMark_2 rfl (lv_at hl 0 rfl) ?_
  refine lv_iconst (v := 4) hx hb dX4_wrongMark_3 (by decide) ?_
  refine lv_icmp_ge (tgt := 35) hx hb dX4_wrongMark_4 (by decide) (fun c_4 => absurd c_4 (by decide)) (fun c_4 => ?_)
  refine lv_aload_n hx hb dX4_wrongMark_7 rfl (lv_at hl 1 rfl) ?_
  refine lv_sipush (v := 1080) hx hb dX4_wrongMark_8 (by decide) ?_
  refine lv_iload_n hx hb dX4_wrongMark_11 rfl (lv_at hl 0 rfl) ?_
  refine lv_iadd hx hb dX4_wrongMark_12 ?_
  refine g_topi (y := 1080) (by decide) ?_
  refine g_calli (wr := []) (va_runV (As := [.int 1080]) (rest := []) ⟨hx, hb, hml, hown, hts⟩ (x_at l dC dI H.size ta tb cB ft L 1080 (hL) (by omega)) (cwV 1 hts (gG_V kw_295 kw_296 kw_297 kw_18 kw_298) rfl rfl rfl (by decide +kernel) ⟨Nat.le_of_ble_eq_true rfl, Nat.le_of_ble_eq_true rfl⟩) (g_preV (C := RX7) (T := TX7) (N := 2) hP hD hK hS hA hN hZ (q0 := 0) rfl rfl [0, 1] (by decide +kernel) rfl [0] rfl) rfl rfl hl.1 rfl (lv_room (Nat.le_of_ble_eq_true rfl)) dX4_wrongMark_13 ⟨Nat.le_of_ble_eq_true rfl, Nat.le_of_ble_eq_true rfl⟩) hP hD hK hS hA [0, 1] [] rfl rfl (by decide +kernel) (by decide +kernel) (fun r_13 w ty1 H locs hw_13 hP hD _ hS => ?_)
  rcases hw_13 with ⟨hu, hr_13⟩
  cases hu
  have hP : va_P (dC, dI) vwCl [(ta, .inr (7, [.ref tb, .int (nI L)])), (tb, .inl (cB, 9000, .inl ft))] H := hP
  have hD : va_D A [(ta, .inr (7, [.ref tb, .int (nI L)])), (tb, .inl (cB, 9000, .inl ft))] := hD
  refine g_topi (y := nI (by8 ft 1080)) hr_13 ?_
  refine lv_iload_n hx hb dX4_wrongMark_16 rfl (lv_at hl 0 rfl) ?_
  refine g_calli (wr := [(ta, .inr (7, [.ref tb, .int (nI L)])), (tb, .inl (cB, 9000, .inl ft))]) (va_runS (As := [.int 0]) (rest := [.int (nI (by8 ft 1080))]) ⟨hx, hb, hml, hown, hts⟩ (c_mark l dC dI H.size 0 (by decide)) (va_cwS 1 hts (gG_S kw_299 kw_300 kw_30 kw_301) rfl rfl rfl (by decide +kernel) ⟨Nat.le_of_ble_eq_true rfl, Nat.le_of_ble_eq_true rfl⟩) (g_preS hP hD hK hS hA hN hZ [] (by decide) rfl [] rfl) rfl rfl hl.1 rfl (lv_room (Nat.le_of_ble_eq_true rfl)) dX4_wrongMark_17 ⟨Nat.le_of_ble_eq_true rfl, Nat.le_of_ble_eq_true rfl⟩) hP hD hK hS hA [] [0, 1] rfl rfl (by decide +kernel) (by decide +kernel) (fun r_17 w ty1 H locs hw_17 hP hD _ hS => ?_)
  rcases hw_17 with ⟨hu, hr_17⟩
  cases hu
  have hP : va_P (dC, dI) vwCl [(ta, .inr (7, [.ref tb, .int (nI L)])), (tb, .inl (cB, 9000, .inl ft))] H := hP
  have hD : va_D A [(ta, .inr (7, [.ref tb, .int (nI L)])), (tb, .inl (cB, 9000, .inl ft))] := hD
  refine g_topi (y := mkv 0) hr_17 ?_
  refine lv_icmp_eq (tgt := 29) hx hb dX4_wrongMark_20 (by decide) (fun c_20 => ?_) (fun c_20 => ?_)
  · refine lv_iinc (v := 1) (lv' := [(1, .int 1), (0, .ref ta)]) hx hb dX4_wrongMark_29 hl (k := 0) rfl (by decide) (by decide) rfl (fun ls hl => ?_)
    refine lv_goto (tgt := 2) hx hb dX4_wrongMark_32 (by decide) ?_
    refine lv_iload_n hx hb dX4_wrongMark_2 rfl (lv_at hl 0 rfl) ?_
    refine lv_iconst (v := 4) hx hb dX4_wrongMark_3 (by decide) ?_
    refine lv_icmp_ge (tgt := 35) hx hb dX4_wrongMark_4 (by decide) (fun c_4_2 => absurd c_4_2 (by decide)) (fun c_4_2 => ?_)
    refine lv_aload_n hx hb dX4_wrongMark_7 rfl (lv_at hl 1 rfl) ?_
    refine lv_sipush (v := 1080) hx hb dX4_wrongMark_8 (by decide) ?_
    refine lv_iload_n hx hb dX4_wrongMark_11 rfl (lv_at hl 0 rfl) ?_
    refine lv_iadd hx hb dX4_wrongMark_12 ?_
    refine g_topi (y := 1081) (by decide) ?_
    refine g_calli (wr := []) (va_runV (As := [.int 1081]) (rest := []) ⟨hx, hb, hml, hown, hts⟩ (x_at l dC dI H.size ta tb cB ft L 1081 (hL) (by omega)) (cwV 1 hts (gG_V kw_295 kw_296 kw_297 kw_18 kw_298) rfl rfl rfl (by decide +kernel) ⟨Nat.le_of_ble_eq_true rfl, Nat.le_of_ble_eq_true rfl⟩) (g_preV (C := RX7) (T := TX7) (N := 2) hP hD hK hS hA hN hZ (q0 := 0) rfl rfl [0, 1] (by decide +kernel) rfl [0] rfl) rfl rfl hl.1 rfl (lv_room (Nat.le_of_ble_eq_true rfl)) dX4_wrongMark_13 ⟨Nat.le_of_ble_eq_true rfl, Nat.le_of_ble_eq_true rfl⟩) hP hD hK hS hA [0, 1] [] rfl rfl (by decide +kernel) (by decide +kernel) (fun r_13_2 w ty1 H locs hw_13 hP hD _ hS => ?_)
    rcases hw_13 with ⟨hu, hr_13⟩
    cases hu
    have hP : va_P (dC, dI) vwCl [(ta, .inr (7, [.ref tb, .int (nI L)])), (tb, .inl (cB, 9000, .inl ft))] H := hP
    have hD : va_D A [(ta, .inr (7, [.ref tb, .int (nI L)])), (tb, .inl (cB, 9000, .inl ft))] := hD
    refine g_topi (y := nI (by8 ft 1081)) hr_13 ?_
    refine lv_iload_n hx hb dX4_wrongMark_16 rfl (lv_at hl 0 rfl) ?_
    refine g_calli (wr := [(ta, .inr (7, [.ref tb, .int (nI L)])), (tb, .inl (cB, 9000, .inl ft))]) (va_runS (As := [.int 1]) (rest := [.int (nI (by8 ft 1081))]) ⟨hx, hb, hml, hown, hts⟩ (c_mark l dC dI H.size 1 (by decide)) (va_cwS 1 hts (gG_S kw_299 kw_300 kw_30 kw_301) rfl rfl rfl (by decide +kernel) ⟨Nat.le_of_ble_eq_true rfl, Nat.le_of_ble_eq_true rfl⟩) (g_preS hP hD hK hS hA hN hZ [] (by decide) rfl [] rfl) rfl rfl hl.1 rfl (lv_room (Nat.le_of_ble_eq_true rfl)) dX4_wrongMark_17 ⟨Nat.le_of_ble_eq_true rfl, Nat.le_of_ble_eq_true rfl⟩) hP hD hK hS hA [] [0, 1] rfl rfl (by decide +kernel) (by decide +kernel) (fun r_17_2 w ty1 H locs hw_17 hP hD _ hS => ?_)
    rcases hw_17 with ⟨hu, hr_17⟩
    cases hu
    have hP : va_P (dC, dI) vwCl [(ta, .inr (7, [.ref tb, .int (nI L)])), (tb, .inl (cB, 9000, .inl ft))] H := hP
    have hD : va_D A [(ta, .inr (7, [.ref tb, .int (nI L)])), (tb, .inl (cB, 9000, .inl ft))] := hD
    refine g_topi (y := mkv 1) hr_17 ?_
    refine lv_icmp_eq (tgt := 29) hx hb dX4_wrongMark_20 (by decide) (fun c_20_2 => ?_) (fun c_20_2 => ?_)
    · refine lv_iinc (v := 2) (lv' := [(1, .int 2), (0, .ref ta)]) hx hb dX4_wrongMark_29 hl (k := 0) rfl (by decide) (by decide) rfl (fun ls hl => ?_)
      refine lv_goto (tgt := 2) hx hb dX4_wrongMark_32 (by decide) ?_
      refine lv_iload_n hx hb dX4_wrongMark_2 rfl (lv_at hl 0 rfl) ?_
      refine lv_iconst (v := 4) hx hb dX4_wrongMark_3 (by decide) ?_
      refine lv_icmp_ge (tgt := 35) hx hb dX4_wrongMark_4 (by decide) (fun c_4_3 => absurd c_4_3 (by decide)) (fun c_4_3 => ?_)
      refine lv_aload_n hx hb dX4_wrongMark_7 rfl (lv_at hl 1 rfl) ?_
      refine lv_sipush (v := 1080) hx hb dX4_wrongMark_8 (by decide) ?_
      refine lv_iload_n hx hb dX4_wrongMark_11 rfl (lv_at hl 0 rfl) ?_
      refine lv_iadd hx hb dX4_wrongMark_12 ?_
      refine g_topi (y := 1082) (by decide) ?_
      refine g_calli (wr := []) (va_runV (As := [.int 1082]) (rest := []) ⟨hx, hb, hml, hown, hts⟩ (x_at l dC dI H.size ta tb cB ft L 1082 (hL) (by omega)) (cwV 1 hts (gG_V kw_295 kw_296 kw_297 kw_18 kw_298) rfl rfl rfl (by decide +kernel) ⟨Nat.le_of_ble_eq_true rfl, Nat.le_of_ble_eq_true rfl⟩) (g_preV (C := RX7) (T := TX7) (N := 2) hP hD hK hS hA hN hZ (q0 := 0) rfl rfl [0, 1] (by decide +kernel) rfl [0] rfl) rfl rfl hl.1 rfl (lv_room (Nat.le_of_ble_eq_true rfl)) dX4_wrongMark_13 ⟨Nat.le_of_ble_eq_true rfl, Nat.le_of_ble_eq_true rfl⟩) hP hD hK hS hA [0, 1] [] rfl rfl (by decide +kernel) (by decide +kernel) (fun r_13_3 w ty1 H locs hw_13 hP hD _ hS => ?_)
      rcases hw_13 with ⟨hu, hr_13⟩
      cases hu
      have hP : va_P (dC, dI) vwCl [(ta, .inr (7, [.ref tb, .int (nI L)])), (tb, .inl (cB, 9000, .inl ft))] H := hP
      have hD : va_D A [(ta, .inr (7, [.ref tb, .int (nI L)])), (tb, .inl (cB, 9000, .inl ft))] := hD
      refine g_topi (y := nI (by8 ft 1082)) hr_13 ?_
      refine lv_iload_n hx hb dX4_wrongMark_16 rfl (lv_at hl 0 rfl) ?_
      refine g_calli (wr := [(ta, .inr (7, [.ref tb, .int (nI L)])), (tb, .inl (cB, 9000, .inl ft))]) (va_runS (As := [.int 2]) (rest := [.int (nI (by8 ft 1082))]) ⟨hx, hb, hml, hown, hts⟩ (c_mark l dC dI H.size 2 (by decide)) (va_cwS 1 hts (gG_S kw_299 kw_300 kw_30 kw_301) rfl rfl rfl (by decide +kernel) ⟨Nat.le_of_ble_eq_true rfl, Nat.le_of_ble_eq_true rfl⟩) (g_preS hP hD hK hS hA hN hZ [] (by decide) rfl [] rfl) rfl rfl hl.1 rfl (lv_room (Nat.le_of_ble_eq_true rfl)) dX4_wrongMark_17 ⟨Nat.le_of_ble_eq_true rfl, Nat.le_of_ble_eq_true rfl⟩) hP hD hK hS hA [] [0, 1] rfl rfl (by decide +kernel) (by decide +kernel) (fun r_17_3 w ty1 H locs hw_17 hP hD _ hS => ?_)
      rcases hw_17 with ⟨hu, hr_17⟩
      cases hu
      have hP : va_P (dC, dI) vwCl [(ta, .inr (7, [.ref tb, .int (nI L)])), (tb, .inl (cB, 9000, .inl ft))] H := hP
      have hD : va_D A [(ta, .inr (7, [.ref tb, .int (nI L)])), (tb, .inl (cB, 9000, .inl ft))] := hD
      refine g_topi (y := mkv 2) hr_17 ?_
      refine lv_icmp_eq (tgt := 29) hx hb dX4_wrongMark_20 (by decide) (fun c_20_3 => ?_) (fun c_20_3 => ?_)
      · refine lv_iinc (v := 3) (lv' := [(1, .int 3), (0, .ref ta)]) hx hb dX4_wrongMark_29 hl (k := 0) rfl (by decide) (by decide) rfl (fun ls hl => ?_)
        refine lv_goto (tgt := 2) hx hb dX4_wrongMark_32 (by decide) ?_
        refine lv_iload_n hx hb dX4_wrongMark_2 rfl (lv_at hl 0 rfl) ?_
        refine lv_iconst (v := 4) hx hb dX4_wrongMark_3 (by decide) ?_
        refine lv_icmp_ge (tgt := 35) hx hb dX4_wrongMark_4 (by decide) (fun c_4_4 => absurd c_4_4 (by decide)) (fun c_4_4 => ?_)
        refine lv_aload_n hx hb dX4_wrongMark_7 rfl (lv_at hl 1 rfl) ?_
        refine lv_sipush (v := 1080) hx hb dX4_wrongMark_8 (by decide) ?_
        refine lv_iload_n hx hb dX4_wrongMark_11 rfl (lv_at hl 0 rfl) ?_
        refine lv_iadd hx hb dX4_wrongMark_12 ?_
        refine g_topi (y := 1083) (by decide) ?_
        refine g_calli (wr := []) (va_runV (As := [.int 1083]) (rest := []) ⟨hx, hb, hml, hown, hts⟩ (x_at l dC dI H.size ta tb cB ft L 1083 (hL) (by omega)) (cwV 1 hts (gG_V kw_295 kw_296 kw_297 kw_18 kw_298) rfl rfl rfl (by decide +kernel) ⟨Nat.le_of_ble_eq_true rfl, Nat.le_of_ble_eq_true rfl⟩) (g_preV (C := RX7) (T := TX7) (N := 2) hP hD hK hS hA hN hZ (q0 := 0) rfl rfl [0, 1] (by decide +kernel) rfl [0] rfl) rfl rfl hl.1 rfl (lv_room (Nat.le_of_ble_eq_true rfl)) dX4_wrongMark_13 ⟨Nat.le_of_ble_eq_true rfl, Nat.le_of_ble_eq_true rfl⟩) hP hD hK hS hA [0, 1] [] rfl rfl (by decide +kernel) (by decide +kernel) (fun r_13_4 w ty1 H locs hw_13 hP hD _ hS => ?_)
        rcases hw_13 with ⟨hu, hr_13⟩
        cases hu
        have hP : va_P (dC, dI) vwCl [(ta, .inr (7, [.ref tb, .int (nI L)])), (tb, .inl (cB, 9000, .inl ft))] H := hP
        have hD : va_D A [(ta, .inr (7, [.ref tb, .int (nI L)])), (tb, .inl (cB, 9000, .inl ft))] := hD
        refine g_topi (y := nI (by8 ft 1083)) hr_13 ?_
        refine lv_iload_n hx hb dX4_wrongMark_16 rfl (lv_at hl 0 rfl) ?_
        refine g_calli (wr := [(ta, .inr (7, [.ref tb, .int (nI L)])), (tb, .inl (cB, 9000, .inl ft))]) (va_runS (As := [.int 3]) (rest := [.int (nI (by8 ft 1083))]) ⟨hx, hb, hml, hown, hts⟩ (c_mark l dC dI H.size 3 (by decide)) (va_cwS 1 hts (gG_S kw_299 kw_300 kw_30 kw_301) rfl rfl rfl (by decide +kernel) ⟨Nat.le_of_ble_eq_true rfl, Nat.le_of_ble_eq_true rfl⟩) (g_preS hP hD hK hS hA hN hZ [] (by decide) rfl [] rfl) rfl rfl hl.1 rfl (lv_room (Nat.le_of_ble_eq_true rfl)) dX4_wrongMark_17 ⟨Nat.le_of_ble_eq_true rfl, Nat.le_of_ble_eq_true rfl⟩) hP hD hK hS hA [] [0, 1] rfl rfl (by decide +kernel) (by decide +kernel) (fun r_17_4 w ty1 H locs hw_17 hP hD _ hS => ?_)
        rcases hw_17 with ⟨hu, hr_17⟩
        cases hu
        have hP : va_P (dC, dI) vwCl [(ta, .inr (7, [.ref tb, .int (nI L)])), (tb, .inl (cB, 9000, .inl ft))] H := hP
        have hD : va_D A [(ta, .inr (7, [.ref tb, .int (nI L)])), (tb, .inl (cB, 9000, .inl ft))] := hD
        refine g_topi (y := mkv 3) hr_17 ?_
        refine lv_icmp_eq (tgt := 29) hx hb dX4_wrongMark_20 (by decide) (fun c_20_4 => ?_) (fun c_20_4 => ?_)
        · refine lv_iinc (v := 4) (lv' := [(1, .int 4), (0, .ref ta)]) hx hb dX4_wrongMark_29 hl (k := 0) rfl (by decide) (by decide) rfl (fun ls hl => ?_)
          refine lv_goto (tgt := 2) hx hb dX4_wrongMark_32 (by decide) ?_
          refine lv_iload_n hx hb dX4_wrongMark_2 rfl (lv_at hl 0 rfl) ?_
          refine lv_iconst (v := 4) hx hb dX4_wrongMark_3 (by decide) ?_
          refine lv_icmp_ge (tgt := 35) hx hb dX4_wrongMark_4 (by decide) (fun c_4_5 => ?_) (fun c_4_5 => absurd c_4_5 (by decide))
          refine lv_iconst (v := (-1)) hx hb dX4_wrongMark_35 (by decide) ?_
          have hP9 := hP
          have hD9 := hD
          have hK9 := hK.sub (tys' := []) [] rfl
          exact W.iret (v := (-1)) hx hb hr (fun t ht hW => ⟨⟨(-1), _, rfl, ⟨rfl, wI_0 (mk_4 c_20 c_20_2 c_20_3 c_20_4)⟩, by rw [ht]; exact hP9, va_K.moved hW.alike hK9, hD9⟩, hS.F ht⟩) hS.2.2 dX4_wrongMark_36
        refine lv_sipush (v := 1080) hx hb dX4_wrongMark_23 (by decide) ?_
        refine lv_iload_n hx hb dX4_wrongMark_26 rfl (lv_at hl 0 rfl) ?_
        refine lv_iadd hx hb dX4_wrongMark_27 ?_
        refine g_topi (y := 1083) (by decide) ?_
        have hP9 := hP
        have hD9 := hD
        have hK9 := hK.sub (tys' := []) [] rfl
        exact W.iret (v := 1083) hx hb hr (fun t ht hW => ⟨⟨1083, _, rfl, ⟨rfl, wI_p (kx := 1083) (mk_3 c_20 c_20_2 c_20_3 c_20_4) (by decide)⟩, by rw [ht]; exact hP9, va_K.moved hW.alike hK9, hD9⟩, hS.F ht⟩) hS.2.2 dX4_wrongMark_28
      refine lv_sipush (v := 1080) hx hb dX4_wrongMark_23 (by decide) ?_
      refine lv_iload_n hx hb dX4_wrongMark_26 rfl (lv_at hl 0 rfl) ?_
      refine lv_iadd hx hb dX4_wrongMark_27 ?_
      refine g_topi (y := 1082) (by decide) ?_
      have hP9 := hP
      have hD9 := hD
      have hK9 := hK.sub (tys' := []) [] rfl
      exact W.iret (v := 1082) hx hb hr (fun t ht hW => ⟨⟨1082, _, rfl, ⟨rfl, wI_p (kx := 1082) (mk_2 c_20 c_20_2 c_20_3) (by decide)⟩, by rw [ht]; exact hP9, va_K.moved hW.alike hK9, hD9⟩, hS.F ht⟩) hS.2.2 dX4_wrongMark_28
    refine lv_sipush (v := 1080) hx hb dX4_wrongMark_23 (by decide) ?_
    refine lv_iload_n hx hb dX4_wrongMark_26 rfl (lv_at hl 0 rfl) ?_
    refine lv_iadd hx hb dX4_wrongMark_27 ?_
    refine g_topi (y := 1081) (by decide) ?_
    have hP9 := hP
    have hD9 := hD
    have hK9 := hK.sub (tys' := []) [] rfl
    exact W.iret (v := 1081) hx hb hr (fun t ht hW => ⟨⟨1081, _, rfl, ⟨rfl, wI_p (kx := 1081) (mk_1 c_20 c_20_2) (by decide)⟩, by rw [ht]; exact hP9, va_K.moved hW.alike hK9, hD9⟩, hS.F ht⟩) hS.2.2 dX4_wrongMark_28
  refine lv_sipush (v := 1080) hx hb dX4_wrongMark_23 (by decide) ?_
  refine lv_iload_n hx hb dX4_wrongMark_26 rfl (lv_at hl 0 rfl) ?_
  refine lv_iadd hx hb dX4_wrongMark_27 ?_
  refine g_topi (y := 1080) (by decide) ?_
  have hP9 := hP
  have hD9 := hD
  have hK9 := hK.sub (tys' := []) [] rfl
  exact W.iret (v := 1080) hx hb hr (fun t ht hW => ⟨⟨1080, _, rfl, ⟨rfl, wI_p (kx := 1080) (mk_0 c_20) (by decide)⟩, by rw [ht]; exact hP9, va_K.moved hW.alike hK9, hD9⟩, hS.F ht⟩) hS.2.2 dX4_wrongMark_28

set_option maxHeartbeats 400000 in
set_option maxRecDepth 100000 in
theorem x_wrongSong (l : Launch) (dC : Nat → ClassId) (dI : Nat → Nat → Nat) (sz : Nat) (ta tb : Nat) (cB : ClassId) (ft : Nat → Int32) (L : Nat) (hL : L ≤ 9000) (hL8 : 1084 ≤ L) : Met l yX4_wrongSong (wsG (.code yX4_wrongSong cX4_wrongSong 3 (some .int))) ({ frames := 2, cells := 0, slots := 0, locals := 42 }) (va_Pc [.ref ta] (gP (dC, dI) [(cB, .byte)] [(ta, .inr (7, [.ref tb, .int (nI L)])), (tb, .inl (cB, 9000, .inl ft))] sz)) (va_Qi (fun (r : Int32) (u : va_W × gT) => u = ([(ta, .inr (7, [.ref tb, .int (nI L)])), (tb, .inl (cB, 9000, .inl ft))], []) ∧ r = wI (sgG ft)) (gB (dC, dI) (va_A [(ta, .inr (7, [.ref tb, .int (nI L)])), (tb, .inl (cB, 9000, .inl ft))] sz)) (va_A [(ta, .inr (7, [.ref tb, .int (nI L)])), (tb, .inl (cB, 9000, .inl ft))] sz)) 0 0 (va_A [(ta, .inr (7, [.ref tb, .int (nI L)])), (tb, .inl (cB, 9000, .inl ft))] sz) := by
  refine Met.ofW (cc := cX4_wrongSong) (maxL := 3) (ret := (some .int)) (by decide) rfl ?_
  intro p e s m args below meth c s₁ B hml hv
  obtain ⟨rfl, hsz, hP, hK, hD0, hN, hZ⟩ := hv
  have hx := B.exec
  have hb := B.bytes
  have hr := B.returns
  have hts := atoms_spec (ws := (wsG (.code yX4_wrongSong cX4_wrongSong 3 (some .int)))) B.pre
  have hown : s.vm.findClass RX4 = some m.cls := findClass_of_methodNamed B.named
  have hlocks := B.notSynchronized
  subst hsz
  have hD := hD0.self (sz := s.heap.size)
  generalize hAe : va_A [(ta, .inr (7, [.ref tb, .int (nI L)])), (tb, .inl (cB, 9000, .inl ft))] s.heap.size = A at hD hZ ⊢
  have hA : ∀ q : Nat, s.heap.size ≤ q → A q := fun q h => by rw [← hAe]; exact Or.inr h
  have hl := lv_entry ([.ref ta]) (n := 3) (Nat.le_of_ble_eq_true rfl)
  rw [lg_entry_eq]
  generalize (lg_sl ([.ref ta]) ++ List.replicate (3 - (lg_sl ([.ref ta])).length) Slot.unset).toArray = ls at hl ⊢
  have hl : lv_has ls 3 [(0, .ref ta)] := hl
  refine g_start (A := A) hP (fun H locs hP hS => ?_)
  have hb95 := by8_lt ft 950
  refine lv_aload_n hx hb dX4_wrongSong_0 rfl (lv_at hl 0 rfl) ?_
  refine lv_sipush (v := 950) hx hb dX4_wrongSong_1 (by decide) ?_
  refine g_calli (wr := []) (va_runV (As := [.int 950]) (rest := []) ⟨hx, hb, hml, hown, hts⟩ (x_at l dC dI H.size ta tb cB ft L 950 (hL) (by omega)) (cwV 1 hts (gG_V kw_295 kw_296 kw_297 kw_18 kw_298) rfl rfl rfl (by decide +kernel) ⟨Nat.le_of_ble_eq_true rfl, Nat.le_of_ble_eq_true rfl⟩) (g_preV (C := RX7) (T := TX7) (N := 2) hP hD hK hS hA hN hZ (q0 := 0) rfl rfl [0, 1] (by decide +kernel) rfl [0] rfl) rfl rfl hl.1 rfl (lv_room (Nat.le_of_ble_eq_true rfl)) dX4_wrongSong_4 ⟨Nat.le_of_ble_eq_true rfl, Nat.le_of_ble_eq_true rfl⟩) hP hD hK hS hA [0, 1] [] rfl rfl (by decide +kernel) (by decide +kernel) (fun r_4 w ty1 H locs hw_4 hP hD _ hS => ?_)
  rcases hw_4 with ⟨hu, hr_4⟩
  cases hu
  have hP : va_P (dC, dI) vwCl [(ta, .inr (7, [.ref tb, .int (nI L)])), (tb, .inl (cB, 9000, .inl ft))] H := hP
  have hD : va_D A [(ta, .inr (7, [.ref tb, .int (nI L)])), (tb, .inl (cB, 9000, .inl ft))] := hD
  refine g_topi (y := nI (by8 ft 950)) hr_4 ?_
  refine lv_istore_n (lv' := [(1, .int (nI (by8 ft 950))), (0, .ref ta)]) hx hb dX4_wrongSong_7 rfl hl (by decide) rfl (fun ls hl => ?_)
  refine lv_iload_n hx hb dX4_wrongSong_8 rfl (lv_at hl 0 rfl) ?_
  refine lv_iconst (v := 1) hx hb dX4_wrongSong_9 (by decide) ?_
  refine lv_icmp_lt (tgt := 20) hx hb dX4_wrongSong_10 (by decide) (fun c_10 => ?_) (fun c_10 => ?_)
  · refine lv_sipush (v := 950) hx hb dX4_wrongSong_20 (by decide) ?_
    have hP9 := hP
    have hD9 := hD
    have hK9 := hK.sub (tys' := []) [] rfl
    exact W.iret (v := 950) hx hb hr (fun t ht hW => ⟨⟨950, _, rfl, ⟨rfl, wI_p (kx := 950) (sgG_o (Or.inl (nI_lt' (b := 1) c_10 (by omega) (by decide)))) (by decide)⟩, by rw [ht]; exact hP9, va_K.moved hW.alike hK9, hD9⟩, hS.F ht⟩) hS.2.2 dX4_wrongSong_23
  refine lv_iload_n hx hb dX4_wrongSong_13 rfl (lv_at hl 0 rfl) ?_
  refine lv_sipush (v := 128) hx hb dX4_wrongSong_14 (by decide) ?_
  refine lv_icmp_le (tgt := 24) hx hb dX4_wrongSong_17 (by decide) (fun c_17 => ?_) (fun c_17 => ?_)
  · have hsr : ¬ (by8 ft 950 < 1 ∨ 128 < by8 ft 950) := by have h1 := nI_nlt2 (b := 1) c_10 (by decide); have h2 := nI_le' (b := 128) c_17 (by omega) (by decide); omega
    refine lv_iconst (v := 0) hx hb dX4_wrongSong_24 (by decide) ?_
    refine lv_istore_n (lv' := [(2, .int 0), (1, .int (nI (by8 ft 950))), (0, .ref ta)]) hx hb dX4_wrongSong_25 rfl hl (by decide) rfl (fun ls hl => ?_)
    have LP26 : ∀ (fu26 : Nat) (q26 : Nat) (hq26 : q26 ≤ by8 ft 950) (hsv : sgF ft (by8 ft 950 - q26) q26 = sgF ft (by8 ft 950) 0) (hm26 : by8 ft 950 - q26 < fu26) (H : Heap) (locs : List Loc), va_P (dC, dI) vwCl [(ta, .inr (7, [.ref tb, .int (nI L)])), (tb, .inl (cB, 9000, .inl ft))] H → va_D A [(ta, .inr (7, [.ref tb, .int (nI L)])), (tb, .inl (cB, 9000, .inl ft))] → va_S A s.heap H locs → ∀ ls : Array Slot, lv_has ls 3 [(2, .int (nI q26)), (1, .int (nI (by8 ft 950))), (0, .ref ta)] → W p l e ({ frames := 2, cells := 0, slots := 0, locals := 42 }) s m ([.ref ta] : List Value).toArray below meth c H locs (0) (0) (MQ below (va_Qi (fun (r : Int32) (u : va_W × gT) => u = ([(ta, .inr (7, [.ref tb, .int (nI L)])), (tb, .inl (cB, 9000, .inl ft))], []) ∧ r = wI (sgG ft)) (gB (dC, dI) A) A) ([.ref ta] : List Value).toArray s 0 0 A) (F0 m 26 ls []) := by
      intro fu26
      induction fu26 with
      | zero => intro q26 hq26 hsv hm26; exact absurd hm26 (Nat.not_lt_zero _)
      | succ fu26 ih26 =>
        intro q26 hq26 hsv hm26 H locs hP hD hS ls hl
        refine lv_iload_n hx hb dX4_wrongSong_26 rfl (lv_at hl 0 rfl) ?_
        refine lv_iload_n hx hb dX4_wrongSong_27 rfl (lv_at hl 1 rfl) ?_
        refine lv_icmp_ge (tgt := 57) hx hb dX4_wrongSong_28 (by decide) (fun c_28 => ?_) (fun c_28 => ?_)
        · refine lv_iconst (v := (-1)) hx hb dX4_wrongSong_57 (by decide) ?_
          have hP9 := hP
          have hD9 := hD
          have hK9 := hK.sub (tys' := []) [] rfl
          exact W.iret (v := (-1)) hx hb hr (fun t ht hW => ⟨⟨(-1), _, rfl, ⟨rfl, wI_0 (by rw [sgG_i hsr, ← hsv, show by8 ft 950 - q26 = 0 by have := nI_le' c_28 (by omega) (by omega); omega]; rfl)⟩, by rw [ht]; exact hP9, va_K.moved hW.alike hK9, hD9⟩, hS.F ht⟩) hS.2.2 dX4_wrongSong_58
        refine lv_aload_n hx hb dX4_wrongSong_31 rfl (lv_at hl 2 rfl) ?_
        refine lv_sipush (v := 952) hx hb dX4_wrongSong_32 (by decide) ?_
        refine lv_iload_n hx hb dX4_wrongSong_35 rfl (lv_at hl 0 rfl) ?_
        refine lv_iadd hx hb dX4_wrongSong_36 ?_
        refine g_topi (y := nI (952 + q26)) (nI_add 952 _) ?_
        have hq3 : q26 < by8 ft 950 := nI_nle' c_28 (by omega)
        have hb8 := by8_lt ft (952 + q26)
        refine g_calli (wr := []) (va_runV (As := [.int (nI (952 + q26))]) (rest := []) ⟨hx, hb, hml, hown, hts⟩ (x_at l dC dI H.size ta tb cB ft L (952 + q26) (hL) (by omega)) (cwV 1 hts (gG_V kw_295 kw_296 kw_297 kw_18 kw_298) rfl rfl rfl (by decide +kernel) ⟨Nat.le_of_ble_eq_true rfl, Nat.le_of_ble_eq_true rfl⟩) (g_preV (C := RX7) (T := TX7) (N := 2) hP hD hK hS hA hN hZ (q0 := 0) rfl rfl [0, 1] (by decide +kernel) rfl [0] rfl) rfl rfl hl.1 rfl (lv_room (Nat.le_of_ble_eq_true rfl)) dX4_wrongSong_37 ⟨Nat.le_of_ble_eq_true rfl, Nat.le_of_ble_eq_true rfl⟩) hP hD hK hS hA [0, 1] [] rfl rfl (by decide +kernel) (by decide +kernel) (fun r_37 w ty1 H locs hw_37 hP hD _ hS => ?_)
        rcases hw_37 with ⟨hu, hr_37⟩
        cases hu
        have hP : va_P (dC, dI) vwCl [(ta, .inr (7, [.ref tb, .int (nI L)])), (tb, .inl (cB, 9000, .inl ft))] H := hP
        have hD : va_D A [(ta, .inr (7, [.ref tb, .int (nI L)])), (tb, .inl (cB, 9000, .inl ft))] := hD
        refine g_topi (y := nI (by8 ft (952 + q26))) hr_37 ?_
        refine lv_bipush (v := 8) hx hb dX4_wrongSong_40 (by decide) ?_
        refine lv_icmp_lt (tgt := 51) hx hb dX4_wrongSong_42 (by decide) (fun c_42 => ?_) (fun c_42 => ?_)
        · refine lv_iinc (v := nI (q26 + 1)) (lv' := [(2, .int (nI (q26 + 1))), (1, .int (nI (by8 ft 950))), (0, .ref ta)]) hx hb dX4_wrongSong_51 hl (k := 0) rfl (nI_1 q26) (by decide) rfl (fun ls hl => ?_)
          refine lv_goto (tgt := 26) hx hb dX4_wrongSong_54 (by decide) ?_
          exact ih26 (q26 + 1) (by omega) (sg_n' hsv hq3 (fun qv => by have := nI_lt' (b := 8) c_42 (by omega) (by decide); omega)) (by omega) _ _ hP hD hS _ (lv_sub hl [0, 1, 2] rfl)
        refine lv_sipush (v := 952) hx hb dX4_wrongSong_45 (by decide) ?_
        refine lv_iload_n hx hb dX4_wrongSong_48 rfl (lv_at hl 0 rfl) ?_
        refine lv_iadd hx hb dX4_wrongSong_49 ?_
        refine g_topi (y := nI (952 + q26)) (nI_add 952 _) ?_
        have hP9 := hP
        have hD9 := hD
        have hK9 := hK.sub (tys' := []) [] rfl
        exact W.iret (v := nI (952 + q26)) hx hb hr (fun t ht hW => ⟨⟨nI (952 + q26), _, rfl, ⟨rfl, wI_p ((sgG_i hsr).trans (sg_a hsv (nI_nle' c_28 (by omega)) (nI_nlt2 (b := 8) (a := by8 ft (952 + q26)) (fun qv => c_42 qv) (by decide)))) (by omega)⟩, by rw [ht]; exact hP9, va_K.moved hW.alike hK9, hD9⟩, hS.F ht⟩) hS.2.2 dX4_wrongSong_50
    exact LP26 _ 0 (Nat.zero_le _) (rfl) (Nat.lt_succ_self _) _ _ hP hD hS _ (lv_sub hl [0, 1, 2] rfl)
  refine lv_sipush (v := 950) hx hb dX4_wrongSong_20 (by decide) ?_
  have hP9 := hP
  have hD9 := hD
  have hK9 := hK.sub (tys' := []) [] rfl
  exact W.iret (v := 950) hx hb hr (fun t ht hW => ⟨⟨950, _, rfl, ⟨rfl, wI_p (kx := 950) (sgG_o (Or.inr (nI_nle' (b := 128) c_17 (by decide)))) (by decide)⟩, by rw [ht]; exact hP9, va_K.moved hW.alike hK9, hD9⟩, hS.F ht⟩) hS.2.2 dX4_wrongSong_23

set_option maxHeartbeats 400000 in
set_option maxRecDepth 100000 in
theorem x_patEnd (l : Launch) (dC : Nat → ClassId) (dI : Nat → Nat → Nat) (sz : Nat) (a : Nat) : Met l yX4_patternsEnd (wsG (.code yX4_patternsEnd cX4_patternsEnd 1 (some .int))) ({ frames := 0, cells := 0, slots := 0, locals := 0 }) (va_Pc [.int (nI a)] (gP (dC, dI) [] [] sz)) (va_Qi (fun (r : Int32) (u : va_W × gT) => u = ([], []) ∧ r = nI (1084 + 1024 * a)) (gB (dC, dI) (va_A [] sz)) (va_A [] sz)) 0 0 (va_A [] sz) := by
  refine Met.ofW (cc := cX4_patternsEnd) (maxL := 1) (ret := (some .int)) (by decide) rfl ?_
  intro p e s m args below meth c s₁ B hml hv
  obtain ⟨rfl, hsz, hP, hK, hD0, hN, hZ⟩ := hv
  have hx := B.exec
  have hb := B.bytes
  have hr := B.returns
  have hts := atoms_spec (ws := (wsG (.code yX4_patternsEnd cX4_patternsEnd 1 (some .int)))) B.pre
  have hown : s.vm.findClass RX4 = some m.cls := findClass_of_methodNamed B.named
  have hlocks := B.notSynchronized
  subst hsz
  have hD := hD0.self (sz := s.heap.size)
  generalize hAe : va_A [] s.heap.size = A at hD hZ ⊢
  have hA : ∀ q : Nat, s.heap.size ≤ q → A q := fun q h => by rw [← hAe]; exact Or.inr h
  have hl := lv_entry ([.int (nI a)]) (n := 1) (Nat.le_of_ble_eq_true rfl)
  rw [lg_entry_eq]
  generalize (lg_sl ([.int (nI a)]) ++ List.replicate (1 - (lg_sl ([.int (nI a)])).length) Slot.unset).toArray = ls at hl ⊢
  have hl : lv_has ls 1 [(0, .int (nI a))] := hl
  refine g_start (A := A) hP (fun H locs hP hS => ?_)
  refine lv_sipush (v := 1084) hx hb dX4_patternsEnd_0 (by decide) ?_
  refine lv_sipush (v := 1024) hx hb dX4_patternsEnd_3 (by decide) ?_
  refine lv_iload_n hx hb dX4_patternsEnd_6 rfl (lv_at hl 0 rfl) ?_
  refine lv_imul hx hb dX4_patternsEnd_7 ?_
  refine g_topi (y := nI (1024 * a)) (pk_mul 1024 a) ?_
  refine lv_iadd hx hb dX4_patternsEnd_8 ?_
  refine g_topi (y := nI (1084 + 1024 * a)) (nI_add 1084 _) ?_
  have hP9 := hP
  have hD9 := hD
  have hK9 := hK.sub (tys' := []) [] rfl
  exact W.iret (v := nI (1084 + 1024 * a)) hx hb hr (fun t ht hW => ⟨⟨nI (1084 + 1024 * a), _, rfl, ⟨rfl, rfl⟩, by rw [ht]; exact hP9, va_K.moved hW.alike hK9, hD9⟩, hS.F ht⟩) hS.2.2 dX4_patternsEnd_9

set_option maxHeartbeats 400000 in
set_option maxRecDepth 100000 in
theorem x_bytesNeeded (l : Launch) (dC : Nat → ClassId) (dI : Nat → Nat → Nat) (sz : Nat) (ta tb : Nat) (cB : ClassId) (ft : Nat → Int32) (L : Nat) (hL : L ≤ 9000) (hL8 : 1084 ≤ L) (hb1 : 1 ≤ by8 ft 950) (hb2 : by8 ft 950 ≤ 128) : Met l yX4_bytesNeeded (wsG (.code yX4_bytesNeeded cX4_bytesNeeded 5 (some .int))) ({ frames := 3, cells := 0, slots := 0, locals := 63 }) (va_Pc [.ref ta] (gP (dC, dI) [(cB, .byte)] [(ta, .inr (7, [.ref tb, .int (nI L)])), (tb, .inl (cB, 9000, .inl ft))] sz)) (va_Qi (fun (r : Int32) (u : va_W × gT) => u = ([(ta, .inr (7, [.ref tb, .int (nI L)])), (tb, .inl (cB, 9000, .inl ft))], []) ∧ r = nI (needF ft)) (gB (dC, dI) (va_A [(ta, .inr (7, [.ref tb, .int (nI L)])), (tb, .inl (cB, 9000, .inl ft))] sz)) (va_A [(ta, .inr (7, [.ref tb, .int (nI L)])), (tb, .inl (cB, 9000, .inl ft))] sz)) 0 0 (va_A [(ta, .inr (7, [.ref tb, .int (nI L)])), (tb, .inl (cB, 9000, .inl ft))] sz) := by
  refine Met.ofW (cc := cX4_bytesNeeded) (maxL := 5) (ret := (some .int)) (by decide) rfl ?_
  intro p e s m args below meth c s₁ B hml hv
  obtain ⟨rfl, hsz, hP, hK, hD0, hN, hZ⟩ := hv
  have hx := B.exec
  have hb := B.bytes
  have hr := B.returns
  have hts := atoms_spec (ws := (wsG (.code yX4_bytesNeeded cX4_bytesNeeded 5 (some .int)))) B.pre
  have hown : s.vm.findClass RX4 = some m.cls := findClass_of_methodNamed B.named
  have hlocks := B.notSynchronized
  subst hsz
  have hD := hD0.self (sz := s.heap.size)
  generalize hAe : va_A [(ta, .inr (7, [.ref tb, .int (nI L)])), (tb, .inl (cB, 9000, .inl ft))] s.heap.size = A at hD hZ ⊢
  have hA : ∀ q : Nat, s.heap.size ≤ q → A q := fun q h => by rw [← hAe]; exact Or.inr h
  have hl := lv_entry ([.ref ta]) (n := 5) (Nat.le_of_ble_eq_true rfl)
  rw [lg_entry_eq]
  generalize (lg_sl ([.ref ta]) ++ List.replicate (5 - (lg_sl ([.ref ta])).length) Slot.unset).toArray = ls at hl ⊢
  have hl : lv_has ls 5 [(0, .ref ta)] := hl
  refine g_start (A := A) hP (fun H locs hP hS => ?_)
  refine lv_aload_n hx hb dX4_bytesNeeded_0 rfl (lv_at hl 0 rfl) ?_
  refine lv_sipush (v := 950) hx hb dX4_bytesNeeded_1 (by decide) ?_
  refine g_calli (wr := []) (va_runV (As := [.int 950]) (rest := []) ⟨hx, hb, hml, hown, hts⟩ (x_at l dC dI H.size ta tb cB ft L 950 (hL) (by omega)) (cwV 1 hts (gG_V kw_295 kw_296 kw_297 kw_18 kw_298) rfl rfl rfl (by decide +kernel) ⟨Nat.le_of_ble_eq_true rfl, Nat.le_of_ble_eq_true rfl⟩) (g_preV (C := RX7) (T := TX7) (N := 2) hP hD hK hS hA hN hZ (q0 := 0) rfl rfl [0, 1] (by decide +kernel) rfl [0] rfl) rfl rfl hl.1 rfl (lv_room (Nat.le_of_ble_eq_true rfl)) dX4_bytesNeeded_4 ⟨Nat.le_of_ble_eq_true rfl, Nat.le_of_ble_eq_true rfl⟩) hP hD hK hS hA [0, 1] [] rfl rfl (by decide +kernel) (by decide +kernel) (fun r_4 w ty1 H locs hw_4 hP hD _ hS => ?_)
  rcases hw_4 with ⟨hu, hr_4⟩
  cases hu
  have hP : va_P (dC, dI) vwCl [(ta, .inr (7, [.ref tb, .int (nI L)])), (tb, .inl (cB, 9000, .inl ft))] H := hP
  have hD : va_D A [(ta, .inr (7, [.ref tb, .int (nI L)])), (tb, .inl (cB, 9000, .inl ft))] := hD
  refine g_topi (y := nI (by8 ft 950)) hr_4 ?_
  refine lv_istore_n (lv' := [(1, .int (nI (by8 ft 950))), (0, .ref ta)]) hx hb dX4_bytesNeeded_7 rfl hl (by decide) rfl (fun ls hl => ?_)
  refine lv_iconst (v := 0) hx hb dX4_bytesNeeded_8 (by decide) ?_
  refine lv_istore_n (lv' := [(2, .int 0), (1, .int (nI (by8 ft 950))), (0, .ref ta)]) hx hb dX4_bytesNeeded_9 rfl hl (by decide) rfl (fun ls hl => ?_)
  refine lv_iconst (v := 0) hx hb dX4_bytesNeeded_10 (by decide) ?_
  refine lv_istore_n (lv' := [(3, .int 0), (2, .int 0), (1, .int (nI (by8 ft 950))), (0, .ref ta)]) hx hb dX4_bytesNeeded_11 rfl hl (by decide) rfl (fun ls hl => ?_)
  have LP12 : ∀ (fu12 : Nat) (q12 : Nat) (gr : Nat) (hq12 : q12 ≤ by8 ft 950) (hgr : gr + 1 = max 1 (pmF ft q12)) (hgb : gr ≤ 255) (hm12 : by8 ft 950 - q12 < fu12) (H : Heap) (locs : List Loc), va_P (dC, dI) vwCl [(ta, .inr (7, [.ref tb, .int (nI L)])), (tb, .inl (cB, 9000, .inl ft))] H → va_D A [(ta, .inr (7, [.ref tb, .int (nI L)])), (tb, .inl (cB, 9000, .inl ft))] → va_S A s.heap H locs → ∀ ls : Array Slot, lv_has ls 5 [(3, .int (nI q12)), (2, .int (nI gr)), (1, .int (nI (by8 ft 950))), (0, .ref ta)] → W p l e ({ frames := 3, cells := 0, slots := 0, locals := 63 }) s m ([.ref ta] : List Value).toArray below meth c H locs (0) (0) (MQ below (va_Qi (fun (r : Int32) (u : va_W × gT) => u = ([(ta, .inr (7, [.ref tb, .int (nI L)])), (tb, .inl (cB, 9000, .inl ft))], []) ∧ r = nI (needF ft)) (gB (dC, dI) A) A) ([.ref ta] : List Value).toArray s 0 0 A) (F0 m 12 ls []) := by
    intro fu12
    induction fu12 with
    | zero => intro q12 gr hq12 hgr hgb hm12; exact absurd hm12 (Nat.not_lt_zero _)
    | succ fu12 ih12 =>
      intro q12 gr hq12 hgr hgb hm12 H locs hP hD hS ls hl
      refine lv_iload_n hx hb dX4_bytesNeeded_12 rfl (lv_at hl 0 rfl) ?_
      refine lv_iload_n hx hb dX4_bytesNeeded_13 rfl (lv_at hl 2 rfl) ?_
      refine lv_icmp_ge (tgt := 44) hx hb dX4_bytesNeeded_14 (by decide) (fun c_14 => ?_) (fun c_14 => ?_)
      · have hqe : q12 = by8 ft 950 := by have := nI_le' c_14 (by omega) (by omega); omega
        have hnp : gr + 1 = npF ft := by have := pm_pos ft hb1; rw [hqe] at hgr; unfold npF; omega
        have hpl := pm_le ft (by8 ft 950)
        have hnl : npF ft ≤ 256 := hpl
        refine lv_iload_n hx hb dX4_bytesNeeded_44 rfl (lv_at hl 1 rfl) ?_
        refine lv_iconst (v := 1) hx hb dX4_bytesNeeded_45 (by decide) ?_
        refine lv_iadd hx hb dX4_bytesNeeded_46 ?_
        refine g_topi (y := nI (gr + 1)) (nI_1 _) ?_
        refine g_calli (wr := [(ta, .inr (7, [.ref tb, .int (nI L)])), (tb, .inl (cB, 9000, .inl ft))]) (va_runS (As := [.int (nI (gr + 1))]) (rest := []) ⟨hx, hb, hml, hown, hts⟩ (x_patEnd l dC dI H.size (gr + 1) ) (va_cwS 1 hts (gG_S kw_330 kw_331 kw_30 kw_332) rfl rfl rfl (by decide +kernel) ⟨Nat.le_of_ble_eq_true rfl, Nat.le_of_ble_eq_true rfl⟩) (g_preS hP hD hK hS hA hN hZ [] (by decide) rfl [] rfl) rfl rfl hl.1 rfl (lv_room (Nat.le_of_ble_eq_true rfl)) dX4_bytesNeeded_47 ⟨Nat.le_of_ble_eq_true rfl, Nat.le_of_ble_eq_true rfl⟩) hP hD hK hS hA [] [0, 1] rfl rfl (by decide +kernel) (by decide +kernel) (fun r_47 w ty1 H locs hw_47 hP hD _ hS => ?_)
        rcases hw_47 with ⟨hu, hr_47⟩
        cases hu
        have hP : va_P (dC, dI) vwCl [(ta, .inr (7, [.ref tb, .int (nI L)])), (tb, .inl (cB, 9000, .inl ft))] H := hP
        have hD : va_D A [(ta, .inr (7, [.ref tb, .int (nI L)])), (tb, .inl (cB, 9000, .inl ft))] := hD
        refine g_topi (y := nI (1084 + 1024 * (gr + 1))) hr_47 ?_
        refine lv_istore_n (lv' := [(3, .int (nI (1084 + 1024 * (gr + 1)))), (2, .int (nI gr)), (1, .int (nI (by8 ft 950))), (0, .ref ta)]) hx hb dX4_bytesNeeded_50 rfl hl (by decide) rfl (fun ls hl => ?_)
        refine lv_iconst (v := 1) hx hb dX4_bytesNeeded_51 (by decide) ?_
        refine lv_istore (lv' := [(4, .int 1), (3, .int (nI (1084 + 1024 * (gr + 1)))), (2, .int (nI gr)), (1, .int (nI (by8 ft 950))), (0, .ref ta)]) hx hb dX4_bytesNeeded_52 hl (by decide) rfl (fun ls hl => ?_)
        have LP54 : ∀ (fu54 : Nat) (q54 : Nat) (ne_ : Nat) (hq54a : 1 ≤ q54) (hq54 : q54 ≤ 32) (ene_ : ne_ = 1084 + 1024 * (gr + 1) + sumTo (l2 ft) q54) (hm54 : 32 - q54 < fu54) (H : Heap) (locs : List Loc), va_P (dC, dI) vwCl [(ta, .inr (7, [.ref tb, .int (nI L)])), (tb, .inl (cB, 9000, .inl ft))] H → va_D A [(ta, .inr (7, [.ref tb, .int (nI L)])), (tb, .inl (cB, 9000, .inl ft))] → va_S A s.heap H locs → ∀ ls : Array Slot, lv_has ls 5 [(4, .int (nI q54)), (3, .int (nI ne_)), (0, .ref ta)] → W p l e ({ frames := 3, cells := 0, slots := 0, locals := 63 }) s m ([.ref ta] : List Value).toArray below meth c H locs (0) (0) (MQ below (va_Qi (fun (r : Int32) (u : va_W × gT) => u = ([(ta, .inr (7, [.ref tb, .int (nI L)])), (tb, .inl (cB, 9000, .inl ft))], []) ∧ r = nI (needF ft)) (gB (dC, dI) A) A) ([.ref ta] : List Value).toArray s 0 0 A) (F0 m 54 ls []) := by
          intro fu54
          induction fu54 with
          | zero => intro q54 ne_ hq54a hq54 ene_ hm54; exact absurd hm54 (Nat.not_lt_zero _)
          | succ fu54 ih54 =>
            intro q54 ne_ hq54a hq54 ene_ hm54 H locs hP hD hS ls hl
            refine lv_iload hx hb dX4_bytesNeeded_54 (lv_at hl 0 rfl) ?_
            refine lv_bipush (v := 31) hx hb dX4_bytesNeeded_56 (by decide) ?_
            refine lv_icmp_gt (tgt := 84) hx hb dX4_bytesNeeded_58 (by decide) (fun c_58 => ?_) (fun c_58 => ?_)
            · refine lv_iload_n hx hb dX4_bytesNeeded_84 rfl (lv_at hl 1 rfl) ?_
              have hP9 := hP
              have hD9 := hD
              have hK9 := hK.sub (tys' := []) [] rfl
              exact W.iret (v := nI ne_) hx hb hr (fun t ht hW => ⟨⟨nI ne_, _, rfl, ⟨rfl, up_e (by rw [ene_, show q54 = 32 by have := nI_lt' (a := 31) c_58 (by decide) (by omega); omega, hnp]; rfl)⟩, by rw [ht]; exact hP9, va_K.moved hW.alike hK9, hD9⟩, hS.F ht⟩) hS.2.2 dX4_bytesNeeded_85
            refine lv_iload_n hx hb dX4_bytesNeeded_61 rfl (lv_at hl 1 rfl) ?_
            refine lv_iconst (v := 2) hx hb dX4_bytesNeeded_62 (by decide) ?_
            refine lv_aload_n hx hb dX4_bytesNeeded_63 rfl (lv_at hl 2 rfl) ?_
            refine lv_iload hx hb dX4_bytesNeeded_64 (lv_at hl 0 rfl) ?_
            refine g_calli (wr := [(ta, .inr (7, [.ref tb, .int (nI L)])), (tb, .inl (cB, 9000, .inl ft))]) (va_runS (As := [.int (nI q54)]) (rest := [.ref ta, .int 2, .int (nI ne_)]) ⟨hx, hb, hml, hown, hts⟩ (c_sampleAt l dC dI H.size q54 (hq54a)) (va_cwS 1 hts (gG_S kw_306 kw_307 kw_30 kw_308) rfl rfl rfl (by decide +kernel) ⟨Nat.le_of_ble_eq_true rfl, Nat.le_of_ble_eq_true rfl⟩) (g_preS hP hD hK hS hA hN hZ [] (by decide) rfl [] rfl) rfl rfl hl.1 rfl (lv_room (Nat.le_of_ble_eq_true rfl)) dX4_bytesNeeded_66 ⟨Nat.le_of_ble_eq_true rfl, Nat.le_of_ble_eq_true rfl⟩) hP hD hK hS hA [] [0, 1] rfl rfl (by decide +kernel) (by decide +kernel) (fun r_66 w ty1 H locs hw_66 hP hD _ hS => ?_)
            rcases hw_66 with ⟨hu, hr_66⟩
            cases hu
            have hP : va_P (dC, dI) vwCl [(ta, .inr (7, [.ref tb, .int (nI L)])), (tb, .inl (cB, 9000, .inl ft))] H := hP
            have hD : va_D A [(ta, .inr (7, [.ref tb, .int (nI L)])), (tb, .inl (cB, 9000, .inl ft))] := hD
            refine g_topi (y := nI (20 + 30 * (q54 - 1))) hr_66 ?_
            refine lv_bipush (v := 22) hx hb dX4_bytesNeeded_69 (by decide) ?_
            refine lv_iadd hx hb dX4_bytesNeeded_71 ?_
            refine g_topi (y := nI (30 * q54 + 12)) ((nI_add _ 22).trans (up_e (by omega))) ?_
            have hq543 : q54 < 32 := by have := nI_nlt2 (a := 31) c_58 (by omega); omega
            refine g_calli (wr := []) (va_runV (As := [.int (nI (30 * q54 + 12))]) (rest := [.int 2, .int (nI ne_)]) ⟨hx, hb, hml, hown, hts⟩ (x_pair l dC dI H.size ta tb cB ft L (30 * q54 + 12) (hL) (by omega)) (cwV 1 hts (gG_V kw_309 kw_310 kw_311 kw_18 kw_312) rfl rfl rfl (by decide +kernel) ⟨Nat.le_of_ble_eq_true rfl, Nat.le_of_ble_eq_true rfl⟩) (g_preV (C := RX7) (T := TX7) (N := 2) hP hD hK hS hA hN hZ (q0 := 0) rfl rfl [0, 1] (by decide +kernel) rfl [0] rfl) rfl rfl hl.1 rfl (lv_room (Nat.le_of_ble_eq_true rfl)) dX4_bytesNeeded_72 ⟨Nat.le_of_ble_eq_true rfl, Nat.le_of_ble_eq_true rfl⟩) hP hD hK hS hA [0, 1] [] rfl rfl (by decide +kernel) (by decide +kernel) (fun r_72 w ty1 H locs hw_72 hP hD _ hS => ?_)
            rcases hw_72 with ⟨hu, hr_72⟩
            cases hu
            have hP : va_P (dC, dI) vwCl [(ta, .inr (7, [.ref tb, .int (nI L)])), (tb, .inl (cB, 9000, .inl ft))] H := hP
            have hD : va_D A [(ta, .inr (7, [.ref tb, .int (nI L)])), (tb, .inl (cB, 9000, .inl ft))] := hD
            refine g_topi (y := nI (256 * by8 ft (30 * q54 + 12) + by8 ft ((30 * q54 + 12) + 1))) hr_72 ?_
            refine lv_imul hx hb dX4_bytesNeeded_75 ?_
            refine g_topi (y := nI (tw2 ft (30 * q54 + 12))) (pk_mul 2 _) ?_
            refine lv_iadd hx hb dX4_bytesNeeded_76 ?_
            refine g_topi (y := nI (ne_ + tw2 ft (30 * q54 + 12))) (nI_add _ _) ?_
            refine lv_istore_n (lv' := [(3, .int (nI (ne_ + tw2 ft (30 * q54 + 12)))), (4, .int (nI q54)), (0, .ref ta)]) hx hb dX4_bytesNeeded_77 rfl hl (by decide) rfl (fun ls hl => ?_)
            refine lv_iinc (v := nI (q54 + 1)) (lv' := [(4, .int (nI (q54 + 1))), (3, .int (nI (ne_ + tw2 ft (30 * q54 + 12)))), (0, .ref ta)]) hx hb dX4_bytesNeeded_78 hl (k := 1) rfl (nI_1 q54) (by decide) rfl (fun ls hl => ?_)
            refine lv_goto (tgt := 54) hx hb dX4_bytesNeeded_81 (by decide) ?_
            exact ih54 (q54 + 1) (ne_ + tw2 ft (30 * q54 + 12)) (by omega) (by omega) (by rw [l2_s ft hq54a]; omega) (by omega) _ _ hP hD hS _ (lv_sub hl [0, 1, 2] rfl)
        exact LP54 _ 1 (1084 + 1024 * (gr + 1)) (by decide) (by decide) (rfl) (Nat.lt_succ_self _) _ _ hP hD hS _ (lv_sub hl [0, 1, 4] rfl)
      refine lv_iload_n hx hb dX4_bytesNeeded_17 rfl (lv_at hl 0 rfl) ?_
      refine lv_sipush (v := 128) hx hb dX4_bytesNeeded_18 (by decide) ?_
      refine lv_icmp_ge (tgt := 44) hx hb dX4_bytesNeeded_21 (by decide) (fun c_21 => ?_) (fun c_21 => ?_)
      · have hqe : q12 = by8 ft 950 := by have := nI_le' (a := 128) c_21 (by decide) (by omega); omega
        have hnp : gr + 1 = npF ft := by have := pm_pos ft hb1; rw [hqe] at hgr; unfold npF; omega
        have hpl := pm_le ft (by8 ft 950)
        have hnl : npF ft ≤ 256 := hpl
        refine lv_iload_n hx hb dX4_bytesNeeded_44 rfl (lv_at hl 1 rfl) ?_
        refine lv_iconst (v := 1) hx hb dX4_bytesNeeded_45 (by decide) ?_
        refine lv_iadd hx hb dX4_bytesNeeded_46 ?_
        refine g_topi (y := nI (gr + 1)) (nI_1 _) ?_
        refine g_calli (wr := [(ta, .inr (7, [.ref tb, .int (nI L)])), (tb, .inl (cB, 9000, .inl ft))]) (va_runS (As := [.int (nI (gr + 1))]) (rest := []) ⟨hx, hb, hml, hown, hts⟩ (x_patEnd l dC dI H.size (gr + 1) ) (va_cwS 1 hts (gG_S kw_330 kw_331 kw_30 kw_332) rfl rfl rfl (by decide +kernel) ⟨Nat.le_of_ble_eq_true rfl, Nat.le_of_ble_eq_true rfl⟩) (g_preS hP hD hK hS hA hN hZ [] (by decide) rfl [] rfl) rfl rfl hl.1 rfl (lv_room (Nat.le_of_ble_eq_true rfl)) dX4_bytesNeeded_47 ⟨Nat.le_of_ble_eq_true rfl, Nat.le_of_ble_eq_true rfl⟩) hP hD hK hS hA [] [0, 1] rfl rfl (by decide +kernel) (by decide +kernel) (fun r_47 w ty1 H locs hw_47 hP hD _ hS => ?_)
        rcases hw_47 with ⟨hu, hr_47⟩
        cases hu
        have hP : va_P (dC, dI) vwCl [(ta, .inr (7, [.ref tb, .int (nI L)])), (tb, .inl (cB, 9000, .inl ft))] H := hP
        have hD : va_D A [(ta, .inr (7, [.ref tb, .int (nI L)])), (tb, .inl (cB, 9000, .inl ft))] := hD
        refine g_topi (y := nI (1084 + 1024 * (gr + 1))) hr_47 ?_
        refine lv_istore_n (lv' := [(3, .int (nI (1084 + 1024 * (gr + 1)))), (2, .int (nI gr)), (1, .int (nI (by8 ft 950))), (0, .ref ta)]) hx hb dX4_bytesNeeded_50 rfl hl (by decide) rfl (fun ls hl => ?_)
        refine lv_iconst (v := 1) hx hb dX4_bytesNeeded_51 (by decide) ?_
        refine lv_istore (lv' := [(4, .int 1), (3, .int (nI (1084 + 1024 * (gr + 1)))), (2, .int (nI gr)), (1, .int (nI (by8 ft 950))), (0, .ref ta)]) hx hb dX4_bytesNeeded_52 hl (by decide) rfl (fun ls hl => ?_)
        have LP54 : ∀ (fu54 : Nat) (q54 : Nat) (ne_ : Nat) (hq54a : 1 ≤ q54) (hq54 : q54 ≤ 32) (ene_ : ne_ = 1084 + 1024 * (gr + 1) + sumTo (l2 ft) q54) (hm54 : 32 - q54 < fu54) (H : Heap) (locs : List Loc), va_P (dC, dI) vwCl [(ta, .inr (7, [.ref tb, .int (nI L)])), (tb, .inl (cB, 9000, .inl ft))] H → va_D A [(ta, .inr (7, [.ref tb, .int (nI L)])), (tb, .inl (cB, 9000, .inl ft))] → va_S A s.heap H locs → ∀ ls : Array Slot, lv_has ls 5 [(4, .int (nI q54)), (3, .int (nI ne_)), (0, .ref ta)] → W p l e ({ frames := 3, cells := 0, slots := 0, locals := 63 }) s m ([.ref ta] : List Value).toArray below meth c H locs (0) (0) (MQ below (va_Qi (fun (r : Int32) (u : va_W × gT) => u = ([(ta, .inr (7, [.ref tb, .int (nI L)])), (tb, .inl (cB, 9000, .inl ft))], []) ∧ r = nI (needF ft)) (gB (dC, dI) A) A) ([.ref ta] : List Value).toArray s 0 0 A) (F0 m 54 ls []) := by
          intro fu54
          induction fu54 with
          | zero => intro q54 ne_ hq54a hq54 ene_ hm54; exact absurd hm54 (Nat.not_lt_zero _)
          | succ fu54 ih54 =>
            intro q54 ne_ hq54a hq54 ene_ hm54 H locs hP hD hS ls hl
            refine lv_iload hx hb dX4_bytesNeeded_54 (lv_at hl 0 rfl) ?_
            refine lv_bipush (v := 31) hx hb dX4_bytesNeeded_56 (by decide) ?_
            refine lv_icmp_gt (tgt := 84) hx hb dX4_bytesNeeded_58 (by decide) (fun c_58 => ?_) (fun c_58 => ?_)
            · refine lv_iload_n hx hb dX4_bytesNeeded_84 rfl (lv_at hl 1 rfl) ?_
              have hP9 := hP
              have hD9 := hD
              have hK9 := hK.sub (tys' := []) [] rfl
              exact W.iret (v := nI ne_) hx hb hr (fun t ht hW => ⟨⟨nI ne_, _, rfl, ⟨rfl, up_e (by rw [ene_, show q54 = 32 by have := nI_lt' (a := 31) c_58 (by decide) (by omega); omega, hnp]; rfl)⟩, by rw [ht]; exact hP9, va_K.moved hW.alike hK9, hD9⟩, hS.F ht⟩) hS.2.2 dX4_bytesNeeded_85
            refine lv_iload_n hx hb dX4_bytesNeeded_61 rfl (lv_at hl 1 rfl) ?_
            refine lv_iconst (v := 2) hx hb dX4_bytesNeeded_62 (by decide) ?_
            refine lv_aload_n hx hb dX4_bytesNeeded_63 rfl (lv_at hl 2 rfl) ?_
            refine lv_iload hx hb dX4_bytesNeeded_64 (lv_at hl 0 rfl) ?_
            refine g_calli (wr := [(ta, .inr (7, [.ref tb, .int (nI L)])), (tb, .inl (cB, 9000, .inl ft))]) (va_runS (As := [.int (nI q54)]) (rest := [.ref ta, .int 2, .int (nI ne_)]) ⟨hx, hb, hml, hown, hts⟩ (c_sampleAt l dC dI H.size q54 (hq54a)) (va_cwS 1 hts (gG_S kw_306 kw_307 kw_30 kw_308) rfl rfl rfl (by decide +kernel) ⟨Nat.le_of_ble_eq_true rfl, Nat.le_of_ble_eq_true rfl⟩) (g_preS hP hD hK hS hA hN hZ [] (by decide) rfl [] rfl) rfl rfl hl.1 rfl (lv_room (Nat.le_of_ble_eq_true rfl)) dX4_bytesNeeded_66 ⟨Nat.le_of_ble_eq_true rfl, Nat.le_of_ble_eq_true rfl⟩) hP hD hK hS hA [] [0, 1] rfl rfl (by decide +kernel) (by decide +kernel) (fun r_66 w ty1 H locs hw_66 hP hD _ hS => ?_)
            rcases hw_66 with ⟨hu, hr_66⟩
            cases hu
            have hP : va_P (dC, dI) vwCl [(ta, .inr (7, [.ref tb, .int (nI L)])), (tb, .inl (cB, 9000, .inl ft))] H := hP
            have hD : va_D A [(ta, .inr (7, [.ref tb, .int (nI L)])), (tb, .inl (cB, 9000, .inl ft))] := hD
            refine g_topi (y := nI (20 + 30 * (q54 - 1))) hr_66 ?_
            refine lv_bipush (v := 22) hx hb dX4_bytesNeeded_69 (by decide) ?_
            refine lv_iadd hx hb dX4_bytesNeeded_71 ?_
            refine g_topi (y := nI (30 * q54 + 12)) ((nI_add _ 22).trans (up_e (by omega))) ?_
            have hq543 : q54 < 32 := by have := nI_nlt2 (a := 31) c_58 (by omega); omega
            refine g_calli (wr := []) (va_runV (As := [.int (nI (30 * q54 + 12))]) (rest := [.int 2, .int (nI ne_)]) ⟨hx, hb, hml, hown, hts⟩ (x_pair l dC dI H.size ta tb cB ft L (30 * q54 + 12) (hL) (by omega)) (cwV 1 hts (gG_V kw_309 kw_310 kw_311 kw_18 kw_312) rfl rfl rfl (by decide +kernel) ⟨Nat.le_of_ble_eq_true rfl, Nat.le_of_ble_eq_true rfl⟩) (g_preV (C := RX7) (T := TX7) (N := 2) hP hD hK hS hA hN hZ (q0 := 0) rfl rfl [0, 1] (by decide +kernel) rfl [0] rfl) rfl rfl hl.1 rfl (lv_room (Nat.le_of_ble_eq_true rfl)) dX4_bytesNeeded_72 ⟨Nat.le_of_ble_eq_true rfl, Nat.le_of_ble_eq_true rfl⟩) hP hD hK hS hA [0, 1] [] rfl rfl (by decide +kernel) (by decide +kernel) (fun r_72 w ty1 H locs hw_72 hP hD _ hS => ?_)
            rcases hw_72 with ⟨hu, hr_72⟩
            cases hu
            have hP : va_P (dC, dI) vwCl [(ta, .inr (7, [.ref tb, .int (nI L)])), (tb, .inl (cB, 9000, .inl ft))] H := hP
            have hD : va_D A [(ta, .inr (7, [.ref tb, .int (nI L)])), (tb, .inl (cB, 9000, .inl ft))] := hD
            refine g_topi (y := nI (256 * by8 ft (30 * q54 + 12) + by8 ft ((30 * q54 + 12) + 1))) hr_72 ?_
            refine lv_imul hx hb dX4_bytesNeeded_75 ?_
            refine g_topi (y := nI (tw2 ft (30 * q54 + 12))) (pk_mul 2 _) ?_
            refine lv_iadd hx hb dX4_bytesNeeded_76 ?_
            refine g_topi (y := nI (ne_ + tw2 ft (30 * q54 + 12))) (nI_add _ _) ?_
            refine lv_istore_n (lv' := [(3, .int (nI (ne_ + tw2 ft (30 * q54 + 12)))), (4, .int (nI q54)), (0, .ref ta)]) hx hb dX4_bytesNeeded_77 rfl hl (by decide) rfl (fun ls hl => ?_)
            refine lv_iinc (v := nI (q54 + 1)) (lv' := [(4, .int (nI (q54 + 1))), (3, .int (nI (ne_ + tw2 ft (30 * q54 + 12)))), (0, .ref ta)]) hx hb dX4_bytesNeeded_78 hl (k := 1) rfl (nI_1 q54) (by decide) rfl (fun ls hl => ?_)
            refine lv_goto (tgt := 54) hx hb dX4_bytesNeeded_81 (by decide) ?_
            exact ih54 (q54 + 1) (ne_ + tw2 ft (30 * q54 + 12)) (by omega) (by omega) (by rw [l2_s ft hq54a]; omega) (by omega) _ _ hP hD hS _ (lv_sub hl [0, 1, 2] rfl)
        exact LP54 _ 1 (1084 + 1024 * (gr + 1)) (by decide) (by decide) (rfl) (Nat.lt_succ_self _) _ _ hP hD hS _ (lv_sub hl [0, 1, 4] rfl)
      refine lv_iload_n hx hb dX4_bytesNeeded_24 rfl (lv_at hl 1 rfl) ?_
      refine lv_aload_n hx hb dX4_bytesNeeded_25 rfl (lv_at hl 3 rfl) ?_
      refine lv_sipush (v := 952) hx hb dX4_bytesNeeded_26 (by decide) ?_
      refine lv_iload_n hx hb dX4_bytesNeeded_29 rfl (lv_at hl 0 rfl) ?_
      refine lv_iadd hx hb dX4_bytesNeeded_30 ?_
      refine g_topi (y := nI (952 + q12)) (nI_add 952 _) ?_
      have hq3 : q12 < by8 ft 950 := nI_nle' c_14 (by omega)
      have hb8 := by8_lt ft (952 + q12)
      refine g_calli (wr := []) (va_runV (As := [.int (nI (952 + q12))]) (rest := [.int (nI gr)]) ⟨hx, hb, hml, hown, hts⟩ (x_at l dC dI H.size ta tb cB ft L (952 + q12) (hL) (by omega)) (cwV 1 hts (gG_V kw_295 kw_296 kw_297 kw_18 kw_298) rfl rfl rfl (by decide +kernel) ⟨Nat.le_of_ble_eq_true rfl, Nat.le_of_ble_eq_true rfl⟩) (g_preV (C := RX7) (T := TX7) (N := 2) hP hD hK hS hA hN hZ (q0 := 0) rfl rfl [0, 1] (by decide +kernel) rfl [0] rfl) rfl rfl hl.1 rfl (lv_room (Nat.le_of_ble_eq_true rfl)) dX4_bytesNeeded_31 ⟨Nat.le_of_ble_eq_true rfl, Nat.le_of_ble_eq_true rfl⟩) hP hD hK hS hA [0, 1] [] rfl rfl (by decide +kernel) (by decide +kernel) (fun r_31 w ty1 H locs hw_31 hP hD _ hS => ?_)
      rcases hw_31 with ⟨hu, hr_31⟩
      cases hu
      have hP : va_P (dC, dI) vwCl [(ta, .inr (7, [.ref tb, .int (nI L)])), (tb, .inl (cB, 9000, .inl ft))] H := hP
      have hD : va_D A [(ta, .inr (7, [.ref tb, .int (nI L)])), (tb, .inl (cB, 9000, .inl ft))] := hD
      refine g_topi (y := nI (by8 ft (952 + q12))) hr_31 ?_
      refine va_mmax hx hb (by rw [hml]; exact hl.1.symm) hown (hts (.methodLink RX4 74 Lib.Math.max.name) (List.mem_cons_of_mem _ kw_329)) (hts (.static Lib.Math.max.name) (List.mem_cons_of_mem _ kw_102)) (hts (.initialized "java/lang/Math") (List.mem_cons_of_mem _ kw_103)) (hts (.code Lib.Math.max.name Lib.Math.max.code 2 (some .int)) (List.mem_cons_of_mem _ kw_104)) (Nat.le_of_ble_eq_true rfl) (Nat.le_of_ble_eq_true rfl) (Nat.le_of_ble_eq_true rfl) (Nat.le_of_ble_eq_true rfl) dX4_bytesNeeded_34 ?_
      refine g_topi (y := nI (max gr (by8 ft (952 + q12)))) (mx_nI (by omega) (by omega)) ?_
      refine lv_istore_n (lv' := [(2, .int (nI (max gr (by8 ft (952 + q12))))), (3, .int (nI q12)), (1, .int (nI (by8 ft 950))), (0, .ref ta)]) hx hb dX4_bytesNeeded_37 rfl hl (by decide) rfl (fun ls hl => ?_)
      refine lv_iinc (v := nI (q12 + 1)) (lv' := [(3, .int (nI (q12 + 1))), (2, .int (nI (max gr (by8 ft (952 + q12))))), (1, .int (nI (by8 ft 950))), (0, .ref ta)]) hx hb dX4_bytesNeeded_38 hl (k := 1) rfl (nI_1 q12) (by decide) rfl (fun ls hl => ?_)
      refine lv_goto (tgt := 12) hx hb dX4_bytesNeeded_41 (by decide) ?_
      exact ih12 (q12 + 1) (max gr (by8 ft (952 + q12))) (by omega) (gr_s hgr) (by omega) (by omega) _ _ hP hD hS _ (lv_sub hl [0, 1, 2, 3] rfl)
  exact LP12 _ 0 0 (Nat.zero_le _) (rfl) (Nat.zero_le _) (Nat.lt_succ_self _) _ _ hP hD hS _ (lv_sub hl [0, 1, 2, 3] rfl)

set_option maxHeartbeats 400000 in
set_option maxRecDepth 100000 in
theorem x_accepts (l : Launch) (dC : Nat → ClassId) (dI : Nat → Nat → Nat) (sz : Nat) (h : Nat) (x0 x1 : Int32) (ta tb : Nat) (cB : ClassId) (ft : Nat → Int32) (L : Nat) (hL : L ≤ 9000) : Met l yX4_accepts (wsG (.code yX4_accepts cX4_accepts 3 (some .boolean))) ({ frames := 4, cells := 0, slots := 0, locals := 89 }) (va_Pc [.ref h, .ref ta] (gP (dC, dI) [(cB, .byte)] [(h, .inr (4, [.int x0, .int x1])), (ta, .inr (7, [.ref tb, .int (nI L)])), (tb, .inl (cB, 9000, .inl ft))] sz)) (va_Qi (fun (r : Int32) (u : va_W × gT) => (u = ([(h, .inr (4, [.int 0, .int (-1)])), (ta, .inr (7, [.ref tb, .int (nI L)])), (tb, .inl (cB, 9000, .inl ft))], []) ∧ r = 1 ∧ fkF L ft = 0) ∨ (∃ (y0 : Int32) (y1 : Int32), u = ([(h, .inr (4, [.int y0, .int y1])), (ta, .inr (7, [.ref tb, .int (nI L)])), (tb, .inl (cB, 9000, .inl ft))], []) ∧ r = 0 ∧ y0 = nI (fkF L ft) ∧ y1 = fpF L ft ∧ ¬ fkF L ft = 0)) (gB (dC, dI) (va_A [(h, .inr (4, [.int x0, .int x1])), (ta, .inr (7, [.ref tb, .int (nI L)])), (tb, .inl (cB, 9000, .inl ft))] sz)) (va_A [(h, .inr (4, [.int x0, .int x1])), (ta, .inr (7, [.ref tb, .int (nI L)])), (tb, .inl (cB, 9000, .inl ft))] sz)) 0 0 (va_A [(h, .inr (4, [.int x0, .int x1])), (ta, .inr (7, [.ref tb, .int (nI L)])), (tb, .inl (cB, 9000, .inl ft))] sz) := by
  refine Met.ofW (cc := cX4_accepts) (maxL := 3) (ret := (some .boolean)) (by decide) rfl ?_
  intro p e s m args below meth c s₁ B hml hv
  obtain ⟨rfl, hsz, hP, hK, hD0, hN, hZ⟩ := hv
  have hx := B.exec
  have hb := B.bytes
  have hr := B.returns
  have hts := atoms_spec (ws := (wsG (.code yX4_accepts cX4_accepts 3 (some .boolean)))) B.pre
  have hown : s.vm.findClass RX4 = some m.cls := findClass_of_methodNamed B.named
  have hlocks := B.notSynchronized
  subst hsz
  have hD := hD0.self (sz := s.heap.size)
  generalize hAe : va_A [(h, .inr (4, [.int x0, .int x1])), (ta, .inr (7, [.ref tb, .int (nI L)])), (tb, .inl (cB, 9000, .inl ft))] s.heap.size = A at hD hZ ⊢
  have hA : ∀ q : Nat, s.heap.size ≤ q → A q := fun q h => by rw [← hAe]; exact Or.inr h
  have hl := lv_entry ([.ref h, .ref ta]) (n := 3) (Nat.le_of_ble_eq_true rfl)
  rw [lg_entry_eq]
  generalize (lg_sl ([.ref h, .ref ta]) ++ List.replicate (3 - (lg_sl ([.ref h, .ref ta])).length) Slot.unset).toArray = ls at hl ⊢
  have hl : lv_has ls 3 [(0, .ref h), (1, .ref ta)] := hl
  refine g_start (A := A) hP (fun H locs hP hS => ?_)
  refine lv_aload_n hx hb dX4_accepts_0 rfl (lv_at hl 1 rfl) ?_
  refine va_get (D := (dC, dI)) (ci := 7) (v := .int (nI L)) (C := RX7) (T := TX7) (N := 2) hx hb hts iwX7 hown hK hP 1 rfl rfl 1 (by decide) (hts (.fieldLink RX4 30 "ModulePlayer$Tape" "length" "I") (List.mem_cons_of_mem _ kw_287)) (fun _ h9 => h9) rfl dX4_accepts_1 ?_
  refine lv_sipush (v := 1084) hx hb dX4_accepts_4 (by decide) ?_
  refine lv_icmp_ge (tgt := 20) hx hb dX4_accepts_7 (by decide) (fun c_7 => ?_) (fun c_7 => ?_)
  · have hn8 : ¬ L < 1084 := by have := nI_le' (a := 1084) c_7 (by decide) (by omega); omega
    refine lv_aload_n hx hb dX4_accepts_20 rfl (lv_at hl 1 rfl) ?_
    refine g_calli (wr := [(h, .inr (4, [.int x0, .int x1]))]) (va_runS (As := [.ref ta]) (rest := []) ⟨hx, hb, hml, hown, hts⟩ (x_wrongMark l dC dI H.size ta tb cB ft L (hL) (by omega)) (va_cwS 1 hts (gG_S kw_292 kw_293 kw_30 kw_294) rfl rfl rfl (by decide +kernel) ⟨Nat.le_of_ble_eq_true rfl, Nat.le_of_ble_eq_true rfl⟩) (g_preS hP hD hK hS hA hN hZ [1, 2] (by decide +kernel) rfl [0] rfl) rfl rfl hl.1 rfl (lv_room (Nat.le_of_ble_eq_true rfl)) dX4_accepts_21 ⟨Nat.le_of_ble_eq_true rfl, Nat.le_of_ble_eq_true rfl⟩) hP hD hK hS hA [1, 2] [0] rfl rfl (by decide +kernel) (by decide +kernel) (fun r_21 w ty1 H locs hw_21 hP hD _ hS => ?_)
    rcases hw_21 with ⟨hu, hr_21⟩
    cases hu
    have hP : va_P (dC, dI) vwCl [(h, .inr (4, [.int x0, .int x1])), (ta, .inr (7, [.ref tb, .int (nI L)])), (tb, .inl (cB, 9000, .inl ft))] H := hP
    have hD : va_D A [(h, .inr (4, [.int x0, .int x1])), (ta, .inr (7, [.ref tb, .int (nI L)])), (tb, .inl (cB, 9000, .inl ft))] := hD
    refine g_topi (y := wI (mkF ft)) hr_21 ?_
    refine lv_istore_n (lv' := [(2, .int (wI (mkF ft))), (0, .ref h), (1, .ref ta)]) hx hb dX4_accepts_24 rfl hl (by decide) rfl (fun ls hl => ?_)
    refine lv_iload_n hx hb dX4_accepts_25 rfl (lv_at hl 0 rfl) ?_
    refine lv_iconst (v := (-1)) hx hb dX4_accepts_26 (by decide) ?_
    refine lv_icmp_eq (tgt := 37) hx hb dX4_accepts_27 (by decide) (fun c_27 => ?_) (fun c_27 => ?_)
    · have hm0 := wI_m1 (by have := mkF_lt ft; omega) c_27
      refine lv_aload_n hx hb dX4_accepts_37 rfl (lv_at hl 2 rfl) ?_
      refine g_calli (wr := [(h, .inr (4, [.int x0, .int x1]))]) (va_runS (As := [.ref ta]) (rest := []) ⟨hx, hb, hml, hown, hts⟩ (x_wrongSample l dC dI H.size ta tb cB ft L (hL) (by omega)) (va_cwS 1 hts (gG_S kw_303 kw_304 kw_30 kw_305) rfl rfl rfl (by decide +kernel) ⟨Nat.le_of_ble_eq_true rfl, Nat.le_of_ble_eq_true rfl⟩) (g_preS hP hD hK hS hA hN hZ [1, 2] (by decide +kernel) rfl [0] rfl) rfl rfl hl.1 rfl (lv_room (Nat.le_of_ble_eq_true rfl)) dX4_accepts_38 ⟨Nat.le_of_ble_eq_true rfl, Nat.le_of_ble_eq_true rfl⟩) hP hD hK hS hA [1, 2] [0] rfl rfl (by decide +kernel) (by decide +kernel) (fun r_38 w ty1 H locs hw_38 hP hD _ hS => ?_)
      rcases hw_38 with ⟨hu, hr_38⟩
      cases hu
      have hP : va_P (dC, dI) vwCl [(h, .inr (4, [.int x0, .int x1])), (ta, .inr (7, [.ref tb, .int (nI L)])), (tb, .inl (cB, 9000, .inl ft))] H := hP
      have hD : va_D A [(h, .inr (4, [.int x0, .int x1])), (ta, .inr (7, [.ref tb, .int (nI L)])), (tb, .inl (cB, 9000, .inl ft))] := hD
      refine g_topi (y := wI (hsF ft 31 1 0)) hr_38 ?_
      refine lv_istore_n (lv' := [(2, .int (wI (hsF ft 31 1 0))), (0, .ref h), (1, .ref ta)]) hx hb dX4_accepts_41 rfl hl (by decide) rfl (fun ls hl => ?_)
      refine lv_iload_n hx hb dX4_accepts_42 rfl (lv_at hl 0 rfl) ?_
      refine lv_iconst (v := (-1)) hx hb dX4_accepts_43 (by decide) ?_
      refine lv_icmp_ne (tgt := 52) hx hb dX4_accepts_44 (by decide) (fun c_44 => ?_) (fun c_44 => ?_)
      · refine lv_iload_n hx hb dX4_accepts_52 rfl (lv_at hl 0 rfl) ?_
        refine lv_iconst (v := (-1)) hx hb dX4_accepts_53 (by decide) ?_
        refine lv_icmp_eq (tgt := 64) hx hb dX4_accepts_54 (by decide) (fun c_54 => absurd c_54 c_44) (fun c_54 => ?_)
        have hs9 := wI_ne c_44
        have fk := fk_3 hn8 hm0 (by rw [hd_s hs9]; exact hs9)
        rw [hd_s hs9] at fk
        refine lv_aload_n hx hb dX4_accepts_57 rfl (lv_at hl 1 rfl) ?_
        refine lv_iconst (v := 3) hx hb dX4_accepts_58 (by decide) ?_
        refine lv_iload_n hx hb dX4_accepts_59 rfl (lv_at hl 0 rfl) ?_
        refine g_calli (wr := [(ta, .inr (7, [.ref tb, .int (nI L)])), (tb, .inl (cB, 9000, .inl ft))]) (va_runV (As := [.int 3, .int (wI (hsF ft 31 1 0))]) (rest := []) ⟨hx, hb, hml, hown, hts⟩ (c_refuse l dC dI H.size h x0 x1 3 (wI (hsF ft 31 1 0)) ) (cwV 2 hts (gG_V kw_288 kw_289 kw_290 kw_30 kw_291) rfl rfl rfl (by decide +kernel) ⟨Nat.le_of_ble_eq_true rfl, Nat.le_of_ble_eq_true rfl⟩) (g_preV (C := RX4) (T := TX4) (N := 2) hP hD hK hS hA hN hZ (q0 := 0) rfl rfl [0] (by decide +kernel) rfl [] rfl) rfl rfl hl.1 rfl (lv_room (Nat.le_of_ble_eq_true rfl)) dX4_accepts_60 ⟨Nat.le_of_ble_eq_true rfl, Nat.le_of_ble_eq_true rfl⟩) hP hD hK hS hA [0] [1, 2] rfl rfl (by decide +kernel) (by decide +kernel) (fun r_60 w ty1 H locs hw_60 hP hD _ hS => ?_)
        rcases hw_60 with ⟨hu, hr_60⟩
        cases hu
        have hP : va_P (dC, dI) vwCl [(ta, .inr (7, [.ref tb, .int (nI L)])), (tb, .inl (cB, 9000, .inl ft)), (h, .inr (4, [.int 3, .int (wI (hsF ft 31 1 0))]))] H := hP
        have hD : va_D A [(ta, .inr (7, [.ref tb, .int (nI L)])), (tb, .inl (cB, 9000, .inl ft)), (h, .inr (4, [.int 3, .int (wI (hsF ft 31 1 0))]))] := hD
        refine g_topi (y := 0) hr_60 ?_
        have hP9 := hP.sub (ws' := [(h, .inr (4, [.int 3, .int (wI (hsF ft 31 1 0))])), (ta, .inr (7, [.ref tb, .int (nI L)])), (tb, .inl (cB, 9000, .inl ft))]) [2, 0, 1] rfl
        have hD9 := hD.sub (ws' := [(h, .inr (4, [.int 3, .int (wI (hsF ft 31 1 0))])), (ta, .inr (7, [.ref tb, .int (nI L)])), (tb, .inl (cB, 9000, .inl ft))]) [2, 0, 1] (by decide +kernel) rfl
        have hK9 := hK.sub (tys' := []) [] rfl
        exact W.zret (v := 0) hx hb hr (by decide) (fun t ht hW => ⟨⟨0, _, rfl, (Or.inr ⟨3, (wI (hsF ft 31 1 0)), rfl, rfl, fk.1, fk.2.1, fk.2.2⟩), by rw [ht]; exact hP9, va_K.moved hW.alike hK9, hD9⟩, hS.F ht⟩) hS.2.2 dX4_accepts_63
      refine lv_aload_n hx hb dX4_accepts_47 rfl (lv_at hl 2 rfl) ?_
      refine g_calli (wr := [(h, .inr (4, [.int x0, .int x1]))]) (va_runS (As := [.ref ta]) (rest := []) ⟨hx, hb, hml, hown, hts⟩ (x_wrongSong l dC dI H.size ta tb cB ft L (hL) (by omega)) (va_cwS 1 hts (gG_S kw_323 kw_324 kw_30 kw_325) rfl rfl rfl (by decide +kernel) ⟨Nat.le_of_ble_eq_true rfl, Nat.le_of_ble_eq_true rfl⟩) (g_preS hP hD hK hS hA hN hZ [1, 2] (by decide +kernel) rfl [0] rfl) rfl rfl hl.1 rfl (lv_room (Nat.le_of_ble_eq_true rfl)) dX4_accepts_48 ⟨Nat.le_of_ble_eq_true rfl, Nat.le_of_ble_eq_true rfl⟩) hP hD hK hS hA [1, 2] [0] rfl rfl (by decide +kernel) (by decide +kernel) (fun r_48 w ty1 H locs hw_48 hP hD _ hS => ?_)
      rcases hw_48 with ⟨hu, hr_48⟩
      cases hu
      have hP : va_P (dC, dI) vwCl [(h, .inr (4, [.int x0, .int x1])), (ta, .inr (7, [.ref tb, .int (nI L)])), (tb, .inl (cB, 9000, .inl ft))] H := hP
      have hD : va_D A [(h, .inr (4, [.int x0, .int x1])), (ta, .inr (7, [.ref tb, .int (nI L)])), (tb, .inl (cB, 9000, .inl ft))] := hD
      refine g_topi (y := wI (sgG ft)) hr_48 ?_
      refine lv_istore_n (lv' := [(2, .int (wI (sgG ft))), (0, .ref h), (1, .ref ta)]) hx hb dX4_accepts_51 rfl hl (by decide) rfl (fun ls hl => ?_)
      refine lv_iload_n hx hb dX4_accepts_52 rfl (lv_at hl 0 rfl) ?_
      refine lv_iconst (v := (-1)) hx hb dX4_accepts_53 (by decide) ?_
      refine lv_icmp_eq (tgt := 64) hx hb dX4_accepts_54 (by decide) (fun c_54 => ?_) (fun c_54 => ?_)
      · have hs0 := wI_m1 (by have := hsF_lt ft 31 1 0 (by decide); omega) c_44
        have hg0 := wI_m1 (by have := sgG_lt ft; omega) c_54
        have hd0 : hdF ft = 0 := (hd_g hs0).trans hg0
        have hb95 := sgG_0 hg0
        refine lv_aload_n hx hb dX4_accepts_64 rfl (lv_at hl 2 rfl) ?_
        refine va_get (D := (dC, dI)) (ci := 7) (v := .int (nI L)) (C := RX7) (T := TX7) (N := 2) hx hb hts iwX7 hown hK hP 1 rfl rfl 1 (by decide) (hts (.fieldLink RX4 30 "ModulePlayer$Tape" "length" "I") (List.mem_cons_of_mem _ kw_287)) (fun _ h9 => h9) rfl dX4_accepts_65 ?_
        refine lv_aload_n hx hb dX4_accepts_68 rfl (lv_at hl 2 rfl) ?_
        refine g_calli (wr := [(h, .inr (4, [.int x0, .int x1]))]) (va_runS (As := [.ref ta]) (rest := [.int (nI L)]) ⟨hx, hb, hml, hown, hts⟩ (x_bytesNeeded l dC dI H.size ta tb cB ft L (hL) (by omega) (hb95.1) (hb95.2)) (va_cwS 1 hts (gG_S kw_326 kw_327 kw_30 kw_328) rfl rfl rfl (by decide +kernel) ⟨Nat.le_of_ble_eq_true rfl, Nat.le_of_ble_eq_true rfl⟩) (g_preS hP hD hK hS hA hN hZ [1, 2] (by decide +kernel) rfl [0] rfl) rfl rfl hl.1 rfl (lv_room (Nat.le_of_ble_eq_true rfl)) dX4_accepts_69 ⟨Nat.le_of_ble_eq_true rfl, Nat.le_of_ble_eq_true rfl⟩) hP hD hK hS hA [1, 2] [0] rfl rfl (by decide +kernel) (by decide +kernel) (fun r_69 w ty1 H locs hw_69 hP hD _ hS => ?_)
        rcases hw_69 with ⟨hu, hr_69⟩
        cases hu
        have hP : va_P (dC, dI) vwCl [(h, .inr (4, [.int x0, .int x1])), (ta, .inr (7, [.ref tb, .int (nI L)])), (tb, .inl (cB, 9000, .inl ft))] H := hP
        have hD : va_D A [(h, .inr (4, [.int x0, .int x1])), (ta, .inr (7, [.ref tb, .int (nI L)])), (tb, .inl (cB, 9000, .inl ft))] := hD
        refine g_topi (y := nI (needF ft)) hr_69 ?_
        refine lv_icmp_ge (tgt := 85) hx hb dX4_accepts_72 (by decide) (fun c_72 => ?_) (fun c_72 => ?_)
        · refine lv_aload_n hx hb dX4_accepts_85 rfl (lv_at hl 1 rfl) ?_
          refine lv_iconst (v := 0) hx hb dX4_accepts_86 (by decide) ?_
          refine va_put (D := (dC, dI)) (ci := 4) (v := .int 0) (ty := tyX4 0) (C := RX4) (T := TX4) (N := 2) hx hb hts iwX4 tyX4 tyX4_ok nmX4 hown hK hP hD hS 0 rfl rfl 0 (by decide) (hts (.fieldLink RX4 11 "ModulePlayer$Reader" "fault" "I") (List.mem_cons_of_mem _ kw_71)) (fun _ h9 => h9) rfl (by decide +kernel) (rfl) (rfl) (Nat.le_of_ble_eq_true rfl) dX4_accepts_87 (fun H locs hP hD hS => ?_)
          have hP : va_P (dC, dI) vwCl [(h, .inr (4, [.int 0, .int x1])), (ta, .inr (7, [.ref tb, .int (nI L)])), (tb, .inl (cB, 9000, .inl ft))] H := hP
          have hD : va_D A [(h, .inr (4, [.int 0, .int x1])), (ta, .inr (7, [.ref tb, .int (nI L)])), (tb, .inl (cB, 9000, .inl ft))] := hD
          refine lv_aload_n hx hb dX4_accepts_90 rfl (lv_at hl 1 rfl) ?_
          refine lv_iconst (v := (-1)) hx hb dX4_accepts_91 (by decide) ?_
          refine va_put (D := (dC, dI)) (ci := 4) (v := .int (-1)) (ty := tyX4 1) (C := RX4) (T := TX4) (N := 2) hx hb hts iwX4 tyX4 tyX4_ok nmX4 hown hK hP hD hS 0 rfl rfl 1 (by decide) (hts (.fieldLink RX4 15 "ModulePlayer$Reader" "faultPlace" "I") (List.mem_cons_of_mem _ kw_72)) (fun _ h9 => h9) rfl (by decide +kernel) (rfl) (rfl) (Nat.le_of_ble_eq_true rfl) dX4_accepts_92 (fun H locs hP hD hS => ?_)
          have hP : va_P (dC, dI) vwCl [(h, .inr (4, [.int 0, .int (-1)])), (ta, .inr (7, [.ref tb, .int (nI L)])), (tb, .inl (cB, 9000, .inl ft))] H := hP
          have hD : va_D A [(h, .inr (4, [.int 0, .int (-1)])), (ta, .inr (7, [.ref tb, .int (nI L)])), (tb, .inl (cB, 9000, .inl ft))] := hD
          refine lv_iconst (v := 1) hx hb dX4_accepts_95 (by decide) ?_
          have hP9 := hP
          have hD9 := hD
          have hK9 := hK.sub (tys' := []) [] rfl
          exact W.zret (v := 1) hx hb hr (by decide) (fun t ht hW => ⟨⟨1, _, rfl, (Or.inl ⟨rfl, rfl, (fk_0 hn8 hm0 hd0 (fun qv => by have := nI_le' c_72 (by have := need_lt ft; omega) (by omega); omega))⟩), by rw [ht]; exact hP9, va_K.moved hW.alike hK9, hD9⟩, hS.F ht⟩) hS.2.2 dX4_accepts_96
        have fk := fk_4 hn8 hm0 hd0 (nI_nle' c_72 (by omega))
        refine lv_aload_n hx hb dX4_accepts_75 rfl (lv_at hl 1 rfl) ?_
        refine lv_iconst (v := 4) hx hb dX4_accepts_76 (by decide) ?_
        refine lv_aload_n hx hb dX4_accepts_77 rfl (lv_at hl 2 rfl) ?_
        refine va_get (D := (dC, dI)) (ci := 7) (v := .int (nI L)) (C := RX7) (T := TX7) (N := 2) hx hb hts iwX7 hown hK hP 1 rfl rfl 1 (by decide) (hts (.fieldLink RX4 30 "ModulePlayer$Tape" "length" "I") (List.mem_cons_of_mem _ kw_287)) (fun _ h9 => h9) rfl dX4_accepts_78 ?_
        refine g_calli (wr := [(ta, .inr (7, [.ref tb, .int (nI L)])), (tb, .inl (cB, 9000, .inl ft))]) (va_runV (As := [.int 4, .int (nI L)]) (rest := []) ⟨hx, hb, hml, hown, hts⟩ (c_refuse l dC dI H.size h x0 x1 4 (nI L) ) (cwV 2 hts (gG_V kw_288 kw_289 kw_290 kw_30 kw_291) rfl rfl rfl (by decide +kernel) ⟨Nat.le_of_ble_eq_true rfl, Nat.le_of_ble_eq_true rfl⟩) (g_preV (C := RX4) (T := TX4) (N := 2) hP hD hK hS hA hN hZ (q0 := 0) rfl rfl [0] (by decide +kernel) rfl [] rfl) rfl rfl hl.1 rfl (lv_room (Nat.le_of_ble_eq_true rfl)) dX4_accepts_81 ⟨Nat.le_of_ble_eq_true rfl, Nat.le_of_ble_eq_true rfl⟩) hP hD hK hS hA [0] [1, 2] rfl rfl (by decide +kernel) (by decide +kernel) (fun r_81 w ty1 H locs hw_81 hP hD _ hS => ?_)
        rcases hw_81 with ⟨hu, hr_81⟩
        cases hu
        have hP : va_P (dC, dI) vwCl [(ta, .inr (7, [.ref tb, .int (nI L)])), (tb, .inl (cB, 9000, .inl ft)), (h, .inr (4, [.int 4, .int (nI L)]))] H := hP
        have hD : va_D A [(ta, .inr (7, [.ref tb, .int (nI L)])), (tb, .inl (cB, 9000, .inl ft)), (h, .inr (4, [.int 4, .int (nI L)]))] := hD
        refine g_topi (y := 0) hr_81 ?_
        have hP9 := hP.sub (ws' := [(h, .inr (4, [.int 4, .int (nI L)])), (ta, .inr (7, [.ref tb, .int (nI L)])), (tb, .inl (cB, 9000, .inl ft))]) [2, 0, 1] rfl
        have hD9 := hD.sub (ws' := [(h, .inr (4, [.int 4, .int (nI L)])), (ta, .inr (7, [.ref tb, .int (nI L)])), (tb, .inl (cB, 9000, .inl ft))]) [2, 0, 1] (by decide +kernel) rfl
        have hK9 := hK.sub (tys' := []) [] rfl
        exact W.zret (v := 0) hx hb hr (by decide) (fun t ht hW => ⟨⟨0, _, rfl, (Or.inr ⟨4, (nI L), rfl, rfl, fk.1, fk.2.1, fk.2.2⟩), by rw [ht]; exact hP9, va_K.moved hW.alike hK9, hD9⟩, hS.F ht⟩) hS.2.2 dX4_accepts_84
      have hs0 := wI_m1 (by have := hsF_lt ft 31 1 0 (by decide); omega) c_44
      have hg9 := wI_ne c_54
      have fk := fk_3 hn8 hm0 (by rw [hd_g hs0]; exact hg9)
      rw [hd_g hs0] at fk
      refine lv_aload_n hx hb dX4_accepts_57 rfl (lv_at hl 1 rfl) ?_
      refine lv_iconst (v := 3) hx hb dX4_accepts_58 (by decide) ?_
      refine lv_iload_n hx hb dX4_accepts_59 rfl (lv_at hl 0 rfl) ?_
      refine g_calli (wr := [(ta, .inr (7, [.ref tb, .int (nI L)])), (tb, .inl (cB, 9000, .inl ft))]) (va_runV (As := [.int 3, .int (wI (sgG ft))]) (rest := []) ⟨hx, hb, hml, hown, hts⟩ (c_refuse l dC dI H.size h x0 x1 3 (wI (sgG ft)) ) (cwV 2 hts (gG_V kw_288 kw_289 kw_290 kw_30 kw_291) rfl rfl rfl (by decide +kernel) ⟨Nat.le_of_ble_eq_true rfl, Nat.le_of_ble_eq_true rfl⟩) (g_preV (C := RX4) (T := TX4) (N := 2) hP hD hK hS hA hN hZ (q0 := 0) rfl rfl [0] (by decide +kernel) rfl [] rfl) rfl rfl hl.1 rfl (lv_room (Nat.le_of_ble_eq_true rfl)) dX4_accepts_60 ⟨Nat.le_of_ble_eq_true rfl, Nat.le_of_ble_eq_true rfl⟩) hP hD hK hS hA [0] [1, 2] rfl rfl (by decide +kernel) (by decide +kernel) (fun r_60 w ty1 H locs hw_60 hP hD _ hS => ?_)
      rcases hw_60 with ⟨hu, hr_60⟩
      cases hu
      have hP : va_P (dC, dI) vwCl [(ta, .inr (7, [.ref tb, .int (nI L)])), (tb, .inl (cB, 9000, .inl ft)), (h, .inr (4, [.int 3, .int (wI (sgG ft))]))] H := hP
      have hD : va_D A [(ta, .inr (7, [.ref tb, .int (nI L)])), (tb, .inl (cB, 9000, .inl ft)), (h, .inr (4, [.int 3, .int (wI (sgG ft))]))] := hD
      refine g_topi (y := 0) hr_60 ?_
      have hP9 := hP.sub (ws' := [(h, .inr (4, [.int 3, .int (wI (sgG ft))])), (ta, .inr (7, [.ref tb, .int (nI L)])), (tb, .inl (cB, 9000, .inl ft))]) [2, 0, 1] rfl
      have hD9 := hD.sub (ws' := [(h, .inr (4, [.int 3, .int (wI (sgG ft))])), (ta, .inr (7, [.ref tb, .int (nI L)])), (tb, .inl (cB, 9000, .inl ft))]) [2, 0, 1] (by decide +kernel) rfl
      have hK9 := hK.sub (tys' := []) [] rfl
      exact W.zret (v := 0) hx hb hr (by decide) (fun t ht hW => ⟨⟨0, _, rfl, (Or.inr ⟨3, (wI (sgG ft)), rfl, rfl, fk.1, fk.2.1, fk.2.2⟩), by rw [ht]; exact hP9, va_K.moved hW.alike hK9, hD9⟩, hS.F ht⟩) hS.2.2 dX4_accepts_63
    have fk := fk_2 hn8 (wI_ne c_27)
    refine lv_aload_n hx hb dX4_accepts_30 rfl (lv_at hl 1 rfl) ?_
    refine lv_iconst (v := 2) hx hb dX4_accepts_31 (by decide) ?_
    refine lv_iload_n hx hb dX4_accepts_32 rfl (lv_at hl 0 rfl) ?_
    refine g_calli (wr := [(ta, .inr (7, [.ref tb, .int (nI L)])), (tb, .inl (cB, 9000, .inl ft))]) (va_runV (As := [.int 2, .int (wI (mkF ft))]) (rest := []) ⟨hx, hb, hml, hown, hts⟩ (c_refuse l dC dI H.size h x0 x1 2 (wI (mkF ft)) ) (cwV 2 hts (gG_V kw_288 kw_289 kw_290 kw_30 kw_291) rfl rfl rfl (by decide +kernel) ⟨Nat.le_of_ble_eq_true rfl, Nat.le_of_ble_eq_true rfl⟩) (g_preV (C := RX4) (T := TX4) (N := 2) hP hD hK hS hA hN hZ (q0 := 0) rfl rfl [0] (by decide +kernel) rfl [] rfl) rfl rfl hl.1 rfl (lv_room (Nat.le_of_ble_eq_true rfl)) dX4_accepts_33 ⟨Nat.le_of_ble_eq_true rfl, Nat.le_of_ble_eq_true rfl⟩) hP hD hK hS hA [0] [1, 2] rfl rfl (by decide +kernel) (by decide +kernel) (fun r_33 w ty1 H locs hw_33 hP hD _ hS => ?_)
    rcases hw_33 with ⟨hu, hr_33⟩
    cases hu
    have hP : va_P (dC, dI) vwCl [(ta, .inr (7, [.ref tb, .int (nI L)])), (tb, .inl (cB, 9000, .inl ft)), (h, .inr (4, [.int 2, .int (wI (mkF ft))]))] H := hP
    have hD : va_D A [(ta, .inr (7, [.ref tb, .int (nI L)])), (tb, .inl (cB, 9000, .inl ft)), (h, .inr (4, [.int 2, .int (wI (mkF ft))]))] := hD
    refine g_topi (y := 0) hr_33 ?_
    have hP9 := hP.sub (ws' := [(h, .inr (4, [.int 2, .int (wI (mkF ft))])), (ta, .inr (7, [.ref tb, .int (nI L)])), (tb, .inl (cB, 9000, .inl ft))]) [2, 0, 1] rfl
    have hD9 := hD.sub (ws' := [(h, .inr (4, [.int 2, .int (wI (mkF ft))])), (ta, .inr (7, [.ref tb, .int (nI L)])), (tb, .inl (cB, 9000, .inl ft))]) [2, 0, 1] (by decide +kernel) rfl
    have hK9 := hK.sub (tys' := []) [] rfl
    exact W.zret (v := 0) hx hb hr (by decide) (fun t ht hW => ⟨⟨0, _, rfl, (Or.inr ⟨2, (wI (mkF ft)), rfl, rfl, fk.1, fk.2.1, fk.2.2⟩), by rw [ht]; exact hP9, va_K.moved hW.alike hK9, hD9⟩, hS.F ht⟩) hS.2.2 dX4_accepts_36
  have fk := fk_1 (ft := ft) (nI_nle' (a := 1084) c_7 (by omega))
  refine lv_aload_n hx hb dX4_accepts_10 rfl (lv_at hl 0 rfl) ?_
  refine lv_iconst (v := 1) hx hb dX4_accepts_11 (by decide) ?_
  refine lv_aload_n hx hb dX4_accepts_12 rfl (lv_at hl 1 rfl) ?_
  refine va_get (D := (dC, dI)) (ci := 7) (v := .int (nI L)) (C := RX7) (T := TX7) (N := 2) hx hb hts iwX7 hown hK hP 1 rfl rfl 1 (by decide) (hts (.fieldLink RX4 30 "ModulePlayer$Tape" "length" "I") (List.mem_cons_of_mem _ kw_287)) (fun _ h9 => h9) rfl dX4_accepts_13 ?_
  refine g_calli (wr := [(ta, .inr (7, [.ref tb, .int (nI L)])), (tb, .inl (cB, 9000, .inl ft))]) (va_runV (As := [.int 1, .int (nI L)]) (rest := []) ⟨hx, hb, hml, hown, hts⟩ (c_refuse l dC dI H.size h x0 x1 1 (nI L) ) (cwV 2 hts (gG_V kw_288 kw_289 kw_290 kw_30 kw_291) rfl rfl rfl (by decide +kernel) ⟨Nat.le_of_ble_eq_true rfl, Nat.le_of_ble_eq_true rfl⟩) (g_preV (C := RX4) (T := TX4) (N := 2) hP hD hK hS hA hN hZ (q0 := 0) rfl rfl [0] (by decide +kernel) rfl [] rfl) rfl rfl hl.1 rfl (lv_room (Nat.le_of_ble_eq_true rfl)) dX4_accepts_16 ⟨Nat.le_of_ble_eq_true rfl, Nat.le_of_ble_eq_true rfl⟩) hP hD hK hS hA [0] [1, 2] rfl rfl (by decide +kernel) (by decide +kernel) (fun r_16 w ty1 H locs hw_16 hP hD _ hS => ?_)
  rcases hw_16 with ⟨hu, hr_16⟩
  cases hu
  have hP : va_P (dC, dI) vwCl [(ta, .inr (7, [.ref tb, .int (nI L)])), (tb, .inl (cB, 9000, .inl ft)), (h, .inr (4, [.int 1, .int (nI L)]))] H := hP
  have hD : va_D A [(ta, .inr (7, [.ref tb, .int (nI L)])), (tb, .inl (cB, 9000, .inl ft)), (h, .inr (4, [.int 1, .int (nI L)]))] := hD
  refine g_topi (y := 0) hr_16 ?_
  have hP9 := hP.sub (ws' := [(h, .inr (4, [.int 1, .int (nI L)])), (ta, .inr (7, [.ref tb, .int (nI L)])), (tb, .inl (cB, 9000, .inl ft))]) [2, 0, 1] rfl
  have hD9 := hD.sub (ws' := [(h, .inr (4, [.int 1, .int (nI L)])), (ta, .inr (7, [.ref tb, .int (nI L)])), (tb, .inl (cB, 9000, .inl ft))]) [2, 0, 1] (by decide +kernel) rfl
  have hK9 := hK.sub (tys' := []) [] rfl
  exact W.zret (v := 0) hx hb hr (by decide) (fun t ht hW => ⟨⟨0, _, rfl, (Or.inr ⟨1, (nI L), rfl, rfl, fk.1, fk.2.1, fk.2.2⟩), by rw [ht]; exact hP9, va_K.moved hW.alike hK9, hD9⟩, hS.F ht⟩) hS.2.2 dX4_accepts_19

set_option maxHeartbeats 400000 in
set_option maxRecDepth 100000 in
theorem x_mHead (l : Launch) (dC : Nat → ClassId) (dI : Nat → Nat → Nat) (sz : Nat) (h : Nat) (qa : Nat → Nat) (x0 x2 x3 x4 x13 x14 x15 x16 x17 x18 x19 x20 x21 x22 x23 x24 x26 x27 x28 : Int32) (cB : ClassId) (ft : Nat → Int32) : Met l yX11_wrongHead (wsG (.code yX11_wrongHead cX11_wrongHead 6 (some .int))) ({ frames := 2, cells := 0, slots := 0, locals := 42 }) (va_Pc [.ref h] (gP (dC, dI) [(cB, .byte)] [(h, .inr (10, mdF qa x0 x2 x3 x4 x13 x14 x15 x16 x17 x18 x19 x20 x21 x22 x23 x24 x26 x27 x28)), (qa 1, .inl (cB, 9000, .inl ft))] sz)) (va_Qi (fun (r : Int32) (u : va_W × gT) => u = ([(h, .inr (10, mdF qa x0 x2 x3 x4 x13 x14 x15 x16 x17 x18 x19 x20 x21 x22 x23 x24 x26 x27 x28)), (qa 1, .inl (cB, 9000, .inl ft))], []) ∧ r = wI (hdF ft)) (gB (dC, dI) (va_A [(h, .inr (10, mdF qa x0 x2 x3 x4 x13 x14 x15 x16 x17 x18 x19 x20 x21 x22 x23 x24 x26 x27 x28)), (qa 1, .inl (cB, 9000, .inl ft))] sz)) (va_A [(h, .inr (10, mdF qa x0 x2 x3 x4 x13 x14 x15 x16 x17 x18 x19 x20 x21 x22 x23 x24 x26 x27 x28)), (qa 1, .inl (cB, 9000, .inl ft))] sz)) 0 0 (va_A [(h, .inr (10, mdF qa x0 x2 x3 x4 x13 x14 x15 x16 x17 x18 x19 x20 x21 x22 x23 x24 x26 x27 x28)), (qa 1, .inl (cB, 9000, .inl ft))] sz) := by
  refine Met.ofW (cc := cX11_wrongHead) (maxL := 6) (ret := (some .int)) (by decide) rfl ?_
  intro p e s m args below meth c s₁ B hml hv
  obtain ⟨rfl, hsz, hP, hK, hD0, hN, hZ⟩ := hv
  have hx := B.exec
  have hb := B.bytes
  have hr := B.returns
  have hts := atoms_spec (ws := (wsG (.code yX11_wrongHead cX11_wrongHead 6 (some .int)))) B.pre
  have hown : s.vm.findClass RX11 = some m.cls := findClass_of_methodNamed B.named
  have hlocks := B.notSynchronized
  subst hsz
  have hD := hD0.self (sz := s.heap.size)
  generalize hAe : va_A [(h, .inr (10, mdF qa x0 x2 x3 x4 x13 x14 x15 x16 x17 x18 x19 x20 x21 x22 x23 x24 x26 x27 x28)), (qa 1, .inl (cB, 9000, .inl ft))] s.heap.size = A at hD hZ ⊢
  have hA : ∀ q : Nat, s.heap.size ≤ q → A q := fun q h => by rw [← hAe]; exact Or.inr h
  have hl := lv_entry ([.ref h]) (n := 6) (Nat.le_of_ble_eq_true rfl)
  rw [lg_entry_eq]
  generalize (lg_sl ([.ref h]) ++ List.replicate (6 - (lg_sl ([.ref h])).length) Slot.unset).toArray = ls at hl ⊢
  have hl : lv_has ls 6 [(0, .ref h)] := hl
  refine g_start (A := A) hP (fun H locs hP hS => ?_)
  refine lv_iconst (v := 0) hx hb dX11_wrongHead_0 (by decide) ?_
  refine lv_istore_n (lv' := [(1, .int 0), (0, .ref h)]) hx hb dX11_wrongHead_1 rfl hl (by decide) rfl (fun ls hl => ?_)
  refine lv_iconst (v := 1) hx hb dX11_wrongHead_2 (by decide) ?_
  refine lv_istore_n (lv' := [(2, .int 1), (1, .int 0), (0, .ref h)]) hx hb dX11_wrongHead_3 rfl hl (by decide) rfl (fun ls hl => ?_)
  have LP4 : ∀ (fu4 : Nat) (q4 : Nat) (ah : Nat) (hq4a : 1 ≤ q4) (hq4 : q4 ≤ 32) (hah : ah ≤ 4000) (hhv : hsF ft (32 - q4) q4 ah = hsF ft 31 1 0) (hm4 : 32 - q4 < fu4) (H : Heap) (locs : List Loc), va_P (dC, dI) vwCl [(h, .inr (10, mdF qa x0 x2 x3 x4 x13 x14 x15 x16 x17 x18 x19 x20 x21 x22 x23 x24 x26 x27 x28)), (qa 1, .inl (cB, 9000, .inl ft))] H → va_D A [(h, .inr (10, mdF qa x0 x2 x3 x4 x13 x14 x15 x16 x17 x18 x19 x20 x21 x22 x23 x24 x26 x27 x28)), (qa 1, .inl (cB, 9000, .inl ft))] → va_S A s.heap H locs → ∀ ls : Array Slot, lv_has ls 6 [(2, .int (nI q4)), (1, .int (nI ah)), (0, .ref h)] → W p l e ({ frames := 2, cells := 0, slots := 0, locals := 42 }) s m ([.ref h] : List Value).toArray below meth c H locs (0) (0) (MQ below (va_Qi (fun (r : Int32) (u : va_W × gT) => u = ([(h, .inr (10, mdF qa x0 x2 x3 x4 x13 x14 x15 x16 x17 x18 x19 x20 x21 x22 x23 x24 x26 x27 x28)), (qa 1, .inl (cB, 9000, .inl ft))], []) ∧ r = wI (hdF ft)) (gB (dC, dI) A) A) ([.ref h] : List Value).toArray s 0 0 A) (F0 m 4 ls []) := by
    intro fu4
    induction fu4 with
    | zero => intro q4 ah hq4a hq4 hah hhv hm4; exact absurd hm4 (Nat.not_lt_zero _)
    | succ fu4 ih4 =>
      intro q4 ah hq4a hq4 hah hhv hm4 H locs hP hD hS ls hl
      refine lv_iload_n hx hb dX11_wrongHead_4 rfl (lv_at hl 0 rfl) ?_
      refine lv_bipush (v := 32) hx hb dX11_wrongHead_5 (by decide) ?_
      refine lv_icmp_ge (tgt := 136) hx hb dX11_wrongHead_7 (by decide) (fun c_7 => ?_) (fun c_7 => ?_)
      · have hs0 : hsF ft 31 1 0 = 0 := by rw [← hhv, show q4 = 32 by have := nI_le' (a := 32) c_7 (by decide) (by omega); omega]; rfl
        have hb95 := by8_lt ft 950
        refine lv_aload_n hx hb dX11_wrongHead_136 rfl (lv_at hl 2 rfl) ?_
        refine lv_sipush (v := 950) hx hb dX11_wrongHead_137 (by decide) ?_
        refine g_calli (wr := []) (va_runV (As := [.int 950]) (rest := []) ⟨hx, hb, hml, hown, hts⟩ (m_one l dC dI H.size h qa x0 x2 x3 x4 x13 x14 x15 x16 x17 x18 x19 x20 x21 x22 x23 x24 x26 x27 x28 cB ft 950 (by decide)) (cwV 1 hts (gG_V kw_431 kw_432 kw_433 kw_5 kw_434) rfl rfl rfl (by decide +kernel) ⟨Nat.le_of_ble_eq_true rfl, Nat.le_of_ble_eq_true rfl⟩) (g_preV (C := RX11) (T := TX11) (N := 53) hP hD hK hS hA hN hZ (q0 := 0) rfl rfl [0, 1] (by decide +kernel) rfl [0] rfl) rfl rfl hl.1 rfl (lv_room (Nat.le_of_ble_eq_true rfl)) dX11_wrongHead_140 ⟨Nat.le_of_ble_eq_true rfl, Nat.le_of_ble_eq_true rfl⟩) hP hD hK hS hA [0, 1] [] rfl rfl (by decide +kernel) (by decide +kernel) (fun r_140 w ty1 H locs hw_140 hP hD _ hS => ?_)
        rcases hw_140 with ⟨hu, hr_140⟩
        cases hu
        have hP : va_P (dC, dI) vwCl [(h, .inr (10, mdF qa x0 x2 x3 x4 x13 x14 x15 x16 x17 x18 x19 x20 x21 x22 x23 x24 x26 x27 x28)), (qa 1, .inl (cB, 9000, .inl ft))] H := hP
        have hD : va_D A [(h, .inr (10, mdF qa x0 x2 x3 x4 x13 x14 x15 x16 x17 x18 x19 x20 x21 x22 x23 x24 x26 x27 x28)), (qa 1, .inl (cB, 9000, .inl ft))] := hD
        refine g_topi (y := nI (by8 ft 950)) hr_140 ?_
        refine lv_iconst (v := 1) hx hb dX11_wrongHead_143 (by decide) ?_
        refine lv_sipush (v := 128) hx hb dX11_wrongHead_144 (by decide) ?_
        refine g_calli (wr := [(h, .inr (10, mdF qa x0 x2 x3 x4 x13 x14 x15 x16 x17 x18 x19 x20 x21 x22 x23 x24 x26 x27 x28)), (qa 1, .inl (cB, 9000, .inl ft))]) (va_runS (As := [.int (nI (by8 ft 950)), .int 1, .int 128]) (rest := []) ⟨hx, hb, hml, hown, hts⟩ (m_in l dC dI H.size (nI (by8 ft 950)) 1 128 ) (va_cwS 3 hts (gG_S kw_266 kw_267 kw_5 kw_268) rfl rfl rfl (by decide +kernel) ⟨Nat.le_of_ble_eq_true rfl, Nat.le_of_ble_eq_true rfl⟩) (g_preS hP hD hK hS hA hN hZ [] (by decide) rfl [] rfl) rfl rfl hl.1 rfl (lv_room (Nat.le_of_ble_eq_true rfl)) dX11_wrongHead_147 ⟨Nat.le_of_ble_eq_true rfl, Nat.le_of_ble_eq_true rfl⟩) hP hD hK hS hA [] [0, 1] rfl rfl (by decide +kernel) (by decide +kernel) (fun r_147 w ty1 H locs hw_147 hP hD _ hS => ?_)
        rcases hw_147 with ⟨hu, hr_147, hh_147⟩ | ⟨hu, hr_147, hh_147⟩
        · cases hu
          have hP : va_P (dC, dI) vwCl [(h, .inr (10, mdF qa x0 x2 x3 x4 x13 x14 x15 x16 x17 x18 x19 x20 x21 x22 x23 x24 x26 x27 x28)), (qa 1, .inl (cB, 9000, .inl ft))] H := hP
          have hD : va_D A [(h, .inr (10, mdF qa x0 x2 x3 x4 x13 x14 x15 x16 x17 x18 x19 x20 x21 x22 x23 x24 x26 x27 x28)), (qa 1, .inl (cB, 9000, .inl ft))] := hD
          refine g_topi (y := 1) hr_147 ?_
          have hwp := in128 (by8_lt ft 950) hh_147
          have hsr : ¬ (by8 ft 950 < 1 ∨ 128 < by8 ft 950) := by omega
          refine lv_if_ne (tgt := 157) hx hb dX11_wrongHead_150 (by decide) (fun c_150 => ?_) (fun c_150 => absurd c_150 (by decide))
          refine lv_iconst (v := 0) hx hb dX11_wrongHead_157 (by decide) ?_
          refine lv_istore_n (lv' := [(2, .int 0), (1, .int (nI ah)), (0, .ref h)]) hx hb dX11_wrongHead_158 rfl hl (by decide) rfl (fun ls hl => ?_)
          have LP159 : ∀ (fu159 : Nat) (q159 : Nat) (hq159 : q159 ≤ by8 ft 950) (hsv : sgF ft (by8 ft 950 - q159) q159 = sgF ft (by8 ft 950) 0) (hm159 : by8 ft 950 - q159 < fu159) (H : Heap) (locs : List Loc), va_P (dC, dI) vwCl [(h, .inr (10, mdF qa x0 x2 x3 x4 x13 x14 x15 x16 x17 x18 x19 x20 x21 x22 x23 x24 x26 x27 x28)), (qa 1, .inl (cB, 9000, .inl ft))] H → va_D A [(h, .inr (10, mdF qa x0 x2 x3 x4 x13 x14 x15 x16 x17 x18 x19 x20 x21 x22 x23 x24 x26 x27 x28)), (qa 1, .inl (cB, 9000, .inl ft))] → va_S A s.heap H locs → ∀ ls : Array Slot, lv_has ls 6 [(2, .int (nI q159)), (0, .ref h)] → W p l e ({ frames := 2, cells := 0, slots := 0, locals := 42 }) s m ([.ref h] : List Value).toArray below meth c H locs (0) (0) (MQ below (va_Qi (fun (r : Int32) (u : va_W × gT) => u = ([(h, .inr (10, mdF qa x0 x2 x3 x4 x13 x14 x15 x16 x17 x18 x19 x20 x21 x22 x23 x24 x26 x27 x28)), (qa 1, .inl (cB, 9000, .inl ft))], []) ∧ r = wI (hdF ft)) (gB (dC, dI) A) A) ([.ref h] : List Value).toArray s 0 0 A) (F0 m 159 ls []) := by
            intro fu159
            induction fu159 with
            | zero => intro q159 hq159 hsv hm159; exact absurd hm159 (Nat.not_lt_zero _)
            | succ fu159 ih159 =>
              intro q159 hq159 hsv hm159 H locs hP hD hS ls hl
              refine lv_iload_n hx hb dX11_wrongHead_159 rfl (lv_at hl 0 rfl) ?_
              refine lv_aload_n hx hb dX11_wrongHead_160 rfl (lv_at hl 1 rfl) ?_
              refine lv_sipush (v := 950) hx hb dX11_wrongHead_161 (by decide) ?_
              refine g_calli (wr := []) (va_runV (As := [.int 950]) (rest := [.int (nI q159)]) ⟨hx, hb, hml, hown, hts⟩ (m_one l dC dI H.size h qa x0 x2 x3 x4 x13 x14 x15 x16 x17 x18 x19 x20 x21 x22 x23 x24 x26 x27 x28 cB ft 950 (by decide)) (cwV 1 hts (gG_V kw_431 kw_432 kw_433 kw_5 kw_434) rfl rfl rfl (by decide +kernel) ⟨Nat.le_of_ble_eq_true rfl, Nat.le_of_ble_eq_true rfl⟩) (g_preV (C := RX11) (T := TX11) (N := 53) hP hD hK hS hA hN hZ (q0 := 0) rfl rfl [0, 1] (by decide +kernel) rfl [0] rfl) rfl rfl hl.1 rfl (lv_room (Nat.le_of_ble_eq_true rfl)) dX11_wrongHead_164 ⟨Nat.le_of_ble_eq_true rfl, Nat.le_of_ble_eq_true rfl⟩) hP hD hK hS hA [0, 1] [] rfl rfl (by decide +kernel) (by decide +kernel) (fun r_164 w ty1 H locs hw_164 hP hD _ hS => ?_)
              rcases hw_164 with ⟨hu, hr_164⟩
              cases hu
              have hP : va_P (dC, dI) vwCl [(h, .inr (10, mdF qa x0 x2 x3 x4 x13 x14 x15 x16 x17 x18 x19 x20 x21 x22 x23 x24 x26 x27 x28)), (qa 1, .inl (cB, 9000, .inl ft))] H := hP
              have hD : va_D A [(h, .inr (10, mdF qa x0 x2 x3 x4 x13 x14 x15 x16 x17 x18 x19 x20 x21 x22 x23 x24 x26 x27 x28)), (qa 1, .inl (cB, 9000, .inl ft))] := hD
              refine g_topi (y := nI (by8 ft 950)) hr_164 ?_
              refine lv_icmp_ge (tgt := 196) hx hb dX11_wrongHead_167 (by decide) (fun c_167 => ?_) (fun c_167 => ?_)
              · refine lv_iconst (v := (-1)) hx hb dX11_wrongHead_196 (by decide) ?_
                have hP9 := hP
                have hD9 := hD
                have hK9 := hK.sub (tys' := []) [] rfl
                exact W.iret (v := (-1)) hx hb hr (fun t ht hW => ⟨⟨(-1), _, rfl, ⟨rfl, wI_0 ((hd_g hs0).trans ((sgG_i hsr).trans (by rw [← hsv, show by8 ft 950 - q159 = 0 by have := nI_le' c_167 (by omega) (by omega); omega]; rfl)))⟩, by rw [ht]; exact hP9, va_K.moved hW.alike hK9, hD9⟩, hS.F ht⟩) hS.2.2 dX11_wrongHead_197
              have hq1593 : q159 < by8 ft 950 := nI_nle' c_167 (by omega)
              have hb8 := by8_lt ft (952 + q159)
              refine lv_aload_n hx hb dX11_wrongHead_170 rfl (lv_at hl 1 rfl) ?_
              refine lv_sipush (v := 952) hx hb dX11_wrongHead_171 (by decide) ?_
              refine lv_iload_n hx hb dX11_wrongHead_174 rfl (lv_at hl 0 rfl) ?_
              refine lv_iadd hx hb dX11_wrongHead_175 ?_
              refine g_topi (y := nI (952 + q159)) (nI_add 952 _) ?_
              refine g_calli (wr := []) (va_runV (As := [.int (nI (952 + q159))]) (rest := []) ⟨hx, hb, hml, hown, hts⟩ (m_one l dC dI H.size h qa x0 x2 x3 x4 x13 x14 x15 x16 x17 x18 x19 x20 x21 x22 x23 x24 x26 x27 x28 cB ft (952 + q159) (by omega)) (cwV 1 hts (gG_V kw_431 kw_432 kw_433 kw_5 kw_434) rfl rfl rfl (by decide +kernel) ⟨Nat.le_of_ble_eq_true rfl, Nat.le_of_ble_eq_true rfl⟩) (g_preV (C := RX11) (T := TX11) (N := 53) hP hD hK hS hA hN hZ (q0 := 0) rfl rfl [0, 1] (by decide +kernel) rfl [0] rfl) rfl rfl hl.1 rfl (lv_room (Nat.le_of_ble_eq_true rfl)) dX11_wrongHead_176 ⟨Nat.le_of_ble_eq_true rfl, Nat.le_of_ble_eq_true rfl⟩) hP hD hK hS hA [0, 1] [] rfl rfl (by decide +kernel) (by decide +kernel) (fun r_176 w ty1 H locs hw_176 hP hD _ hS => ?_)
              rcases hw_176 with ⟨hu, hr_176⟩
              cases hu
              have hP : va_P (dC, dI) vwCl [(h, .inr (10, mdF qa x0 x2 x3 x4 x13 x14 x15 x16 x17 x18 x19 x20 x21 x22 x23 x24 x26 x27 x28)), (qa 1, .inl (cB, 9000, .inl ft))] H := hP
              have hD : va_D A [(h, .inr (10, mdF qa x0 x2 x3 x4 x13 x14 x15 x16 x17 x18 x19 x20 x21 x22 x23 x24 x26 x27 x28)), (qa 1, .inl (cB, 9000, .inl ft))] := hD
              refine g_topi (y := nI (by8 ft (952 + q159))) hr_176 ?_
              refine lv_bipush (v := 8) hx hb dX11_wrongHead_179 (by decide) ?_
              refine lv_icmp_lt (tgt := 190) hx hb dX11_wrongHead_181 (by decide) (fun c_181 => ?_) (fun c_181 => ?_)
              · refine lv_iinc (v := nI (q159 + 1)) (lv' := [(2, .int (nI (q159 + 1))), (0, .ref h)]) hx hb dX11_wrongHead_190 hl (k := 0) rfl (nI_1 q159) (by decide) rfl (fun ls hl => ?_)
                refine lv_goto (tgt := 159) hx hb dX11_wrongHead_193 (by decide) ?_
                exact ih159 (q159 + 1) (by omega) (sg_n' hsv hq1593 (fun qv => by have := nI_lt' (b := 8) c_181 (by omega) (by decide); omega)) (by omega) _ _ hP hD hS _ (lv_sub hl [0, 1] rfl)
              refine lv_sipush (v := 952) hx hb dX11_wrongHead_184 (by decide) ?_
              refine lv_iload_n hx hb dX11_wrongHead_187 rfl (lv_at hl 0 rfl) ?_
              refine lv_iadd hx hb dX11_wrongHead_188 ?_
              refine g_topi (y := nI (952 + q159)) (nI_add 952 _) ?_
              have hP9 := hP
              have hD9 := hD
              have hK9 := hK.sub (tys' := []) [] rfl
              exact W.iret (v := nI (952 + q159)) hx hb hr (fun t ht hW => ⟨⟨nI (952 + q159), _, rfl, ⟨rfl, wI_p ((hd_g hs0).trans ((sgG_i hsr).trans (sg_a hsv hq1593 (nI_nlt2 (b := 8) (a := by8 ft (952 + q159)) (fun qv => c_181 qv) (by decide))))) (by omega)⟩, by rw [ht]; exact hP9, va_K.moved hW.alike hK9, hD9⟩, hS.F ht⟩) hS.2.2 dX11_wrongHead_189
          exact LP159 _ 0 (Nat.zero_le _) (rfl) (Nat.lt_succ_self _) _ _ hP hD hS _ (lv_sub hl [0, 2] rfl)
        cases hu
        have hP : va_P (dC, dI) vwCl [(h, .inr (10, mdF qa x0 x2 x3 x4 x13 x14 x15 x16 x17 x18 x19 x20 x21 x22 x23 x24 x26 x27 x28)), (qa 1, .inl (cB, 9000, .inl ft))] H := hP
        have hD : va_D A [(h, .inr (10, mdF qa x0 x2 x3 x4 x13 x14 x15 x16 x17 x18 x19 x20 x21 x22 x23 x24 x26 x27 x28)), (qa 1, .inl (cB, 9000, .inl ft))] := hD
        refine g_topi (y := 0) hr_147 ?_
        refine lv_if_ne (tgt := 157) hx hb dX11_wrongHead_150 (by decide) (fun c_150 => absurd c_150 (by decide)) (fun c_150 => ?_)
        refine lv_sipush (v := 950) hx hb dX11_wrongHead_153 (by decide) ?_
        have hP9 := hP
        have hD9 := hD
        have hK9 := hK.sub (tys' := []) [] rfl
        exact W.iret (v := 950) hx hb hr (fun t ht hW => ⟨⟨950, _, rfl, ⟨rfl, wI_p (kx := 950) ((hd_g hs0).trans (sgG_o (Decidable.not_not.mp (fun qv => hh_147 (in128' (by8_lt ft 950) qv))))) (by decide)⟩, by rw [ht]; exact hP9, va_K.moved hW.alike hK9, hD9⟩, hS.F ht⟩) hS.2.2 dX11_wrongHead_156
      have hq3 : q4 < 32 := by have := nI_nle' (a := 32) c_7 (by omega); omega
      have htl := tw2_lt ft (30 * q4 + 12)
      refine lv_bipush (v := 30) hx hb dX11_wrongHead_10 (by decide) ?_
      refine lv_iload_n hx hb dX11_wrongHead_12 rfl (lv_at hl 0 rfl) ?_
      refine lv_imul hx hb dX11_wrongHead_13 ?_
      refine g_topi (y := nI (30 * q4)) (pk_mul 30 _) ?_
      refine lv_bipush (v := 10) hx hb dX11_wrongHead_14 (by decide) ?_
      refine lv_isub hx hb dX11_wrongHead_16 ?_
      refine g_topi (y := nI (30 * q4 - 10)) (pk_sub (b := 10) (by omega)) ?_
      refine lv_istore_n (lv' := [(3, .int (nI (30 * q4 - 10))), (2, .int (nI q4)), (1, .int (nI ah)), (0, .ref h)]) hx hb dX11_wrongHead_17 rfl hl (by decide) rfl (fun ls hl => ?_)
      refine lv_aload_n hx hb dX11_wrongHead_18 rfl (lv_at hl 3 rfl) ?_
      refine lv_iload_n hx hb dX11_wrongHead_19 rfl (lv_at hl 0 rfl) ?_
      refine lv_bipush (v := 22) hx hb dX11_wrongHead_20 (by decide) ?_
      refine lv_iadd hx hb dX11_wrongHead_22 ?_
      refine g_topi (y := nI (30 * q4 + 12)) ((nI_add _ 22).trans (up_e (by omega))) ?_
      refine g_calli (wr := []) (va_runV (As := [.int (nI (30 * q4 + 12))]) (rest := []) ⟨hx, hb, hml, hown, hts⟩ (m_two l dC dI H.size h qa x0 x2 x3 x4 x13 x14 x15 x16 x17 x18 x19 x20 x21 x22 x23 x24 x26 x27 x28 cB ft (30 * q4 + 12) (by omega)) (cwV 1 hts (gG_V kw_439 kw_440 kw_441 kw_5 kw_442) rfl rfl rfl (by decide +kernel) ⟨Nat.le_of_ble_eq_true rfl, Nat.le_of_ble_eq_true rfl⟩) (g_preV (C := RX11) (T := TX11) (N := 53) hP hD hK hS hA hN hZ (q0 := 0) rfl rfl [0, 1] (by decide +kernel) rfl [0] rfl) rfl rfl hl.1 rfl (lv_room (Nat.le_of_ble_eq_true rfl)) dX11_wrongHead_23 ⟨Nat.le_of_ble_eq_true rfl, Nat.le_of_ble_eq_true rfl⟩) hP hD hK hS hA [0, 1] [] rfl rfl (by decide +kernel) (by decide +kernel) (fun r_23 w ty1 H locs hw_23 hP hD _ hS => ?_)
      rcases hw_23 with ⟨hu, hr_23⟩
      cases hu
      have hP : va_P (dC, dI) vwCl [(h, .inr (10, mdF qa x0 x2 x3 x4 x13 x14 x15 x16 x17 x18 x19 x20 x21 x22 x23 x24 x26 x27 x28)), (qa 1, .inl (cB, 9000, .inl ft))] H := hP
      have hD : va_D A [(h, .inr (10, mdF qa x0 x2 x3 x4 x13 x14 x15 x16 x17 x18 x19 x20 x21 x22 x23 x24 x26 x27 x28)), (qa 1, .inl (cB, 9000, .inl ft))] := hD
      refine g_topi (y := nI (tw2 ft (30 * q4 + 12))) hr_23 ?_
      refine lv_istore (lv' := [(4, .int (nI (tw2 ft (30 * q4 + 12)))), (3, .int (nI (30 * q4 - 10))), (2, .int (nI q4)), (1, .int (nI ah)), (0, .ref h)]) hx hb dX11_wrongHead_26 hl (by decide) rfl (fun ls hl => ?_)
      refine lv_iload_n hx hb dX11_wrongHead_28 rfl (lv_at hl 3 rfl) ?_
      refine lv_iload hx hb dX11_wrongHead_29 (lv_at hl 0 rfl) ?_
      refine lv_iadd hx hb dX11_wrongHead_31 ?_
      refine g_topi (y := nI (ah + tw2 ft (30 * q4 + 12))) (nI_add _ _) ?_
      refine lv_istore_n (lv' := [(1, .int (nI (ah + tw2 ft (30 * q4 + 12)))), (4, .int (nI (tw2 ft (30 * q4 + 12)))), (3, .int (nI (30 * q4 - 10))), (2, .int (nI q4)), (0, .ref h)]) hx hb dX11_wrongHead_32 rfl hl (by decide) rfl (fun ls hl => ?_)
      refine lv_iload hx hb dX11_wrongHead_33 (lv_at hl 1 rfl) ?_
      refine lv_sipush (v := 2000) hx hb dX11_wrongHead_35 (by decide) ?_
      refine lv_icmp_gt (tgt := 48) hx hb dX11_wrongHead_38 (by decide) (fun c_38 => ?_) (fun c_38 => ?_)
      · refine lv_iload_n hx hb dX11_wrongHead_48 rfl (lv_at hl 2 rfl) ?_
        refine lv_bipush (v := 22) hx hb dX11_wrongHead_49 (by decide) ?_
        refine lv_iadd hx hb dX11_wrongHead_51 ?_
        refine g_topi (y := nI (30 * q4 + 12)) ((nI_add _ 22).trans (up_e (by omega))) ?_
        have hP9 := hP
        have hD9 := hD
        have hK9 := hK.sub (tys' := []) [] rfl
        exact W.iret (v := nI (30 * q4 + 12)) hx hb hr (fun t ht hW => ⟨⟨nI (30 * q4 + 12), _, rfl, ⟨rfl, wI_p (hd_p (hs_a hhv hq3 (Or.inl (nI_lt' (a := 2000) c_38 (by decide) (by omega)))) (by omega)) (by omega)⟩, by rw [ht]; exact hP9, va_K.moved hW.alike hK9, hD9⟩, hS.F ht⟩) hS.2.2 dX11_wrongHead_52
      refine lv_iload_n hx hb dX11_wrongHead_41 rfl (lv_at hl 0 rfl) ?_
      refine lv_sipush (v := 4000) hx hb dX11_wrongHead_42 (by decide) ?_
      refine lv_icmp_le (tgt := 53) hx hb dX11_wrongHead_45 (by decide) (fun c_45 => ?_) (fun c_45 => ?_)
      · refine lv_aload_n hx hb dX11_wrongHead_53 rfl (lv_at hl 4 rfl) ?_
        refine lv_iload_n hx hb dX11_wrongHead_54 rfl (lv_at hl 2 rfl) ?_
        refine lv_bipush (v := 24) hx hb dX11_wrongHead_55 (by decide) ?_
        refine lv_iadd hx hb dX11_wrongHead_57 ?_
        refine g_topi (y := nI (30 * q4 + 14)) ((nI_add _ 24).trans (up_e (by omega))) ?_
        refine g_calli (wr := []) (va_runV (As := [.int (nI (30 * q4 + 14))]) (rest := []) ⟨hx, hb, hml, hown, hts⟩ (m_one l dC dI H.size h qa x0 x2 x3 x4 x13 x14 x15 x16 x17 x18 x19 x20 x21 x22 x23 x24 x26 x27 x28 cB ft (30 * q4 + 14) (by omega)) (cwV 1 hts (gG_V kw_431 kw_432 kw_433 kw_5 kw_434) rfl rfl rfl (by decide +kernel) ⟨Nat.le_of_ble_eq_true rfl, Nat.le_of_ble_eq_true rfl⟩) (g_preV (C := RX11) (T := TX11) (N := 53) hP hD hK hS hA hN hZ (q0 := 0) rfl rfl [0, 1] (by decide +kernel) rfl [0] rfl) rfl rfl hl.1 rfl (lv_room (Nat.le_of_ble_eq_true rfl)) dX11_wrongHead_58 ⟨Nat.le_of_ble_eq_true rfl, Nat.le_of_ble_eq_true rfl⟩) hP hD hK hS hA [0, 1] [] rfl rfl (by decide +kernel) (by decide +kernel) (fun r_58 w ty1 H locs hw_58 hP hD _ hS => ?_)
        rcases hw_58 with ⟨hu, hr_58⟩
        cases hu
        have hP : va_P (dC, dI) vwCl [(h, .inr (10, mdF qa x0 x2 x3 x4 x13 x14 x15 x16 x17 x18 x19 x20 x21 x22 x23 x24 x26 x27 x28)), (qa 1, .inl (cB, 9000, .inl ft))] H := hP
        have hD : va_D A [(h, .inr (10, mdF qa x0 x2 x3 x4 x13 x14 x15 x16 x17 x18 x19 x20 x21 x22 x23 x24 x26 x27 x28)), (qa 1, .inl (cB, 9000, .inl ft))] := hD
        refine g_topi (y := nI (by8 ft (30 * q4 + 14))) hr_58 ?_
        refine lv_bipush (v := 15) hx hb dX11_wrongHead_61 (by decide) ?_
        refine lv_icmp_le (tgt := 71) hx hb dX11_wrongHead_63 (by decide) (fun c_63 => ?_) (fun c_63 => ?_)
        · refine lv_aload_n hx hb dX11_wrongHead_71 rfl (lv_at hl 4 rfl) ?_
          refine lv_iload_n hx hb dX11_wrongHead_72 rfl (lv_at hl 2 rfl) ?_
          refine lv_bipush (v := 25) hx hb dX11_wrongHead_73 (by decide) ?_
          refine lv_iadd hx hb dX11_wrongHead_75 ?_
          refine g_topi (y := nI (30 * q4 + 15)) ((nI_add _ 25).trans (up_e (by omega))) ?_
          refine g_calli (wr := []) (va_runV (As := [.int (nI (30 * q4 + 15))]) (rest := []) ⟨hx, hb, hml, hown, hts⟩ (m_one l dC dI H.size h qa x0 x2 x3 x4 x13 x14 x15 x16 x17 x18 x19 x20 x21 x22 x23 x24 x26 x27 x28 cB ft (30 * q4 + 15) (by omega)) (cwV 1 hts (gG_V kw_431 kw_432 kw_433 kw_5 kw_434) rfl rfl rfl (by decide +kernel) ⟨Nat.le_of_ble_eq_true rfl, Nat.le_of_ble_eq_true rfl⟩) (g_preV (C := RX11) (T := TX11) (N := 53) hP hD hK hS hA hN hZ (q0 := 0) rfl rfl [0, 1] (by decide +kernel) rfl [0] rfl) rfl rfl hl.1 rfl (lv_room (Nat.le_of_ble_eq_true rfl)) dX11_wrongHead_76 ⟨Nat.le_of_ble_eq_true rfl, Nat.le_of_ble_eq_true rfl⟩) hP hD hK hS hA [0, 1] [] rfl rfl (by decide +kernel) (by decide +kernel) (fun r_76 w ty1 H locs hw_76 hP hD _ hS => ?_)
          rcases hw_76 with ⟨hu, hr_76⟩
          cases hu
          have hP : va_P (dC, dI) vwCl [(h, .inr (10, mdF qa x0 x2 x3 x4 x13 x14 x15 x16 x17 x18 x19 x20 x21 x22 x23 x24 x26 x27 x28)), (qa 1, .inl (cB, 9000, .inl ft))] H := hP
          have hD : va_D A [(h, .inr (10, mdF qa x0 x2 x3 x4 x13 x14 x15 x16 x17 x18 x19 x20 x21 x22 x23 x24 x26 x27 x28)), (qa 1, .inl (cB, 9000, .inl ft))] := hD
          refine g_topi (y := nI (by8 ft (30 * q4 + 15))) hr_76 ?_
          refine lv_bipush (v := 64) hx hb dX11_wrongHead_79 (by decide) ?_
          refine lv_icmp_le (tgt := 89) hx hb dX11_wrongHead_81 (by decide) (fun c_81 => ?_) (fun c_81 => ?_)
          · refine lv_aload_n hx hb dX11_wrongHead_89 rfl (lv_at hl 4 rfl) ?_
            refine lv_iload_n hx hb dX11_wrongHead_90 rfl (lv_at hl 2 rfl) ?_
            refine lv_bipush (v := 28) hx hb dX11_wrongHead_91 (by decide) ?_
            refine lv_iadd hx hb dX11_wrongHead_93 ?_
            refine g_topi (y := nI (30 * q4 + 18)) ((nI_add _ 28).trans (up_e (by omega))) ?_
            refine g_calli (wr := []) (va_runV (As := [.int (nI (30 * q4 + 18))]) (rest := []) ⟨hx, hb, hml, hown, hts⟩ (m_two l dC dI H.size h qa x0 x2 x3 x4 x13 x14 x15 x16 x17 x18 x19 x20 x21 x22 x23 x24 x26 x27 x28 cB ft (30 * q4 + 18) (by omega)) (cwV 1 hts (gG_V kw_439 kw_440 kw_441 kw_5 kw_442) rfl rfl rfl (by decide +kernel) ⟨Nat.le_of_ble_eq_true rfl, Nat.le_of_ble_eq_true rfl⟩) (g_preV (C := RX11) (T := TX11) (N := 53) hP hD hK hS hA hN hZ (q0 := 0) rfl rfl [0, 1] (by decide +kernel) rfl [0] rfl) rfl rfl hl.1 rfl (lv_room (Nat.le_of_ble_eq_true rfl)) dX11_wrongHead_94 ⟨Nat.le_of_ble_eq_true rfl, Nat.le_of_ble_eq_true rfl⟩) hP hD hK hS hA [0, 1] [] rfl rfl (by decide +kernel) (by decide +kernel) (fun r_94 w ty1 H locs hw_94 hP hD _ hS => ?_)
            rcases hw_94 with ⟨hu, hr_94⟩
            cases hu
            have hP : va_P (dC, dI) vwCl [(h, .inr (10, mdF qa x0 x2 x3 x4 x13 x14 x15 x16 x17 x18 x19 x20 x21 x22 x23 x24 x26 x27 x28)), (qa 1, .inl (cB, 9000, .inl ft))] H := hP
            have hD : va_D A [(h, .inr (10, mdF qa x0 x2 x3 x4 x13 x14 x15 x16 x17 x18 x19 x20 x21 x22 x23 x24 x26 x27 x28)), (qa 1, .inl (cB, 9000, .inl ft))] := hD
            refine g_topi (y := nI (tw2 ft (30 * q4 + 18))) hr_94 ?_
            refine lv_istore (lv' := [(5, .int (nI (tw2 ft (30 * q4 + 18)))), (1, .int (nI (ah + tw2 ft (30 * q4 + 12)))), (4, .int (nI (tw2 ft (30 * q4 + 12)))), (3, .int (nI (30 * q4 - 10))), (2, .int (nI q4)), (0, .ref h)]) hx hb dX11_wrongHead_97 hl (by decide) rfl (fun ls hl => ?_)
            refine lv_aload_n hx hb dX11_wrongHead_99 rfl (lv_at hl 5 rfl) ?_
            refine lv_iload_n hx hb dX11_wrongHead_100 rfl (lv_at hl 3 rfl) ?_
            refine lv_bipush (v := 26) hx hb dX11_wrongHead_101 (by decide) ?_
            refine lv_iadd hx hb dX11_wrongHead_103 ?_
            refine g_topi (y := nI (30 * q4 + 16)) ((nI_add _ 26).trans (up_e (by omega))) ?_
            refine g_calli (wr := []) (va_runV (As := [.int (nI (30 * q4 + 16))]) (rest := []) ⟨hx, hb, hml, hown, hts⟩ (m_two l dC dI H.size h qa x0 x2 x3 x4 x13 x14 x15 x16 x17 x18 x19 x20 x21 x22 x23 x24 x26 x27 x28 cB ft (30 * q4 + 16) (by omega)) (cwV 1 hts (gG_V kw_439 kw_440 kw_441 kw_5 kw_442) rfl rfl rfl (by decide +kernel) ⟨Nat.le_of_ble_eq_true rfl, Nat.le_of_ble_eq_true rfl⟩) (g_preV (C := RX11) (T := TX11) (N := 53) hP hD hK hS hA hN hZ (q0 := 0) rfl rfl [0, 1] (by decide +kernel) rfl [0] rfl) rfl rfl hl.1 rfl (lv_room (Nat.le_of_ble_eq_true rfl)) dX11_wrongHead_104 ⟨Nat.le_of_ble_eq_true rfl, Nat.le_of_ble_eq_true rfl⟩) hP hD hK hS hA [0, 1] [] rfl rfl (by decide +kernel) (by decide +kernel) (fun r_104 w ty1 H locs hw_104 hP hD _ hS => ?_)
            rcases hw_104 with ⟨hu, hr_104⟩
            cases hu
            have hP : va_P (dC, dI) vwCl [(h, .inr (10, mdF qa x0 x2 x3 x4 x13 x14 x15 x16 x17 x18 x19 x20 x21 x22 x23 x24 x26 x27 x28)), (qa 1, .inl (cB, 9000, .inl ft))] H := hP
            have hD : va_D A [(h, .inr (10, mdF qa x0 x2 x3 x4 x13 x14 x15 x16 x17 x18 x19 x20 x21 x22 x23 x24 x26 x27 x28)), (qa 1, .inl (cB, 9000, .inl ft))] := hD
            refine g_topi (y := nI (tw2 ft (30 * q4 + 16))) hr_104 ?_
            refine lv_iload hx hb dX11_wrongHead_107 (lv_at hl 0 rfl) ?_
            refine lv_iconst (v := 2) hx hb dX11_wrongHead_109 (by decide) ?_
            refine lv_icmp_le (tgt := 118) hx hb dX11_wrongHead_110 (by decide) (fun c_110 => ?_) (fun c_110 => ?_)
            · refine lv_iconst (v := 0) hx hb dX11_wrongHead_118 (by decide) ?_
              refine lv_iadd hx hb dX11_wrongHead_119 ?_
              refine g_topi (y := nI (tw2 ft (30 * q4 + 16))) (Int32.add_zero _) ?_
              refine lv_iload hx hb dX11_wrongHead_120 (lv_at hl 2 rfl) ?_
              refine lv_icmp_le (tgt := 130) hx hb dX11_wrongHead_122 (by decide) (fun c_122 => ?_) (fun c_122 => ?_)
              · refine lv_iinc (v := nI (q4 + 1)) (lv' := [(2, .int (nI (q4 + 1))), (5, .int (nI (tw2 ft (30 * q4 + 18)))), (1, .int (nI (ah + tw2 ft (30 * q4 + 12)))), (4, .int (nI (tw2 ft (30 * q4 + 12)))), (3, .int (nI (30 * q4 - 10))), (0, .ref h)]) hx hb dX11_wrongHead_130 hl (k := 4) rfl (nI_1 q4) (by decide) rfl (fun ls hl => ?_)
                refine lv_goto (tgt := 4) hx hb dX11_wrongHead_133 (by decide) ?_
                exact ih4 (q4 + 1) (ah + tw2 ft (30 * q4 + 12)) (by omega) (by omega) (nI_le' (b := 4000) c_45 (by omega) (by decide)) (hs_n hhv hq3 (fun qv => by have h1 := nI_nlt2 (a := 2000) c_38 (by omega); have h2 := nI_le' (b := 4000) c_45 (by omega) (by decide); omega) (fun qv => by have := nI_le' (b := 15) c_63 (by have := by8_lt ft (30 * q4 + 14); omega) (by decide); omega) (fun qv => by have := nI_le' (b := 64) c_81 (by have := by8_lt ft (30 * q4 + 15); omega) (by decide); omega) (fun qv => by rw [if_neg (fun qw => by have := nI_le' (b := 2) c_110 (by have := tw2_lt ft (30 * q4 + 18); omega) (by decide); omega)] at qv; have := nI_le' c_122 (by have := tw2_lt ft (30 * q4 + 16); have := tw2_lt ft (30 * q4 + 18); omega) (by omega); omega)) (by omega) _ _ hP hD hS _ (lv_sub hl [0, 2, 5] rfl)
              refine lv_iload_n hx hb dX11_wrongHead_125 rfl (lv_at hl 3 rfl) ?_
              refine lv_bipush (v := 26) hx hb dX11_wrongHead_126 (by decide) ?_
              refine lv_iadd hx hb dX11_wrongHead_128 ?_
              refine g_topi (y := nI (30 * q4 + 16)) ((nI_add _ 26).trans (up_e (by omega))) ?_
              have hP9 := hP
              have hD9 := hD
              have hK9 := hK.sub (tys' := []) [] rfl
              exact W.iret (v := nI (30 * q4 + 16)) hx hb hr (fun t ht hW => ⟨⟨nI (30 * q4 + 16), _, rfl, ⟨rfl, wI_p (hd_p (hs_d hhv hq3 (fun qv => by have h1 := nI_nlt2 (a := 2000) c_38 (by omega); have h2 := nI_le' (b := 4000) c_45 (by omega) (by decide); omega) (fun qv => by have := nI_le' (b := 15) c_63 (by have := by8_lt ft (30 * q4 + 14); omega) (by decide); omega) (fun qv => by have := nI_le' (b := 64) c_81 (by have := by8_lt ft (30 * q4 + 15); omega) (by decide); omega) (by rw [if_neg (fun qw => by have := nI_le' (b := 2) c_110 (by have := tw2_lt ft (30 * q4 + 18); omega) (by decide); omega)]; have := nI_nle' c_122 (by omega); omega)) (by omega)) (by omega)⟩, by rw [ht]; exact hP9, va_K.moved hW.alike hK9, hD9⟩, hS.F ht⟩) hS.2.2 dX11_wrongHead_129
            refine lv_iload hx hb dX11_wrongHead_113 (lv_at hl 0 rfl) ?_
            refine lv_goto (tgt := 119) hx hb dX11_wrongHead_115 (by decide) ?_
            refine lv_iadd hx hb dX11_wrongHead_119 ?_
            refine g_topi (y := nI (tw2 ft (30 * q4 + 16) + tw2 ft (30 * q4 + 18))) (nI_add _ _) ?_
            refine lv_iload hx hb dX11_wrongHead_120 (lv_at hl 2 rfl) ?_
            refine lv_icmp_le (tgt := 130) hx hb dX11_wrongHead_122 (by decide) (fun c_122 => ?_) (fun c_122 => ?_)
            · refine lv_iinc (v := nI (q4 + 1)) (lv' := [(2, .int (nI (q4 + 1))), (5, .int (nI (tw2 ft (30 * q4 + 18)))), (1, .int (nI (ah + tw2 ft (30 * q4 + 12)))), (4, .int (nI (tw2 ft (30 * q4 + 12)))), (3, .int (nI (30 * q4 - 10))), (0, .ref h)]) hx hb dX11_wrongHead_130 hl (k := 4) rfl (nI_1 q4) (by decide) rfl (fun ls hl => ?_)
              refine lv_goto (tgt := 4) hx hb dX11_wrongHead_133 (by decide) ?_
              exact ih4 (q4 + 1) (ah + tw2 ft (30 * q4 + 12)) (by omega) (by omega) (nI_le' (b := 4000) c_45 (by omega) (by decide)) (hs_n hhv hq3 (fun qv => by have h1 := nI_nlt2 (a := 2000) c_38 (by omega); have h2 := nI_le' (b := 4000) c_45 (by omega) (by decide); omega) (fun qv => by have := nI_le' (b := 15) c_63 (by have := by8_lt ft (30 * q4 + 14); omega) (by decide); omega) (fun qv => by have := nI_le' (b := 64) c_81 (by have := by8_lt ft (30 * q4 + 15); omega) (by decide); omega) (fun qv => by rw [if_pos (nI_nle' (b := 2) c_110 (by decide))] at qv; have := nI_le' c_122 (by have := tw2_lt ft (30 * q4 + 16); have := tw2_lt ft (30 * q4 + 18); omega) (by omega); omega)) (by omega) _ _ hP hD hS _ (lv_sub hl [0, 2, 5] rfl)
            refine lv_iload_n hx hb dX11_wrongHead_125 rfl (lv_at hl 3 rfl) ?_
            refine lv_bipush (v := 26) hx hb dX11_wrongHead_126 (by decide) ?_
            refine lv_iadd hx hb dX11_wrongHead_128 ?_
            refine g_topi (y := nI (30 * q4 + 16)) ((nI_add _ 26).trans (up_e (by omega))) ?_
            have hP9 := hP
            have hD9 := hD
            have hK9 := hK.sub (tys' := []) [] rfl
            exact W.iret (v := nI (30 * q4 + 16)) hx hb hr (fun t ht hW => ⟨⟨nI (30 * q4 + 16), _, rfl, ⟨rfl, wI_p (hd_p (hs_d hhv hq3 (fun qv => by have h1 := nI_nlt2 (a := 2000) c_38 (by omega); have h2 := nI_le' (b := 4000) c_45 (by omega) (by decide); omega) (fun qv => by have := nI_le' (b := 15) c_63 (by have := by8_lt ft (30 * q4 + 14); omega) (by decide); omega) (fun qv => by have := nI_le' (b := 64) c_81 (by have := by8_lt ft (30 * q4 + 15); omega) (by decide); omega) (by rw [if_pos (nI_nle' (b := 2) c_110 (by decide))]; have := nI_nle' c_122 (by omega); omega)) (by omega)) (by omega)⟩, by rw [ht]; exact hP9, va_K.moved hW.alike hK9, hD9⟩, hS.F ht⟩) hS.2.2 dX11_wrongHead_129
          refine lv_iload_n hx hb dX11_wrongHead_84 rfl (lv_at hl 2 rfl) ?_
          refine lv_bipush (v := 25) hx hb dX11_wrongHead_85 (by decide) ?_
          refine lv_iadd hx hb dX11_wrongHead_87 ?_
          refine g_topi (y := nI (30 * q4 + 15)) ((nI_add _ 25).trans (up_e (by omega))) ?_
          have hP9 := hP
          have hD9 := hD
          have hK9 := hK.sub (tys' := []) [] rfl
          exact W.iret (v := nI (30 * q4 + 15)) hx hb hr (fun t ht hW => ⟨⟨nI (30 * q4 + 15), _, rfl, ⟨rfl, wI_p (hd_p (hs_c hhv hq3 (fun qv => by have h1 := nI_nlt2 (a := 2000) c_38 (by omega); have h2 := nI_le' (b := 4000) c_45 (by omega) (by decide); omega) (fun qv => by have := nI_le' (b := 15) c_63 (by have := by8_lt ft (30 * q4 + 14); omega) (by decide); omega) (nI_nle' (b := 64) c_81 (by decide))) (by omega)) (by omega)⟩, by rw [ht]; exact hP9, va_K.moved hW.alike hK9, hD9⟩, hS.F ht⟩) hS.2.2 dX11_wrongHead_88
        refine lv_iload_n hx hb dX11_wrongHead_66 rfl (lv_at hl 2 rfl) ?_
        refine lv_bipush (v := 24) hx hb dX11_wrongHead_67 (by decide) ?_
        refine lv_iadd hx hb dX11_wrongHead_69 ?_
        refine g_topi (y := nI (30 * q4 + 14)) ((nI_add _ 24).trans (up_e (by omega))) ?_
        have hP9 := hP
        have hD9 := hD
        have hK9 := hK.sub (tys' := []) [] rfl
        exact W.iret (v := nI (30 * q4 + 14)) hx hb hr (fun t ht hW => ⟨⟨nI (30 * q4 + 14), _, rfl, ⟨rfl, wI_p (hd_p (hs_b hhv hq3 (fun qv => by have h1 := nI_nlt2 (a := 2000) c_38 (by omega); have h2 := nI_le' (b := 4000) c_45 (by omega) (by decide); omega) (nI_nle' (b := 15) c_63 (by decide))) (by omega)) (by omega)⟩, by rw [ht]; exact hP9, va_K.moved hW.alike hK9, hD9⟩, hS.F ht⟩) hS.2.2 dX11_wrongHead_70
      refine lv_iload_n hx hb dX11_wrongHead_48 rfl (lv_at hl 2 rfl) ?_
      refine lv_bipush (v := 22) hx hb dX11_wrongHead_49 (by decide) ?_
      refine lv_iadd hx hb dX11_wrongHead_51 ?_
      refine g_topi (y := nI (30 * q4 + 12)) ((nI_add _ 22).trans (up_e (by omega))) ?_
      have hP9 := hP
      have hD9 := hD
      have hK9 := hK.sub (tys' := []) [] rfl
      exact W.iret (v := nI (30 * q4 + 12)) hx hb hr (fun t ht hW => ⟨⟨nI (30 * q4 + 12), _, rfl, ⟨rfl, wI_p (hd_p (hs_a hhv hq3 (Or.inr (nI_nle' (b := 4000) c_45 (by decide)))) (by omega)) (by omega)⟩, by rw [ht]; exact hP9, va_K.moved hW.alike hK9, hD9⟩, hS.F ht⟩) hS.2.2 dX11_wrongHead_52
  exact LP4 _ 1 0 (by decide) (by decide) (Nat.zero_le _) (rfl) (Nat.lt_succ_self _) _ _ hP hD hS _ (lv_sub hl [0, 1, 2] rfl)

set_option maxHeartbeats 400000 in
set_option maxRecDepth 100000 in
theorem x_mPat (l : Launch) (dC : Nat → ClassId) (dI : Nat → Nat → Nat) (sz : Nat) (h : Nat) (qa : Nat → Nat) (x0 x2 x3 x4 x13 x14 x15 x16 x17 x18 x19 x20 x21 x22 x23 x24 x26 x27 x28 : Int32) (cB : ClassId) (ft : Nat → Int32) : Met l yX11_patternsOnTape (wsG (.code yX11_patternsOnTape cX11_patternsOnTape 3 (some .int))) ({ frames := 1, cells := 0, slots := 0, locals := 21 }) (va_Pc [.ref h] (gP (dC, dI) [(cB, .byte)] [(h, .inr (10, mdF qa x0 x2 x3 x4 x13 x14 x15 x16 x17 x18 x19 x20 x21 x22 x23 x24 x26 x27 x28)), (qa 1, .inl (cB, 9000, .inl ft))] sz)) (va_Qi (fun (r : Int32) (u : va_W × gT) => u = ([(h, .inr (10, mdF qa x0 x2 x3 x4 x13 x14 x15 x16 x17 x18 x19 x20 x21 x22 x23 x24 x26 x27 x28)), (qa 1, .inl (cB, 9000, .inl ft))], []) ∧ r = nI (npF ft)) (gB (dC, dI) (va_A [(h, .inr (10, mdF qa x0 x2 x3 x4 x13 x14 x15 x16 x17 x18 x19 x20 x21 x22 x23 x24 x26 x27 x28)), (qa 1, .inl (cB, 9000, .inl ft))] sz)) (va_A [(h, .inr (10, mdF qa x0 x2 x3 x4 x13 x14 x15 x16 x17 x18 x19 x20 x21 x22 x23 x24 x26 x27 x28)), (qa 1, .inl (cB, 9000, .inl ft))] sz)) 0 0 (va_A [(h, .inr (10, mdF qa x0 x2 x3 x4 x13 x14 x15 x16 x17 x18 x19 x20 x21 x22 x23 x24 x26 x27 x28)), (qa 1, .inl (cB, 9000, .inl ft))] sz) := by
  refine Met.ofW (cc := cX11_patternsOnTape) (maxL := 3) (ret := (some .int)) (by decide) rfl ?_
  intro p e s m args below meth c s₁ B hml hv
  obtain ⟨rfl, hsz, hP, hK, hD0, hN, hZ⟩ := hv
  have hx := B.exec
  have hb := B.bytes
  have hr := B.returns
  have hts := atoms_spec (ws := (wsG (.code yX11_patternsOnTape cX11_patternsOnTape 3 (some .int)))) B.pre
  have hown : s.vm.findClass RX11 = some m.cls := findClass_of_methodNamed B.named
  have hlocks := B.notSynchronized
  subst hsz
  have hD := hD0.self (sz := s.heap.size)
  generalize hAe : va_A [(h, .inr (10, mdF qa x0 x2 x3 x4 x13 x14 x15 x16 x17 x18 x19 x20 x21 x22 x23 x24 x26 x27 x28)), (qa 1, .inl (cB, 9000, .inl ft))] s.heap.size = A at hD hZ ⊢
  have hA : ∀ q : Nat, s.heap.size ≤ q → A q := fun q h => by rw [← hAe]; exact Or.inr h
  have hl := lv_entry ([.ref h]) (n := 3) (Nat.le_of_ble_eq_true rfl)
  rw [lg_entry_eq]
  generalize (lg_sl ([.ref h]) ++ List.replicate (3 - (lg_sl ([.ref h])).length) Slot.unset).toArray = ls at hl ⊢
  have hl : lv_has ls 3 [(0, .ref h)] := hl
  refine g_start (A := A) hP (fun H locs hP hS => ?_)
  refine lv_iconst (v := 0) hx hb dX11_patternsOnTape_0 (by decide) ?_
  refine lv_istore_n (lv' := [(1, .int 0), (0, .ref h)]) hx hb dX11_patternsOnTape_1 rfl hl (by decide) rfl (fun ls hl => ?_)
  refine lv_iconst (v := 0) hx hb dX11_patternsOnTape_2 (by decide) ?_
  refine lv_istore_n (lv' := [(2, .int 0), (1, .int 0), (0, .ref h)]) hx hb dX11_patternsOnTape_3 rfl hl (by decide) rfl (fun ls hl => ?_)
  have LP4 : ∀ (fu4 : Nat) (q4 : Nat) (hq4 : q4 ≤ by8 ft 950) (hqb : q4 ≤ 256) (hm4 : by8 ft 950 - q4 < fu4) (H : Heap) (locs : List Loc), va_P (dC, dI) vwCl [(h, .inr (10, mdF qa x0 x2 x3 x4 x13 x14 x15 x16 x17 x18 x19 x20 x21 x22 x23 x24 x26 x27 x28)), (qa 1, .inl (cB, 9000, .inl ft))] H → va_D A [(h, .inr (10, mdF qa x0 x2 x3 x4 x13 x14 x15 x16 x17 x18 x19 x20 x21 x22 x23 x24 x26 x27 x28)), (qa 1, .inl (cB, 9000, .inl ft))] → va_S A s.heap H locs → ∀ ls : Array Slot, lv_has ls 3 [(2, .int (nI q4)), (1, .int (nI (pmF ft q4))), (0, .ref h)] → W p l e ({ frames := 1, cells := 0, slots := 0, locals := 21 }) s m ([.ref h] : List Value).toArray below meth c H locs (0) (0) (MQ below (va_Qi (fun (r : Int32) (u : va_W × gT) => u = ([(h, .inr (10, mdF qa x0 x2 x3 x4 x13 x14 x15 x16 x17 x18 x19 x20 x21 x22 x23 x24 x26 x27 x28)), (qa 1, .inl (cB, 9000, .inl ft))], []) ∧ r = nI (npF ft)) (gB (dC, dI) A) A) ([.ref h] : List Value).toArray s 0 0 A) (F0 m 4 ls []) := by
    intro fu4
    induction fu4 with
    | zero => intro q4 hq4 hqb hm4; exact absurd hm4 (Nat.not_lt_zero _)
    | succ fu4 ih4 =>
      intro q4 hq4 hqb hm4 H locs hP hD hS ls hl
      refine lv_iload_n hx hb dX11_patternsOnTape_4 rfl (lv_at hl 0 rfl) ?_
      refine lv_aload_n hx hb dX11_patternsOnTape_5 rfl (lv_at hl 2 rfl) ?_
      refine lv_sipush (v := 950) hx hb dX11_patternsOnTape_6 (by decide) ?_
      refine g_calli (wr := []) (va_runV (As := [.int 950]) (rest := [.int (nI q4)]) ⟨hx, hb, hml, hown, hts⟩ (m_one l dC dI H.size h qa x0 x2 x3 x4 x13 x14 x15 x16 x17 x18 x19 x20 x21 x22 x23 x24 x26 x27 x28 cB ft 950 (by decide)) (cwV 1 hts (gG_V kw_431 kw_432 kw_433 kw_5 kw_434) rfl rfl rfl (by decide +kernel) ⟨Nat.le_of_ble_eq_true rfl, Nat.le_of_ble_eq_true rfl⟩) (g_preV (C := RX11) (T := TX11) (N := 53) hP hD hK hS hA hN hZ (q0 := 0) rfl rfl [0, 1] (by decide +kernel) rfl [0] rfl) rfl rfl hl.1 rfl (lv_room (Nat.le_of_ble_eq_true rfl)) dX11_patternsOnTape_9 ⟨Nat.le_of_ble_eq_true rfl, Nat.le_of_ble_eq_true rfl⟩) hP hD hK hS hA [0, 1] [] rfl rfl (by decide +kernel) (by decide +kernel) (fun r_9 w ty1 H locs hw_9 hP hD _ hS => ?_)
      rcases hw_9 with ⟨hu, hr_9⟩
      cases hu
      have hP : va_P (dC, dI) vwCl [(h, .inr (10, mdF qa x0 x2 x3 x4 x13 x14 x15 x16 x17 x18 x19 x20 x21 x22 x23 x24 x26 x27 x28)), (qa 1, .inl (cB, 9000, .inl ft))] H := hP
      have hD : va_D A [(h, .inr (10, mdF qa x0 x2 x3 x4 x13 x14 x15 x16 x17 x18 x19 x20 x21 x22 x23 x24 x26 x27 x28)), (qa 1, .inl (cB, 9000, .inl ft))] := hD
      refine g_topi (y := nI (by8 ft 950)) hr_9 ?_
      refine lv_icmp_ge (tgt := 37) hx hb dX11_patternsOnTape_12 (by decide) (fun c_12 => ?_) (fun c_12 => ?_)
      · refine lv_iload_n hx hb dX11_patternsOnTape_37 rfl (lv_at hl 1 rfl) ?_
        have hP9 := hP
        have hD9 := hD
        have hK9 := hK.sub (tys' := []) [] rfl
        exact W.iret (v := nI (pmF ft q4)) hx hb hr (fun t ht hW => ⟨⟨nI (pmF ft q4), _, rfl, ⟨rfl, up_e (by rw [show q4 = by8 ft 950 by have := nI_le' c_12 (by have := by8_lt ft 950; omega) (by omega); omega]; rfl)⟩, by rw [ht]; exact hP9, va_K.moved hW.alike hK9, hD9⟩, hS.F ht⟩) hS.2.2 dX11_patternsOnTape_38
      have hq43 : q4 < by8 ft 950 := nI_nle' c_12 (by omega)
      have hb95 := by8_lt ft 950
      have hpl := pm_le ft q4
      have hb8 := by8_lt ft (952 + q4)
      refine lv_iload_n hx hb dX11_patternsOnTape_15 rfl (lv_at hl 1 rfl) ?_
      refine lv_aload_n hx hb dX11_patternsOnTape_16 rfl (lv_at hl 2 rfl) ?_
      refine lv_sipush (v := 952) hx hb dX11_patternsOnTape_17 (by decide) ?_
      refine lv_iload_n hx hb dX11_patternsOnTape_20 rfl (lv_at hl 0 rfl) ?_
      refine lv_iadd hx hb dX11_patternsOnTape_21 ?_
      refine g_topi (y := nI (952 + q4)) (nI_add 952 _) ?_
      refine g_calli (wr := []) (va_runV (As := [.int (nI (952 + q4))]) (rest := [.int (nI (pmF ft q4))]) ⟨hx, hb, hml, hown, hts⟩ (m_one l dC dI H.size h qa x0 x2 x3 x4 x13 x14 x15 x16 x17 x18 x19 x20 x21 x22 x23 x24 x26 x27 x28 cB ft (952 + q4) (by omega)) (cwV 1 hts (gG_V kw_431 kw_432 kw_433 kw_5 kw_434) rfl rfl rfl (by decide +kernel) ⟨Nat.le_of_ble_eq_true rfl, Nat.le_of_ble_eq_true rfl⟩) (g_preV (C := RX11) (T := TX11) (N := 53) hP hD hK hS hA hN hZ (q0 := 0) rfl rfl [0, 1] (by decide +kernel) rfl [0] rfl) rfl rfl hl.1 rfl (lv_room (Nat.le_of_ble_eq_true rfl)) dX11_patternsOnTape_22 ⟨Nat.le_of_ble_eq_true rfl, Nat.le_of_ble_eq_true rfl⟩) hP hD hK hS hA [0, 1] [] rfl rfl (by decide +kernel) (by decide +kernel) (fun r_22 w ty1 H locs hw_22 hP hD _ hS => ?_)
      rcases hw_22 with ⟨hu, hr_22⟩
      cases hu
      have hP : va_P (dC, dI) vwCl [(h, .inr (10, mdF qa x0 x2 x3 x4 x13 x14 x15 x16 x17 x18 x19 x20 x21 x22 x23 x24 x26 x27 x28)), (qa 1, .inl (cB, 9000, .inl ft))] H := hP
      have hD : va_D A [(h, .inr (10, mdF qa x0 x2 x3 x4 x13 x14 x15 x16 x17 x18 x19 x20 x21 x22 x23 x24 x26 x27 x28)), (qa 1, .inl (cB, 9000, .inl ft))] := hD
      refine g_topi (y := nI (by8 ft (952 + q4))) hr_22 ?_
      refine lv_iconst (v := 1) hx hb dX11_patternsOnTape_25 (by decide) ?_
      refine lv_iadd hx hb dX11_patternsOnTape_26 ?_
      refine g_topi (y := nI (by8 ft (952 + q4) + 1)) (nI_1 _) ?_
      refine va_mmax hx hb (by rw [hml]; exact hl.1.symm) hown (hts (.methodLink RX11 129 Lib.Math.max.name) (List.mem_cons_of_mem _ kw_212)) (hts (.static Lib.Math.max.name) (List.mem_cons_of_mem _ kw_102)) (hts (.initialized "java/lang/Math") (List.mem_cons_of_mem _ kw_103)) (hts (.code Lib.Math.max.name Lib.Math.max.code 2 (some .int)) (List.mem_cons_of_mem _ kw_104)) (Nat.le_of_ble_eq_true rfl) (Nat.le_of_ble_eq_true rfl) (Nat.le_of_ble_eq_true rfl) (Nat.le_of_ble_eq_true rfl) dX11_patternsOnTape_27 ?_
      refine g_topi (y := nI (max (pmF ft q4) (by8 ft (952 + q4) + 1))) (mx_nI (by omega) (by omega)) ?_
      refine lv_istore_n (lv' := [(1, .int (nI (max (pmF ft q4) (by8 ft (952 + q4) + 1)))), (2, .int (nI q4)), (0, .ref h)]) hx hb dX11_patternsOnTape_30 rfl hl (by decide) rfl (fun ls hl => ?_)
      refine lv_iinc (v := nI (q4 + 1)) (lv' := [(2, .int (nI (q4 + 1))), (1, .int (nI (max (pmF ft q4) (by8 ft (952 + q4) + 1)))), (0, .ref h)]) hx hb dX11_patternsOnTape_31 hl (k := 1) rfl (nI_1 q4) (by decide) rfl (fun ls hl => ?_)
      refine lv_goto (tgt := 4) hx hb dX11_patternsOnTape_34 (by decide) ?_
      exact ih4 (q4 + 1) (by omega) (by omega) (by omega) _ _ hP hD hS _ (lv_sub hl [0, 1, 2] rfl)
  exact LP4 _ 0 (Nat.zero_le _) (Nat.zero_le _) (Nat.lt_succ_self _) _ _ hP hD hS _ (lv_sub hl [0, 1, 2] rfl)

