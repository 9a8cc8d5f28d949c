set_option maxHeartbeats 400000 in
set_option maxRecDepth 100000 in
/-- feed, first -/
theorem f_feed (l : Launch) (dC : Nat → ClassId) (dI : Nat → Nat → Nat) (sz : Nat) (h aT aB aS aR aF aC aX : Nat) (tb : Nat) (cB : ClassId) (x1 x2 x3 x4 x5 : Int32) : Met l yX10_feed (wsG (.code yX10_feed cX10_feed 6 (some .int))) ({ frames := 3, cells := 0, slots := 0, locals := 66 }) (va_Pc [.ref h, .int x1, .int x2, .int x3, .int x4, .int x5] (gP (dC, dI) [(cB, .byte)] [(h, .inr (9, [.ref aT, .ref aB, .ref aS, .ref aR, .ref aF, .ref aC, .ref aX])), (aT, .inr (7, [.ref tb, .int 0])), (tb, .inl (cB, 9000, .inl (fun _ => 0)))] sz)) (va_Qi (fun (r : Int32) (u : va_W × gT) => u = ([], []) ∧ r = 20) (gB (dC, dI) (va_A [(h, .inr (9, [.ref aT, .ref aB, .ref aS, .ref aR, .ref aF, .ref aC, .ref aX])), (aT, .inr (7, [.ref tb, .int 0])), (tb, .inl (cB, 9000, .inl (fun _ => 0)))] sz)) (va_A [(h, .inr (9, [.ref aT, .ref aB, .ref aS, .ref aR, .ref aF, .ref aC, .ref aX])), (aT, .inr (7, [.ref tb, .int 0])), (tb, .inl (cB, 9000, .inl (fun _ => 0)))] sz)) 0 0 (va_A [(h, .inr (9, [.ref aT, .ref aB, .ref aS, .ref aR, .ref aF, .ref aC, .ref aX])), (aT, .inr (7, [.ref tb, .int 0])), (tb, .inl (cB, 9000, .inl (fun _ => 0)))] sz) := by
  refine Met.ofW (cc := cX10_feed) (maxL := 6) (ret := (some .int)) (by decide) rfl ?_
  intro p e s m args below meth c s₁ B hml hv
  obtain ⟨rfl, hsz, hP, hK, hD0, hN, hZ⟩ := hv
  have hx := B.exec
  have hb := B.bytes
  have hr := B.returns
  have hts := atoms_spec (ws := (wsG (.code yX10_feed cX10_feed 6 (some .int)))) B.pre
  have hown : s.vm.findClass RX10 = some m.cls := findClass_of_methodNamed B.named
  have hlocks := B.notSynchronized
  subst hsz
  have hD := hD0.self (sz := s.heap.size)
  generalize hAe : va_A [(h, .inr (9, [.ref aT, .ref aB, .ref aS, .ref aR, .ref aF, .ref aC, .ref aX])), (aT, .inr (7, [.ref tb, .int 0])), (tb, .inl (cB, 9000, .inl (fun _ => 0)))] s.heap.size = A at hD hZ ⊢
  have hA : ∀ q : Nat, s.heap.size ≤ q → A q := fun q h => by rw [← hAe]; exact Or.inr h
  have hl := lv_entry ([.ref h, .int x1, .int x2, .int x3, .int x4, .int x5]) (n := 6) (Nat.le_of_ble_eq_true rfl)
  rw [lg_entry_eq]
  generalize (lg_sl ([.ref h, .int x1, .int x2, .int x3, .int x4, .int x5]) ++ List.replicate (6 - (lg_sl ([.ref h, .int x1, .int x2, .int x3, .int x4, .int x5])).length) Slot.unset).toArray = ls at hl ⊢
  have hl : lv_has ls 6 [(0, .ref h), (1, .int x1), (2, .int x2), (3, .int x3), (4, .int x4), (5, .int x5)] := hl
  refine g_start (A := A) hP (fun H locs hP hS => ?_)
  refine lv_aload_n hx hb dX10_feed_0 rfl (lv_at hl 0 rfl) ?_
  refine va_get (D := (dC, dI)) (ci := 9) (v := .ref aT) (C := RX10) (T := TX10) (N := 7) hx hb hts iwX10 hown hK hP 0 rfl rfl 0 (by decide) (hts (.fieldLink RX10 10 "ModulePlayer" "tape" "LModulePlayer$Tape;") (List.mem_cons_of_mem _ kw_19)) (fun _ h9 => h9) rfl dX10_feed_1 ?_
  refine va_get (D := (dC, dI)) (ci := 7) (v := .int 0) (C := RX7) (T := TX7) (N := 2) hx hb hts iwX7 hown hK hP 1 rfl rfl 1 (by decide) (hts (.fieldLink RX10 71 "ModulePlayer$Tape" "length" "I") (List.mem_cons_of_mem _ kw_236)) (fun _ h9 => h9) rfl dX10_feed_4 ?_
  refine lv_sipush (v := 8980) hx hb dX10_feed_7 (by decide) ?_
  refine lv_icmp_le (tgt := 15) hx hb dX10_feed_10 (by decide) (fun c_10 => ?_) (fun c_10 => absurd c_10 (by decide))
  refine lv_aload_n hx hb dX10_feed_15 rfl (lv_at hl 0 rfl) ?_
  refine va_get (D := (dC, dI)) (ci := 9) (v := .ref aT) (C := RX10) (T := TX10) (N := 7) hx hb hts iwX10 hown hK hP 0 rfl rfl 0 (by decide) (hts (.fieldLink RX10 10 "ModulePlayer" "tape" "LModulePlayer$Tape;") (List.mem_cons_of_mem _ kw_19)) (fun _ h9 => h9) rfl dX10_feed_16 ?_
  refine lv_iload_n hx hb dX10_feed_19 rfl (lv_at hl 1 rfl) ?_
  refine g_callv (wr := [(h, .inr (9, [.ref aT, .ref aB, .ref aS, .ref aR, .ref aF, .ref aC, .ref aX]))]) (va_runV (As := [.int x1]) (rest := []) ⟨hx, hb, hml, hown, hts⟩ (c_append l dC dI H.size aT tb cB (fun _ => 0) 0 x1 (by decide)) (cwV 1 hts (gG_V kw_237 kw_238 kw_239 kw_18 kw_240) rfl rfl rfl (by decide +kernel) ⟨Nat.le_of_ble_eq_true rfl, Nat.le_of_ble_eq_true rfl⟩) (g_preV (C := RX7) (T := TX7) (N := 2) hP hD hK hS hA hN hZ (q0 := 1) rfl rfl [1, 2] (by decide) rfl [0] rfl) rfl rfl hl.1 rfl (lv_room (Nat.le_of_ble_eq_true rfl)) dX10_feed_20 ⟨Nat.le_of_ble_eq_true rfl, Nat.le_of_ble_eq_true rfl⟩) hP hD hK hS hA [1, 2] [0] rfl rfl (by decide) (by decide) (fun w ty1 H locs hw_20 hP hD _ hS => ?_)
  rcases hw_20 with ⟨f2_20, hu, hf2_20⟩
  cases hu
  have hP : va_P (dC, dI) vwCl [(h, .inr (9, [.ref aT, .ref aB, .ref aS, .ref aR, .ref aF, .ref aC, .ref aX])), (aT, .inr (7, [.ref tb, .int (nI (0 + 4))])), (tb, .inl (cB, 9000, .inl f2_20))] H := hP
  have hD : va_D A [(h, .inr (9, [.ref aT, .ref aB, .ref aS, .ref aR, .ref aF, .ref aC, .ref aX])), (aT, .inr (7, [.ref tb, .int (nI (0 + 4))])), (tb, .inl (cB, 9000, .inl f2_20))] := hD
  refine lv_aload_n hx hb dX10_feed_23 rfl (lv_at hl 0 rfl) ?_
  refine va_get (D := (dC, dI)) (ci := 9) (v := .ref aT) (C := RX10) (T := TX10) (N := 7) hx hb hts iwX10 hown hK hP 0 rfl rfl 0 (by decide) (hts (.fieldLink RX10 10 "ModulePlayer" "tape" "LModulePlayer$Tape;") (List.mem_cons_of_mem _ kw_19)) (fun _ h9 => h9) rfl dX10_feed_24 ?_
  refine lv_iload_n hx hb dX10_feed_27 rfl (lv_at hl 2 rfl) ?_
  refine g_callv (wr := [(h, .inr (9, [.ref aT, .ref aB, .ref aS, .ref aR, .ref aF, .ref aC, .ref aX]))]) (va_runV (As := [.int x2]) (rest := []) ⟨hx, hb, hml, hown, hts⟩ (c_append l dC dI H.size aT tb cB f2_20 (0 + 4) x2 (by decide)) (cwV 1 hts (gG_V kw_237 kw_238 kw_239 kw_18 kw_240) rfl rfl rfl (by decide +kernel) ⟨Nat.le_of_ble_eq_true rfl, Nat.le_of_ble_eq_true rfl⟩) (g_preV (C := RX7) (T := TX7) (N := 2) hP hD hK hS hA hN hZ (q0 := 1) rfl rfl [1, 2] (by decide) rfl [0] rfl) rfl rfl hl.1 rfl (lv_room (Nat.le_of_ble_eq_true rfl)) dX10_feed_28 ⟨Nat.le_of_ble_eq_true rfl, Nat.le_of_ble_eq_true rfl⟩) hP hD hK hS hA [1, 2] [0] rfl rfl (by decide) (by decide) (fun w ty1 H locs hw_28 hP hD _ hS => ?_)
  rcases hw_28 with ⟨f2_28, hu, hf2_28⟩
  cases hu
  have hP : va_P (dC, dI) vwCl [(h, .inr (9, [.ref aT, .ref aB, .ref aS, .ref aR, .ref aF, .ref aC, .ref aX])), (aT, .inr (7, [.ref tb, .int (nI ((0 + 4) + 4))])), (tb, .inl (cB, 9000, .inl f2_28))] H := hP
  have hD : va_D A [(h, .inr (9, [.ref aT, .ref aB, .ref aS, .ref aR, .ref aF, .ref aC, .ref aX])), (aT, .inr (7, [.ref tb, .int (nI ((0 + 4) + 4))])), (tb, .inl (cB, 9000, .inl f2_28))] := hD
  refine lv_aload_n hx hb dX10_feed_31 rfl (lv_at hl 0 rfl) ?_
  refine va_get (D := (dC, dI)) (ci := 9) (v := .ref aT) (C := RX10) (T := TX10) (N := 7) hx hb hts iwX10 hown hK hP 0 rfl rfl 0 (by decide) (hts (.fieldLink RX10 10 "ModulePlayer" "tape" "LModulePlayer$Tape;") (List.mem_cons_of_mem _ kw_19)) (fun _ h9 => h9) rfl dX10_feed_32 ?_
  refine lv_iload_n hx hb dX10_feed_35 rfl (lv_at hl 3 rfl) ?_
  refine g_callv (wr := [(h, .inr (9, [.ref aT, .ref aB, .ref aS, .ref aR, .ref aF, .ref aC, .ref aX]))]) (va_runV (As := [.int x3]) (rest := []) ⟨hx, hb, hml, hown, hts⟩ (c_append l dC dI H.size aT tb cB f2_28 ((0 + 4) + 4) x3 (by decide)) (cwV 1 hts (gG_V kw_237 kw_238 kw_239 kw_18 kw_240) rfl rfl rfl (by decide +kernel) ⟨Nat.le_of_ble_eq_true rfl, Nat.le_of_ble_eq_true rfl⟩) (g_preV (C := RX7) (T := TX7) (N := 2) hP hD hK hS hA hN hZ (q0 := 1) rfl rfl [1, 2] (by decide) rfl [0] rfl) rfl rfl hl.1 rfl (lv_room (Nat.le_of_ble_eq_true rfl)) dX10_feed_36 ⟨Nat.le_of_ble_eq_true rfl, Nat.le_of_ble_eq_true rfl⟩) hP hD hK hS hA [1, 2] [0] rfl rfl (by decide) (by decide) (fun w ty1 H locs hw_36 hP hD _ hS => ?_)
  rcases hw_36 with ⟨f2_36, hu, hf2_36⟩
  cases hu
  have hP : va_P (dC, dI) vwCl [(h, .inr (9, [.ref aT, .ref aB, .ref aS, .ref aR, .ref aF, .ref aC, .ref aX])), (aT, .inr (7, [.ref tb, .int (nI (((0 + 4) + 4) + 4))])), (tb, .inl (cB, 9000, .inl f2_36))] H := hP
  have hD : va_D A [(h, .inr (9, [.ref aT, .ref aB, .ref aS, .ref aR, .ref aF, .ref aC, .ref aX])), (aT, .inr (7, [.ref tb, .int (nI (((0 + 4) + 4) + 4))])), (tb, .inl (cB, 9000, .inl f2_36))] := hD
  refine lv_aload_n hx hb dX10_feed_39 rfl (lv_at hl 0 rfl) ?_
  refine va_get (D := (dC, dI)) (ci := 9) (v := .ref aT) (C := RX10) (T := TX10) (N := 7) hx hb hts iwX10 hown hK hP 0 rfl rfl 0 (by decide) (hts (.fieldLink RX10 10 "ModulePlayer" "tape" "LModulePlayer$Tape;") (List.mem_cons_of_mem _ kw_19)) (fun _ h9 => h9) rfl dX10_feed_40 ?_
  refine lv_iload hx hb dX10_feed_43 (lv_at hl 4 rfl) ?_
  refine g_callv (wr := [(h, .inr (9, [.ref aT, .ref aB, .ref aS, .ref aR, .ref aF, .ref aC, .ref aX]))]) (va_runV (As := [.int x4]) (rest := []) ⟨hx, hb, hml, hown, hts⟩ (c_append l dC dI H.size aT tb cB f2_36 (((0 + 4) + 4) + 4) x4 (by decide)) (cwV 1 hts (gG_V kw_237 kw_238 kw_239 kw_18 kw_240) rfl rfl rfl (by decide +kernel) ⟨Nat.le_of_ble_eq_true rfl, Nat.le_of_ble_eq_true rfl⟩) (g_preV (C := RX7) (T := TX7) (N := 2) hP hD hK hS hA hN hZ (q0 := 1) rfl rfl [1, 2] (by decide) rfl [0] rfl) rfl rfl hl.1 rfl (lv_room (Nat.le_of_ble_eq_true rfl)) dX10_feed_45 ⟨Nat.le_of_ble_eq_true rfl, Nat.le_of_ble_eq_true rfl⟩) hP hD hK hS hA [1, 2] [0] rfl rfl (by decide) (by decide) (fun w ty1 H locs hw_45 hP hD _ hS => ?_)
  rcases hw_45 with ⟨f2_45, hu, hf2_45⟩
  cases hu
  have hP : va_P (dC, dI) vwCl [(h, .inr (9, [.ref aT, .ref aB, .ref aS, .ref aR, .ref aF, .ref aC, .ref aX])), (aT, .inr (7, [.ref tb, .int (nI ((((0 + 4) + 4) + 4) + 4))])), (tb, .inl (cB, 9000, .inl f2_45))] H := hP
  have hD : va_D A [(h, .inr (9, [.ref aT, .ref aB, .ref aS, .ref aR, .ref aF, .ref aC, .ref aX])), (aT, .inr (7, [.ref tb, .int (nI ((((0 + 4) + 4) + 4) + 4))])), (tb, .inl (cB, 9000, .inl f2_45))] := hD
  refine lv_aload_n hx hb dX10_feed_48 rfl (lv_at hl 0 rfl) ?_
  refine va_get (D := (dC, dI)) (ci := 9) (v := .ref aT) (C := RX10) (T := TX10) (N := 7) hx hb hts iwX10 hown hK hP 0 rfl rfl 0 (by decide) (hts (.fieldLink RX10 10 "ModulePlayer" "tape" "LModulePlayer$Tape;") (List.mem_cons_of_mem _ kw_19)) (fun _ h9 => h9) rfl dX10_feed_49 ?_
  refine lv_iload hx hb dX10_feed_52 (lv_at hl 5 rfl) ?_
  refine g_callv (wr := [(h, .inr (9, [.ref aT, .ref aB, .ref aS, .ref aR, .ref aF, .ref aC, .ref aX]))]) (va_runV (As := [.int x5]) (rest := []) ⟨hx, hb, hml, hown, hts⟩ (c_append l dC dI H.size aT tb cB f2_45 ((((0 + 4) + 4) + 4) + 4) x5 (by decide)) (cwV 1 hts (gG_V kw_237 kw_238 kw_239 kw_18 kw_240) rfl rfl rfl (by decide +kernel) ⟨Nat.le_of_ble_eq_true rfl, Nat.le_of_ble_eq_true rfl⟩) (g_preV (C := RX7) (T := TX7) (N := 2) hP hD hK hS hA hN hZ (q0 := 1) rfl rfl [1, 2] (by decide) rfl [0] rfl) rfl rfl hl.1 rfl (lv_room (Nat.le_of_ble_eq_true rfl)) dX10_feed_54 ⟨Nat.le_of_ble_eq_true rfl, Nat.le_of_ble_eq_true rfl⟩) hP hD hK hS hA [1, 2] [0] rfl rfl (by decide) (by decide) (fun w ty1 H locs hw_54 hP hD _ hS => ?_)
  rcases hw_54 with ⟨f2_54, hu, hf2_54⟩
  cases hu
  have hP : va_P (dC, dI) vwCl [(h, .inr (9, [.ref aT, .ref aB, .ref aS, .ref aR, .ref aF, .ref aC, .ref aX])), (aT, .inr (7, [.ref tb, .int (nI (((((0 + 4) + 4) + 4) + 4) + 4))])), (tb, .inl (cB, 9000, .inl f2_54))] H := hP
  have hD : va_D A [(h, .inr (9, [.ref aT, .ref aB, .ref aS, .ref aR, .ref aF, .ref aC, .ref aX])), (aT, .inr (7, [.ref tb, .int (nI (((((0 + 4) + 4) + 4) + 4) + 4))])), (tb, .inl (cB, 9000, .inl f2_54))] := hD
  refine lv_aload_n hx hb dX10_feed_57 rfl (lv_at hl 0 rfl) ?_
  refine va_get (D := (dC, dI)) (ci := 9) (v := .ref aT) (C := RX10) (T := TX10) (N := 7) hx hb hts iwX10 hown hK hP 0 rfl rfl 0 (by decide) (hts (.fieldLink RX10 10 "ModulePlayer" "tape" "LModulePlayer$Tape;") (List.mem_cons_of_mem _ kw_19)) (fun _ h9 => h9) rfl dX10_feed_58 ?_
  refine va_get (D := (dC, dI)) (ci := 7) (v := .int (nI (((((0 + 4) + 4) + 4) + 4) + 4))) (C := RX7) (T := TX7) (N := 2) hx hb hts iwX7 hown hK hP 1 rfl rfl 1 (by decide) (hts (.fieldLink RX10 71 "ModulePlayer$Tape" "length" "I") (List.mem_cons_of_mem _ kw_236)) (fun _ h9 => h9) rfl dX10_feed_61 ?_
  have hP9 := hP.sub (ws' := []) [] rfl
  have hD9 := hD.sub (ws' := []) [] (by decide) rfl
  have hK9 := hK.sub (tys' := []) [] rfl
  exact W.iret (v := nI (((((0 + 4) + 4) + 4) + 4) + 4)) hx hb hr (fun t ht hW => ⟨⟨nI (((((0 + 4) + 4) + 4) + 4) + 4), ([], []), rfl, ⟨rfl, rfl⟩, by rw [ht]; exact hP9, va_K.moved hW.alike hK9, hD9⟩, hS.F ht⟩) hS.2.2 dX10_feed_64

set_option maxHeartbeats 400000 in
set_option maxRecDepth 100000 in
/-- end, first -/
theorem f_end (l : Launch) (dC : Nat → ClassId) (dI : Nat → Nat → Nat) (sz : Nat) (h aT aB aS aR aF aC aX : Nat) (tb : Nat) (cB : ClassId) (n : Int32) : Met l yX10_end (wsG (.code yX10_end cX10_end 2 (some .boolean))) ({ frames := 0, cells := 0, slots := 0, locals := 0 }) (va_Pc [.ref h, .int n] (gP (dC, dI) [(cB, .byte)] [(h, .inr (9, [.ref aT, .ref aB, .ref aS, .ref aR, .ref aF, .ref aC, .ref aX])), (aT, .inr (7, [.ref tb, .int 0])), (tb, .inl (cB, 9000, .inl (fun _ => 0)))] sz)) (va_Qi (fun (r : Int32) (u : va_W × gT) => u = ([], []) ∧ r = bF (n = 0)) (gB (dC, dI) (va_A [(h, .inr (9, [.ref aT, .ref aB, .ref aS, .ref aR, .ref aF, .ref aC, .ref aX])), (aT, .inr (7, [.ref tb, .int 0])), (tb, .inl (cB, 9000, .inl (fun _ => 0)))] sz)) (va_A [(h, .inr (9, [.ref aT, .ref aB, .ref aS, .ref aR, .ref aF, .ref aC, .ref aX])), (aT, .inr (7, [.ref tb, .int 0])), (tb, .inl (cB, 9000, .inl (fun _ => 0)))] sz)) 0 0 (va_A [(h, .inr (9, [.ref aT, .ref aB, .ref aS, .ref aR, .ref aF, .ref aC, .ref aX])), (aT, .inr (7, [.ref tb, .int 0])), (tb, .inl (cB, 9000, .inl (fun _ => 0)))] sz) := by
  refine Met.ofW (cc := cX10_end) (maxL := 2) (ret := (some .boolean)) (by decide) rfl ?_
  intro p e s m args below meth c s₁ B hml hv
  obtain ⟨rfl, hsz, hP, hK, hD0, hN, hZ⟩ := hv
  have hx := B.exec
  have hb := B.bytes
  have hr := B.returns
  have hts := atoms_spec (ws := (wsG (.code yX10_end cX10_end 2 (some .boolean)))) B.pre
  have hown : s.vm.findClass RX10 = some m.cls := findClass_of_methodNamed B.named
  have hlocks := B.notSynchronized
  subst hsz
  have hD := hD0.self (sz := s.heap.size)
  generalize hAe : va_A [(h, .inr (9, [.ref aT, .ref aB, .ref aS, .ref aR, .ref aF, .ref aC, .ref aX])), (aT, .inr (7, [.ref tb, .int 0])), (tb, .inl (cB, 9000, .inl (fun _ => 0)))] s.heap.size = A at hD hZ ⊢
  have hA : ∀ q : Nat, s.heap.size ≤ q → A q := fun q h => by rw [← hAe]; exact Or.inr h
  have hl := lv_entry ([.ref h, .int n]) (n := 2) (Nat.le_of_ble_eq_true rfl)
  rw [lg_entry_eq]
  generalize (lg_sl ([.ref h, .int n]) ++ List.replicate (2 - (lg_sl ([.ref h, .int n])).length) Slot.unset).toArray = ls at hl ⊢
  have hl : lv_has ls 2 [(0, .ref h), (1, .int n)] := hl
  refine g_start (A := A) hP (fun H locs hP hS => ?_)
  refine lv_iload_n hx hb dX10_end_0 rfl (lv_at hl 1 rfl) ?_
  refine lv_if_lt (tgt := 15) hx hb dX10_end_1 (by decide) (fun c_1 => ?_) (fun c_1 => ?_)
  · refine lv_iconst (v := 0) hx hb dX10_end_15 (by decide) ?_
    have hP9 := hP.sub (ws' := []) [] rfl
    have hD9 := hD.sub (ws' := []) [] (by decide) rfl
    have hK9 := hK.sub (tys' := []) [] rfl
    exact W.zret (v := 0) hx hb hr (by decide) (fun t ht hW => ⟨⟨0, ([], []), rfl, ⟨rfl, bF_f (end1 c_1)⟩, by rw [ht]; exact hP9, va_K.moved hW.alike hK9, hD9⟩, hS.F ht⟩) hS.2.2 dX10_end_16
  refine lv_iload_n hx hb dX10_end_4 rfl (lv_at hl 1 rfl) ?_
  refine lv_aload_n hx hb dX10_end_5 rfl (lv_at hl 0 rfl) ?_
  refine va_get (D := (dC, dI)) (ci := 9) (v := .ref aT) (C := RX10) (T := TX10) (N := 7) hx hb hts iwX10 hown hK hP 0 rfl rfl 0 (by decide) (hts (.fieldLink RX10 10 "ModulePlayer" "tape" "LModulePlayer$Tape;") (List.mem_cons_of_mem _ kw_19)) (fun _ h9 => h9) rfl dX10_end_6 ?_
  refine va_get (D := (dC, dI)) (ci := 7) (v := .int 0) (C := RX7) (T := TX7) (N := 2) hx hb hts iwX7 hown hK hP 1 rfl rfl 1 (by decide) (hts (.fieldLink RX10 71 "ModulePlayer$Tape" "length" "I") (List.mem_cons_of_mem _ kw_236)) (fun _ h9 => h9) rfl dX10_end_9 ?_
  refine lv_icmp_le (tgt := 17) hx hb dX10_end_12 (by decide) (fun c_12 => ?_) (fun c_12 => ?_)
  · refine lv_aload_n hx hb dX10_end_17 rfl (lv_at hl 0 rfl) ?_
    refine va_get (D := (dC, dI)) (ci := 9) (v := .ref aT) (C := RX10) (T := TX10) (N := 7) hx hb hts iwX10 hown hK hP 0 rfl rfl 0 (by decide) (hts (.fieldLink RX10 10 "ModulePlayer" "tape" "LModulePlayer$Tape;") (List.mem_cons_of_mem _ kw_19)) (fun _ h9 => h9) rfl dX10_end_18 ?_
    refine lv_iload_n hx hb dX10_end_21 rfl (lv_at hl 1 rfl) ?_
    refine va_put (D := (dC, dI)) (ci := 7) (v := .int n) (ty := tyX7 1) (C := RX7) (T := TX7) (N := 2) hx hb hts iwX7 tyX7 tyX7_ok nmX7 hown hK hP hD hS 1 rfl rfl 1 (by decide) (hts (.fieldLink RX10 71 "ModulePlayer$Tape" "length" "I") (List.mem_cons_of_mem _ kw_236)) (fun _ h9 => h9) rfl (by decide +kernel) (rfl) (rfl) (Nat.le_of_ble_eq_true rfl) dX10_end_22 (fun H locs hP hD hS => ?_)
    have hP : va_P (dC, dI) vwCl [(h, .inr (9, [.ref aT, .ref aB, .ref aS, .ref aR, .ref aF, .ref aC, .ref aX])), (aT, .inr (7, [.ref tb, .int n])), (tb, .inl (cB, 9000, .inl (fun _ => 0)))] H := hP
    have hD : va_D A [(h, .inr (9, [.ref aT, .ref aB, .ref aS, .ref aR, .ref aF, .ref aC, .ref aX])), (aT, .inr (7, [.ref tb, .int n])), (tb, .inl (cB, 9000, .inl (fun _ => 0)))] := hD
    refine lv_iconst (v := 1) hx hb dX10_end_25 (by decide) ?_
    have hP9 := hP.sub (ws' := []) [] rfl
    have hD9 := hD.sub (ws' := []) [] (by decide) rfl
    have hK9 := hK.sub (tys' := []) [] rfl
    exact W.zret (v := 1) hx hb hr (by decide) (fun t ht hW => ⟨⟨1, ([], []), rfl, ⟨rfl, bF_t (end0 c_1 c_12)⟩, by rw [ht]; exact hP9, va_K.moved hW.alike hK9, hD9⟩, hS.F ht⟩) hS.2.2 dX10_end_26
  refine lv_iconst (v := 0) hx hb dX10_end_15 (by decide) ?_
  have hP9 := hP.sub (ws' := []) [] rfl
  have hD9 := hD.sub (ws' := []) [] (by decide) rfl
  have hK9 := hK.sub (tys' := []) [] rfl
  exact W.zret (v := 0) hx hb hr (by decide) (fun t ht hW => ⟨⟨0, ([], []), rfl, ⟨rfl, bF_f (end2 c_12)⟩, by rw [ht]; exact hP9, va_K.moved hW.alike hK9, hD9⟩, hS.F ht⟩) hS.2.2 dX10_end_16

set_option maxHeartbeats 400000 in
set_option maxRecDepth 100000 in
/-- poke, first -/
theorem f_poke (l : Launch) (dC : Nat → ClassId) (dI : Nat → Nat → Nat) (sz : Nat) (h aT aB aS aR aF aC aX : Nat) (tb : Nat) (cB : ClassId) (i v : Int32) : Met l yX10_poke (wsG (.code yX10_poke cX10_poke 3 (some .int))) ({ frames := 2, cells := 0, slots := 0, locals := 44 }) (va_Pc [.ref h, .int i, .int v] (gP (dC, dI) [(cB, .byte)] [(h, .inr (9, [.ref aT, .ref aB, .ref aS, .ref aR, .ref aF, .ref aC, .ref aX])), (aT, .inr (7, [.ref tb, .int 0])), (tb, .inl (cB, 9000, .inl (fun _ => 0)))] sz)) (va_Qi (fun (r : Int32) (u : va_W × gT) => u = ([], []) ∧ r = pokeF i) (gB (dC, dI) (va_A [(h, .inr (9, [.ref aT, .ref aB, .ref aS, .ref aR, .ref aF, .ref aC, .ref aX])), (aT, .inr (7, [.ref tb, .int 0])), (tb, .inl (cB, 9000, .inl (fun _ => 0)))] sz)) (va_A [(h, .inr (9, [.ref aT, .ref aB, .ref aS, .ref aR, .ref aF, .ref aC, .ref aX])), (aT, .inr (7, [.ref tb, .int 0])), (tb, .inl (cB, 9000, .inl (fun _ => 0)))] sz)) 0 0 (va_A [(h, .inr (9, [.ref aT, .ref aB, .ref aS, .ref aR, .ref aF, .ref aC, .ref aX])), (aT, .inr (7, [.ref tb, .int 0])), (tb, .inl (cB, 9000, .inl (fun _ => 0)))] sz) := by
  refine Met.ofW (cc := cX10_poke) (maxL := 3) (ret := (some .int)) (by decide) rfl ?_
  intro p e s m args below meth c s₁ B hml hv
  obtain ⟨rfl, hsz, hP, hK, hD0, hN, hZ⟩ := hv
  have hx := B.exec
  have hb := B.bytes
  have hr := B.returns
  have hts := atoms_spec (ws := (wsG (.code yX10_poke cX10_poke 3 (some .int)))) B.pre
  have hown : s.vm.findClass RX10 = some m.cls := findClass_of_methodNamed B.named
  have hlocks := B.notSynchronized
  subst hsz
  have hD := hD0.self (sz := s.heap.size)
  generalize hAe : va_A [(h, .inr (9, [.ref aT, .ref aB, .ref aS, .ref aR, .ref aF, .ref aC, .ref aX])), (aT, .inr (7, [.ref tb, .int 0])), (tb, .inl (cB, 9000, .inl (fun _ => 0)))] s.heap.size = A at hD hZ ⊢
  have hA : ∀ q : Nat, s.heap.size ≤ q → A q := fun q h => by rw [← hAe]; exact Or.inr h
  have hl := lv_entry ([.ref h, .int i, .int v]) (n := 3) (Nat.le_of_ble_eq_true rfl)
  rw [lg_entry_eq]
  generalize (lg_sl ([.ref h, .int i, .int v]) ++ List.replicate (3 - (lg_sl ([.ref h, .int i, .int v])).length) Slot.unset).toArray = ls at hl ⊢
  have hl : lv_has ls 3 [(0, .ref h), (1, .int i), (2, .int v)] := hl
  refine g_start (A := A) hP (fun H locs hP hS => ?_)
  refine lv_iload_n hx hb dX10_poke_0 rfl (lv_at hl 1 rfl) ?_
  refine lv_sipush (v := 9000) hx hb dX10_poke_1 (by decide) ?_
  refine g_calli (wr := [(h, .inr (9, [.ref aT, .ref aB, .ref aS, .ref aR, .ref aF, .ref aC, .ref aX])), (aT, .inr (7, [.ref tb, .int 0])), (tb, .inl (cB, 9000, .inl (fun _ => 0)))]) (va_runS (As := [.int i, .int 9000]) (rest := []) ⟨hx, hb, hml, hown, hts⟩ (c_isIn l dC dI H.size i 9000 ) (va_cwS 2 hts (gG_S kw_273 kw_247 kw_2 kw_248) rfl rfl rfl (by decide +kernel) ⟨Nat.le_of_ble_eq_true rfl, Nat.le_of_ble_eq_true rfl⟩) (g_preS hP hD hK hS hA hN hZ [] (by decide) rfl [] rfl) rfl rfl hl.1 rfl (lv_room (Nat.le_of_ble_eq_true rfl)) dX10_poke_4 ⟨Nat.le_of_ble_eq_true rfl, Nat.le_of_ble_eq_true rfl⟩) hP hD hK hS hA [] [0, 1, 2] rfl rfl (by decide) (by decide) (fun r_4 w ty1 H locs hw_4 hP hD _ hS => ?_)
  rcases hw_4 with ⟨hu, hr_4, h_4⟩ | ⟨hu, hr_4, h_4⟩
  · cases hu
    have hP : va_P (dC, dI) vwCl [(h, .inr (9, [.ref aT, .ref aB, .ref aS, .ref aR, .ref aF, .ref aC, .ref aX])), (aT, .inr (7, [.ref tb, .int 0])), (tb, .inl (cB, 9000, .inl (fun _ => 0)))] H := hP
    have hD : va_D A [(h, .inr (9, [.ref aT, .ref aB, .ref aS, .ref aR, .ref aF, .ref aC, .ref aX])), (aT, .inr (7, [.ref tb, .int 0])), (tb, .inl (cB, 9000, .inl (fun _ => 0)))] := hD
    refine g_topi (y := 1) hr_4 ?_
    obtain ⟨j, hj, hij⟩ := i_in (by decide) h_4.1 h_4.2
    subst hij
    refine lv_if_ne (tgt := 12) hx hb dX10_poke_7 (by decide) (fun c_7 => ?_) (fun c_7 => absurd c_7 (by decide))
    refine lv_aload_n hx hb dX10_poke_12 rfl (lv_at hl 0 rfl) ?_
    refine va_get (D := (dC, dI)) (ci := 9) (v := .ref aT) (C := RX10) (T := TX10) (N := 7) hx hb hts iwX10 hown hK hP 0 rfl rfl 0 (by decide) (hts (.fieldLink RX10 10 "ModulePlayer" "tape" "LModulePlayer$Tape;") (List.mem_cons_of_mem _ kw_19)) (fun _ h9 => h9) rfl dX10_poke_13 ?_
    refine lv_iload_n hx hb dX10_poke_16 rfl (lv_at hl 1 rfl) ?_
    refine lv_iload_n hx hb dX10_poke_17 rfl (lv_at hl 2 rfl) ?_
    refine g_callv (wr := [(h, .inr (9, [.ref aT, .ref aB, .ref aS, .ref aR, .ref aF, .ref aC, .ref aX]))]) (va_runV (As := [.int (nI j), .int v]) (rest := []) ⟨hx, hb, hml, hown, hts⟩ (c_put l dC dI H.size aT tb cB (fun _ => 0) 0 j v (j + 1) (by decide) (hj) (by omega)) (cwV 2 hts (gG_V kw_274 kw_243 kw_244 kw_18 kw_245) rfl rfl rfl (by decide +kernel) ⟨Nat.le_of_ble_eq_true rfl, Nat.le_of_ble_eq_true rfl⟩) (g_preV (C := RX7) (T := TX7) (N := 2) hP hD hK hS hA hN hZ (q0 := 1) rfl rfl [1, 2] (by decide) rfl [0] rfl) rfl rfl hl.1 rfl (lv_room (Nat.le_of_ble_eq_true rfl)) dX10_poke_18 ⟨Nat.le_of_ble_eq_true rfl, Nat.le_of_ble_eq_true rfl⟩) hP hD hK hS hA [1, 2] [0] rfl rfl (by decide) (by decide) (fun w ty1 H locs hw_18 hP hD _ hS => ?_)
    have hu := hw_18
    cases hu
    have hP : va_P (dC, dI) vwCl [(h, .inr (9, [.ref aT, .ref aB, .ref aS, .ref aR, .ref aF, .ref aC, .ref aX])), (aT, .inr (7, [.ref tb, .int (nI (j + 1))])), (tb, .inl (cB, 9000, .inl (fput (fun _ => 0) 0 j v)))] H := hP
    have hD : va_D A [(h, .inr (9, [.ref aT, .ref aB, .ref aS, .ref aR, .ref aF, .ref aC, .ref aX])), (aT, .inr (7, [.ref tb, .int (nI (j + 1))])), (tb, .inl (cB, 9000, .inl (fput (fun _ => 0) 0 j v)))] := hD
    refine lv_aload_n hx hb dX10_poke_21 rfl (lv_at hl 0 rfl) ?_
    refine va_get (D := (dC, dI)) (ci := 9) (v := .ref aT) (C := RX10) (T := TX10) (N := 7) hx hb hts iwX10 hown hK hP 0 rfl rfl 0 (by decide) (hts (.fieldLink RX10 10 "ModulePlayer" "tape" "LModulePlayer$Tape;") (List.mem_cons_of_mem _ kw_19)) (fun _ h9 => h9) rfl dX10_poke_22 ?_
    refine va_get (D := (dC, dI)) (ci := 7) (v := .int (nI (j + 1))) (C := RX7) (T := TX7) (N := 2) hx hb hts iwX7 hown hK hP 1 rfl rfl 1 (by decide) (hts (.fieldLink RX10 71 "ModulePlayer$Tape" "length" "I") (List.mem_cons_of_mem _ kw_236)) (fun _ h9 => h9) rfl dX10_poke_25 ?_
    have hP9 := hP.sub (ws' := []) [] rfl
    have hD9 := hD.sub (ws' := []) [] (by decide) rfl
    have hK9 := hK.sub (tys' := []) [] rfl
    exact W.iret (v := nI (j + 1)) hx hb hr (fun t ht hW => ⟨⟨nI (j + 1), ([], []), rfl, ⟨rfl, ((if_pos (isin0 hj (by decide))).trans (nI_1 j)).symm⟩, by rw [ht]; exact hP9, va_K.moved hW.alike hK9, hD9⟩, hS.F ht⟩) hS.2.2 dX10_poke_28
  cases hu
  have hP : va_P (dC, dI) vwCl [(h, .inr (9, [.ref aT, .ref aB, .ref aS, .ref aR, .ref aF, .ref aC, .ref aX])), (aT, .inr (7, [.ref tb, .int 0])), (tb, .inl (cB, 9000, .inl (fun _ => 0)))] H := hP
  have hD : va_D A [(h, .inr (9, [.ref aT, .ref aB, .ref aS, .ref aR, .ref aF, .ref aC, .ref aX])), (aT, .inr (7, [.ref tb, .int 0])), (tb, .inl (cB, 9000, .inl (fun _ => 0)))] := hD
  refine g_topi (y := 0) hr_4 ?_
  refine lv_if_ne (tgt := 12) hx hb dX10_poke_7 (by decide) (fun c_7 => absurd c_7 (by decide)) (fun c_7 => ?_)
  refine lv_iconst (v := (-1)) hx hb dX10_poke_10 (by decide) ?_
  have hP9 := hP.sub (ws' := []) [] rfl
  have hD9 := hD.sub (ws' := []) [] (by decide) rfl
  have hK9 := hK.sub (tys' := []) [] rfl
  exact W.iret (v := (-1)) hx hb hr (fun t ht hW => ⟨⟨(-1), ([], []), rfl, ⟨rfl, (if_neg h_4).symm⟩, by rw [ht]; exact hP9, va_K.moved hW.alike hK9, hD9⟩, hS.F ht⟩) hS.2.2 dX10_poke_11

set_option maxHeartbeats 400000 in
set_option maxRecDepth 100000 in
/-- fault, first -/
theorem f_fault (l : Launch) (dC : Nat → ClassId) (dI : Nat → Nat → Nat) (sz : Nat) (h aT aB aS aR aF aC aX : Nat) (x : Int32) : Met l yX10_fault (wsG (.code yX10_fault cX10_fault 2 (some .int))) ({ frames := 0, cells := 0, slots := 0, locals := 0 }) (va_Pc [.ref h, .int x] (gP (dC, dI) [] [(h, .inr (9, [.ref aT, .ref aB, .ref aS, .ref aR, .ref aF, .ref aC, .ref aX])), (aR, .inr (4, [.int 0, .int (-1)]))] sz)) (va_Qi (fun (r : Int32) (u : va_W × gT) => u = ([], []) ∧ r = faultF x) (gB (dC, dI) (va_A [(h, .inr (9, [.ref aT, .ref aB, .ref aS, .ref aR, .ref aF, .ref aC, .ref aX])), (aR, .inr (4, [.int 0, .int (-1)]))] sz)) (va_A [(h, .inr (9, [.ref aT, .ref aB, .ref aS, .ref aR, .ref aF, .ref aC, .ref aX])), (aR, .inr (4, [.int 0, .int (-1)]))] sz)) 0 0 (va_A [(h, .inr (9, [.ref aT, .ref aB, .ref aS, .ref aR, .ref aF, .ref aC, .ref aX])), (aR, .inr (4, [.int 0, .int (-1)]))] sz) := by
  refine Met.ofW (cc := cX10_fault) (maxL := 2) (ret := (some .int)) (by decide) rfl ?_
  intro p e s m args below meth c s₁ B hml hv
  obtain ⟨rfl, hsz, hP, hK, hD0, hN, hZ⟩ := hv
  have hx := B.exec
  have hb := B.bytes
  have hr := B.returns
  have hts := atoms_spec (ws := (wsG (.code yX10_fault cX10_fault 2 (some .int)))) B.pre
  have hown : s.vm.findClass RX10 = some m.cls := findClass_of_methodNamed B.named
  have hlocks := B.notSynchronized
  subst hsz
  have hD := hD0.self (sz := s.heap.size)
  generalize hAe : va_A [(h, .inr (9, [.ref aT, .ref aB, .ref aS, .ref aR, .ref aF, .ref aC, .ref aX])), (aR, .inr (4, [.int 0, .int (-1)]))] s.heap.size = A at hD hZ ⊢
  have hA : ∀ q : Nat, s.heap.size ≤ q → A q := fun q h => by rw [← hAe]; exact Or.inr h
  have hl := lv_entry ([.ref h, .int x]) (n := 2) (Nat.le_of_ble_eq_true rfl)
  rw [lg_entry_eq]
  generalize (lg_sl ([.ref h, .int x]) ++ List.replicate (2 - (lg_sl ([.ref h, .int x])).length) Slot.unset).toArray = ls at hl ⊢
  have hl : lv_has ls 2 [(0, .ref h), (1, .int x)] := hl
  refine g_start (A := A) hP (fun H locs hP hS => ?_)
  refine lv_iload_n hx hb dX10_fault_0 rfl (lv_at hl 1 rfl) ?_
  by_cases hq_1_0 : x = 0
  · refine lv_lookup (off := 27) (tgt := 28) hx hb dX10_fault_1 (by decide) (by rw [hq_1_0]; decide) (by decide) ?_
    refine lv_aload_n hx hb dX10_fault_28 rfl (lv_at hl 0 rfl) ?_
    refine va_get (D := (dC, dI)) (ci := 9) (v := .ref aR) (C := RX10) (T := TX10) (N := 7) hx hb hts iwX10 hown hK hP 0 rfl rfl 3 (by decide) (hts (.fieldLink RX10 33 "ModulePlayer" "reader" "LModulePlayer$Reader;") (List.mem_cons_of_mem _ kw_31)) (fun _ h9 => h9) rfl dX10_fault_29 ?_
    refine va_get (D := (dC, dI)) (ci := 4) (v := .int 0) (C := RX4) (T := TX4) (N := 2) hx hb hts iwX4 hown hK hP 1 rfl rfl 0 (by decide) (hts (.fieldLink RX10 106 "ModulePlayer$Reader" "fault" "I") (List.mem_cons_of_mem _ kw_456)) (fun _ h9 => h9) rfl dX10_fault_32 ?_
    have hP9 := hP.sub (ws' := []) [] rfl
    have hD9 := hD.sub (ws' := []) [] (by decide) rfl
    have hK9 := hK.sub (tys' := []) [] rfl
    exact W.iret (v := 0) hx hb hr (fun t ht hW => ⟨⟨0, ([], []), rfl, ⟨rfl, (if_pos hq_1_0).symm⟩, by rw [ht]; exact hP9, va_K.moved hW.alike hK9, hD9⟩, hS.F ht⟩) hS.2.2 dX10_fault_35
  by_cases hq_1_1 : x = 1
  · refine lv_lookup (off := 35) (tgt := 36) hx hb dX10_fault_1 (by decide) (by rw [hq_1_1]; decide) (by decide) ?_
    refine lv_aload_n hx hb dX10_fault_36 rfl (lv_at hl 0 rfl) ?_
    refine va_get (D := (dC, dI)) (ci := 9) (v := .ref aR) (C := RX10) (T := TX10) (N := 7) hx hb hts iwX10 hown hK hP 0 rfl rfl 3 (by decide) (hts (.fieldLink RX10 33 "ModulePlayer" "reader" "LModulePlayer$Reader;") (List.mem_cons_of_mem _ kw_31)) (fun _ h9 => h9) rfl dX10_fault_37 ?_
    refine va_get (D := (dC, dI)) (ci := 4) (v := .int (-1)) (C := RX4) (T := TX4) (N := 2) hx hb hts iwX4 hown hK hP 1 rfl rfl 1 (by decide) (hts (.fieldLink RX10 109 "ModulePlayer$Reader" "faultPlace" "I") (List.mem_cons_of_mem _ kw_457)) (fun _ h9 => h9) rfl dX10_fault_40 ?_
    have hP9 := hP.sub (ws' := []) [] rfl
    have hD9 := hD.sub (ws' := []) [] (by decide) rfl
    have hK9 := hK.sub (tys' := []) [] rfl
    exact W.iret (v := (-1)) hx hb hr (fun t ht hW => ⟨⟨(-1), ([], []), rfl, ⟨rfl, (if_neg hq_1_0).symm⟩, by rw [ht]; exact hP9, va_K.moved hW.alike hK9, hD9⟩, hS.F ht⟩) hS.2.2 dX10_fault_43
  refine lv_lookup (off := 43) (tgt := 44) hx hb dX10_fault_1 (by decide) (by show Op.lookupswitch.offset [(0, 27), (1, 35)] 43 _ = _; rw [lv_osw hq_1_0 (by decide)]; rw [lv_osw hq_1_1 (by decide)]; rfl) (by decide) ?_
  refine lv_iconst (v := (-1)) hx hb dX10_fault_44 (by decide) ?_
  have hP9 := hP.sub (ws' := []) [] rfl
  have hD9 := hD.sub (ws' := []) [] (by decide) rfl
  have hK9 := hK.sub (tys' := []) [] rfl
  exact W.iret (v := (-1)) hx hb hr (fun t ht hW => ⟨⟨(-1), ([], []), rfl, ⟨rfl, (if_neg hq_1_0).symm⟩, by rw [ht]; exact hP9, va_K.moved hW.alike hK9, hD9⟩, hS.F ht⟩) hS.2.2 dX10_fault_45

set_option maxHeartbeats 400000 in
set_option maxRecDepth 100000 in
/-- tape, first -/
theorem f_tape (l : Launch) (dC : Nat → ClassId) (dI : Nat → Nat → Nat) (sz : Nat) (h aT aB aS aR aF aC aX : Nat) (tb : Nat) (cB : ClassId) (i : Int32) : Met l yX10_tape (wsG (.code yX10_tape cX10_tape 2 (some .int))) ({ frames := 2, cells := 0, slots := 0, locals := 42 }) (va_Pc [.ref h, .int i] (gP (dC, dI) [(cB, .byte)] [(h, .inr (9, [.ref aT, .ref aB, .ref aS, .ref aR, .ref aF, .ref aC, .ref aX])), (aT, .inr (7, [.ref tb, .int 0])), (tb, .inl (cB, 9000, .inl (fun _ => 0)))] sz)) (va_Qi (fun (r : Int32) (u : va_W × gT) => u = ([], []) ∧ r = (-1)) (gB (dC, dI) (va_A [(h, .inr (9, [.ref aT, .ref aB, .ref aS, .ref aR, .ref aF, .ref aC, .ref aX])), (aT, .inr (7, [.ref tb, .int 0])), (tb, .inl (cB, 9000, .inl (fun _ => 0)))] sz)) (va_A [(h, .inr (9, [.ref aT, .ref aB, .ref aS, .ref aR, .ref aF, .ref aC, .ref aX])), (aT, .inr (7, [.ref tb, .int 0])), (tb, .inl (cB, 9000, .inl (fun _ => 0)))] sz)) 0 0 (va_A [(h, .inr (9, [.ref aT, .ref aB, .ref aS, .ref aR, .ref aF, .ref aC, .ref aX])), (aT, .inr (7, [.ref tb, .int 0])), (tb, .inl (cB, 9000, .inl (fun _ => 0)))] sz) := by
  refine Met.ofW (cc := cX10_tape) (maxL := 2) (ret := (some .int)) (by decide) rfl ?_
  intro p e s m args below meth c s₁ B hml hv
  obtain ⟨rfl, hsz, hP, hK, hD0, hN, hZ⟩ := hv
  have hx := B.exec
  have hb := B.bytes
  have hr := B.returns
  have hts := atoms_spec (ws := (wsG (.code yX10_tape cX10_tape 2 (some .int)))) B.pre
  have hown : s.vm.findClass RX10 = some m.cls := findClass_of_methodNamed B.named
  have hlocks := B.notSynchronized
  subst hsz
  have hD := hD0.self (sz := s.heap.size)
  generalize hAe : va_A [(h, .inr (9, [.ref aT, .ref aB, .ref aS, .ref aR, .ref aF, .ref aC, .ref aX])), (aT, .inr (7, [.ref tb, .int 0])), (tb, .inl (cB, 9000, .inl (fun _ => 0)))] s.heap.size = A at hD hZ ⊢
  have hA : ∀ q : Nat, s.heap.size ≤ q → A q := fun q h => by rw [← hAe]; exact Or.inr h
  have hl := lv_entry ([.ref h, .int i]) (n := 2) (Nat.le_of_ble_eq_true rfl)
  rw [lg_entry_eq]
  generalize (lg_sl ([.ref h, .int i]) ++ List.replicate (2 - (lg_sl ([.ref h, .int i])).length) Slot.unset).toArray = ls at hl ⊢
  have hl : lv_has ls 2 [(0, .ref h), (1, .int i)] := hl
  refine g_start (A := A) hP (fun H locs hP hS => ?_)
  refine lv_aload_n hx hb dX10_tape_0 rfl (lv_at hl 0 rfl) ?_
  refine va_get (D := (dC, dI)) (ci := 9) (v := .ref aT) (C := RX10) (T := TX10) (N := 7) hx hb hts iwX10 hown hK hP 0 rfl rfl 0 (by decide) (hts (.fieldLink RX10 10 "ModulePlayer" "tape" "LModulePlayer$Tape;") (List.mem_cons_of_mem _ kw_19)) (fun _ h9 => h9) rfl dX10_tape_1 ?_
  refine lv_iload_n hx hb dX10_tape_4 rfl (lv_at hl 1 rfl) ?_
  refine g_calli (wr := [(h, .inr (9, [.ref aT, .ref aB, .ref aS, .ref aR, .ref aF, .ref aC, .ref aX]))]) (va_runV (As := [.int i]) (rest := []) ⟨hx, hb, hml, hown, hts⟩ (c_at l dC dI H.size aT tb cB (fun _ => 0) 0 i (by decide)) (cwV 1 hts (gG_V kw_526 kw_296 kw_297 kw_18 kw_298) rfl rfl rfl (by decide +kernel) ⟨Nat.le_of_ble_eq_true rfl, Nat.le_of_ble_eq_true rfl⟩) (g_preV (C := RX7) (T := TX7) (N := 2) hP hD hK hS hA hN hZ (q0 := 1) rfl rfl [1, 2] (by decide) rfl [0] rfl) rfl rfl hl.1 rfl (lv_room (Nat.le_of_ble_eq_true rfl)) dX10_tape_5 ⟨Nat.le_of_ble_eq_true rfl, Nat.le_of_ble_eq_true rfl⟩) hP hD hK hS hA [1, 2] [0] rfl rfl (by decide) (by decide) (fun r_5 w ty1 H locs hw_5 hP hD _ hS => ?_)
  rcases hw_5 with ⟨k_5, hu, hr_5, hk_5, hi_5⟩ | ⟨hu, hr_5, hn_5⟩
  · exact False.elim (Nat.not_lt_zero _ hk_5)
  cases hu
  have hP : va_P (dC, dI) vwCl [(h, .inr (9, [.ref aT, .ref aB, .ref aS, .ref aR, .ref aF, .ref aC, .ref aX])), (aT, .inr (7, [.ref tb, .int (nI 0)])), (tb, .inl (cB, 9000, .inl (fun _ => 0)))] H := hP
  have hD : va_D A [(h, .inr (9, [.ref aT, .ref aB, .ref aS, .ref aR, .ref aF, .ref aC, .ref aX])), (aT, .inr (7, [.ref tb, .int (nI 0)])), (tb, .inl (cB, 9000, .inl (fun _ => 0)))] := hD
  refine g_topi (y := (-1)) hr_5 ?_
  have hP9 := hP.sub (ws' := []) [] rfl
  have hD9 := hD.sub (ws' := []) [] (by decide) rfl
  have hK9 := hK.sub (tys' := []) [] rfl
  exact W.iret (v := (-1)) hx hb hr (fun t ht hW => ⟨⟨(-1), ([], []), rfl, ⟨rfl, rfl⟩, by rw [ht]; exact hP9, va_K.moved hW.alike hK9, hD9⟩, hS.F ht⟩) hS.2.2 dX10_tape_8

set_option maxHeartbeats 400000 in
set_option maxRecDepth 100000 in
/-- sample, first -/
theorem f_sample (l : Launch) (dC : Nat → ClassId) (dI : Nat → Nat → Nat) (sz : Nat) (h aT aB aS aR aF aC aX : Nat) (sa bb : Nat) (ad : Nat → Nat) (cS cB : ClassId) (g : Nat → Option Nat) (i n t v : Int32) (hg : ∀ x, x < 32 → g x = some (ad x)) : Met l yX10_sample (wsG (.code yX10_sample cX10_sample 5 (some .boolean))) ({ frames := 4, cells := 0, slots := 0, locals := 93 }) (va_Pc [.ref h, .int i, .int n, .int t, .int v] (gP (dC, dI) [(cS, .object RX5), (cB, .byte)] ([(h, .inr (9, [.ref aT, .ref aB, .ref aS, .ref aR, .ref aF, .ref aC, .ref aX])), (aB, .inr (0, [.ref sa, .ref bb, .int 0])), (sa, .inl (cS, 32, .inr (.inr (.inr (.inr g))))), (bb, .inl (cB, 4000, .inl (fun _ => 0)))] ++ famN 32 ad (fun _ => 0) (fun _ => 0) (fun _ => 0) (fun _ => 0) (fun _ => 0) (fun _ => 0)) sz)) (va_Qi (fun (r : Int32) (u : va_W × gT) => u = ([], []) ∧ r = bF (sampP i n t v)) (gB (dC, dI) (va_A ([(h, .inr (9, [.ref aT, .ref aB, .ref aS, .ref aR, .ref aF, .ref aC, .ref aX])), (aB, .inr (0, [.ref sa, .ref bb, .int 0])), (sa, .inl (cS, 32, .inr (.inr (.inr (.inr g))))), (bb, .inl (cB, 4000, .inl (fun _ => 0)))] ++ famN 32 ad (fun _ => 0) (fun _ => 0) (fun _ => 0) (fun _ => 0) (fun _ => 0) (fun _ => 0)) sz)) (va_A ([(h, .inr (9, [.ref aT, .ref aB, .ref aS, .ref aR, .ref aF, .ref aC, .ref aX])), (aB, .inr (0, [.ref sa, .ref bb, .int 0])), (sa, .inl (cS, 32, .inr (.inr (.inr (.inr g))))), (bb, .inl (cB, 4000, .inl (fun _ => 0)))] ++ famN 32 ad (fun _ => 0) (fun _ => 0) (fun _ => 0) (fun _ => 0) (fun _ => 0) (fun _ => 0)) sz)) 0 0 (va_A ([(h, .inr (9, [.ref aT, .ref aB, .ref aS, .ref aR, .ref aF, .ref aC, .ref aX])), (aB, .inr (0, [.ref sa, .ref bb, .int 0])), (sa, .inl (cS, 32, .inr (.inr (.inr (.inr g))))), (bb, .inl (cB, 4000, .inl (fun _ => 0)))] ++ famN 32 ad (fun _ => 0) (fun _ => 0) (fun _ => 0) (fun _ => 0) (fun _ => 0) (fun _ => 0)) sz) := by
  refine Met.ofW (cc := cX10_sample) (maxL := 5) (ret := (some .boolean)) (by decide) rfl ?_
  intro p e s m args below meth c s₁ B hml hv
  obtain ⟨rfl, hsz, hP, hK, hD0, hN, hZ⟩ := hv
  have hx := B.exec
  have hb := B.bytes
  have hr := B.returns
  have hts := atoms_spec (ws := (wsG (.code yX10_sample cX10_sample 5 (some .boolean)))) B.pre
  have hown : s.vm.findClass RX10 = some m.cls := findClass_of_methodNamed B.named
  have hlocks := B.notSynchronized
  subst hsz
  have hD := hD0.self (sz := s.heap.size)
  generalize hAe : va_A ([(h, .inr (9, [.ref aT, .ref aB, .ref aS, .ref aR, .ref aF, .ref aC, .ref aX])), (aB, .inr (0, [.ref sa, .ref bb, .int 0])), (sa, .inl (cS, 32, .inr (.inr (.inr (.inr g))))), (bb, .inl (cB, 4000, .inl (fun _ => 0)))] ++ famN 32 ad (fun _ => 0) (fun _ => 0) (fun _ => 0) (fun _ => 0) (fun _ => 0) (fun _ => 0)) s.heap.size = A at hD hZ ⊢
  have hA : ∀ q : Nat, s.heap.size ≤ q → A q := fun q h => by rw [← hAe]; exact Or.inr h
  have hl := lv_entry ([.ref h, .int i, .int n, .int t, .int v]) (n := 5) (Nat.le_of_ble_eq_true rfl)
  rw [lg_entry_eq]
  generalize (lg_sl ([.ref h, .int i, .int n, .int t, .int v]) ++ List.replicate (5 - (lg_sl ([.ref h, .int i, .int n, .int t, .int v])).length) Slot.unset).toArray = ls at hl ⊢
  have hl : lv_has ls 5 [(0, .ref h), (1, .int i), (2, .int n), (3, .int t), (4, .int v)] := hl
  refine g_start (A := A) hP (fun H locs hP hS => ?_)
  refine lv_aload_n hx hb dX10_sample_0 rfl (lv_at hl 0 rfl) ?_
  refine va_get (D := (dC, dI)) (ci := 9) (v := .ref aB) (C := RX10) (T := TX10) (N := 7) hx hb hts iwX10 hown hK hP 0 rfl rfl 1 (by decide) (hts (.fieldLink RX10 19 "ModulePlayer" "bank" "LModulePlayer$Bank;") (List.mem_cons_of_mem _ kw_23)) (fun _ h9 => h9) rfl dX10_sample_1 ?_
  refine lv_iload_n hx hb dX10_sample_4 rfl (lv_at hl 1 rfl) ?_
  refine g_calliQ (X := [(h, .inr (9, [.ref aT, .ref aB, .ref aS, .ref aR, .ref aF, .ref aC, .ref aX])), (aB, .inr (0, [.ref sa, .ref bb, .int 0])), (sa, .inl (cS, 32, .inr (.inr (.inr (.inr g))))), (bb, .inl (cB, 4000, .inl (fun _ => 0)))]) (wr := [(h, .inr (9, [.ref aT, .ref aB, .ref aS, .ref aR, .ref aF, .ref aC, .ref aX])), (sa, .inl (cS, 32, .inr (.inr (.inr (.inr g))))), (bb, .inl (cB, 4000, .inl (fun _ => 0)))]) (va_runV (As := [.int i]) (rest := []) ⟨hx, hb, hml, hown, hts⟩ (c_has l dC dI H.size aB sa bb 0 i ) (cwV 1 hts (gG_V kw_535 kw_397 kw_398 kw_22 kw_399) rfl rfl rfl (by decide +kernel) ⟨Nat.le_of_ble_eq_true rfl, Nat.le_of_ble_eq_true rfl⟩) (g_preV (ws := [(h, .inr (9, [.ref aT, .ref aB, .ref aS, .ref aR, .ref aF, .ref aC, .ref aX])), (aB, .inr (0, [.ref sa, .ref bb, .int 0])), (sa, .inl (cS, 32, .inr (.inr (.inr (.inr g))))), (bb, .inl (cB, 4000, .inl (fun _ => 0)))]) (C := RX0) (T := TX0) (N := 3) hP.left hD.left hK hS hA hN hZ (q0 := 1) rfl rfl [1] (by decide) rfl [] rfl) rfl rfl hl.1 rfl (lv_room (Nat.le_of_ble_eq_true rfl)) dX10_sample_5 ⟨Nat.le_of_ble_eq_true rfl, Nat.le_of_ble_eq_true rfl⟩) hP hD hK hS hA [1] [0, 2, 3] rfl rfl (by decide) (by decide) (fun r_5 w ty1 H locs hw_5 hP hD _ hS => ?_)
  rcases hw_5 with ⟨hu, hr_5, hh_5⟩ | ⟨hu, hr_5, hh_5⟩
  · cases hu
    have hP : va_P (dC, dI) vwCl ([(h, .inr (9, [.ref aT, .ref aB, .ref aS, .ref aR, .ref aF, .ref aC, .ref aX])), (sa, .inl (cS, 32, .inr (.inr (.inr (.inr g))))), (bb, .inl (cB, 4000, .inl (fun _ => 0))), (aB, .inr (0, [.ref sa, .ref bb, .int 0]))] ++ famN 32 ad (fun _ => 0) (fun _ => 0) (fun _ => 0) (fun _ => 0) (fun _ => 0) (fun _ => 0)) H := hP
    have hD : va_D A ([(h, .inr (9, [.ref aT, .ref aB, .ref aS, .ref aR, .ref aF, .ref aC, .ref aX])), (sa, .inl (cS, 32, .inr (.inr (.inr (.inr g))))), (bb, .inl (cB, 4000, .inl (fun _ => 0))), (aB, .inr (0, [.ref sa, .ref bb, .int 0]))] ++ famN 32 ad (fun _ => 0) (fun _ => 0) (fun _ => 0) (fun _ => 0) (fun _ => 0) (fun _ => 0)) := hD
    refine g_topi (y := 1) hr_5 ?_
    obtain ⟨k, hk1, hk, hik⟩ := in_1_31 hh_5
    have hh_5 := hh_5
    subst hik
    refine lv_if_eq (tgt := 47) hx hb dX10_sample_8 (by decide) (fun c_8 => absurd c_8 (by decide)) (fun c_8 => ?_)
    refine lv_aload_n hx hb dX10_sample_11 rfl (lv_at hl 0 rfl) ?_
    refine va_get (D := (dC, dI)) (ci := 9) (v := .ref aB) (C := RX10) (T := TX10) (N := 7) hx hb hts iwX10 hown hK hP 0 rfl rfl 1 (by decide) (hts (.fieldLink RX10 19 "ModulePlayer" "bank" "LModulePlayer$Bank;") (List.mem_cons_of_mem _ kw_23)) (fun _ h9 => h9) rfl dX10_sample_12 ?_
    refine lv_iload_n hx hb dX10_sample_15 rfl (lv_at hl 1 rfl) ?_
    refine lv_iload_n hx hb dX10_sample_16 rfl (lv_at hl 2 rfl) ?_
    refine g_calliP (X := [(h, .inr (9, [.ref aT, .ref aB, .ref aS, .ref aR, .ref aF, .ref aC, .ref aX])), (sa, .inl (cS, 32, .inr (.inr (.inr (.inr g))))), (bb, .inl (cB, 4000, .inl (fun _ => 0))), (aB, .inr (0, [.ref sa, .ref bb, .int 0]))]) (wr := [(h, .inr (9, [.ref aT, .ref aB, .ref aS, .ref aR, .ref aF, .ref aC, .ref aX])), (bb, .inl (cB, 4000, .inl (fun _ => 0)))]) (va_runV (As := [.int (nI k), .int n]) (rest := []) ⟨hx, hb, hml, hown, hts⟩ (c_canResize l dC dI H.size aB sa bb 0 ad cS g (fun _ => 0) (fun _ => 0) (fun _ => 0) (fun _ => 0) (fun _ => 0) (fun _ => 0) k n (hg) (hk)) (cwV 2 hts (gG_V kw_536 kw_401 kw_402 kw_22 kw_403) rfl rfl rfl (by decide +kernel) ⟨Nat.le_of_ble_eq_true rfl, Nat.le_of_ble_eq_true rfl⟩) (g_preVP (X := [(h, .inr (9, [.ref aT, .ref aB, .ref aS, .ref aR, .ref aF, .ref aC, .ref aX])), (sa, .inl (cS, 32, .inr (.inr (.inr (.inr g))))), (bb, .inl (cB, 4000, .inl (fun _ => 0))), (aB, .inr (0, [.ref sa, .ref bb, .int 0]))]) (C := RX0) (T := TX0) (N := 3) hP hD hK hS hA hN hZ (q0 := 3) rfl rfl [3, 1] (by decide) rfl [0] rfl) rfl rfl hl.1 rfl (lv_room (Nat.le_of_ble_eq_true rfl)) dX10_sample_17 ⟨Nat.le_of_ble_eq_true rfl, Nat.le_of_ble_eq_true rfl⟩) hP hD hK hS hA [3, 1] [0, 2] rfl rfl (by decide) (by decide) (fun r_17 w ty1 H locs hw_17 hJ _ hS => ?_)
    rcases hw_17 with ⟨hu, hr_17, hh_17⟩ | ⟨hu, hr_17, hh_17⟩
    · cases hu
      obtain ⟨hP, hD⟩ := hJ _ _ rfl
      have hP : va_P (dC, dI) vwCl ([(h, .inr (9, [.ref aT, .ref aB, .ref aS, .ref aR, .ref aF, .ref aC, .ref aX])), (bb, .inl (cB, 4000, .inl (fun _ => 0))), (aB, .inr (0, [.ref sa, .ref bb, .int 0])), (sa, .inl (cS, 32, .inr (.inr (.inr (.inr g)))))] ++ famN 32 ad (fun _ => 0) (fun _ => 0) (fun _ => 0) (fun _ => 0) (fun _ => 0) (fun _ => 0)) H := hP
      have hD : va_D A ([(h, .inr (9, [.ref aT, .ref aB, .ref aS, .ref aR, .ref aF, .ref aC, .ref aX])), (bb, .inl (cB, 4000, .inl (fun _ => 0))), (aB, .inr (0, [.ref sa, .ref bb, .int 0])), (sa, .inl (cS, 32, .inr (.inr (.inr (.inr g)))))] ++ famN 32 ad (fun _ => 0) (fun _ => 0) (fun _ => 0) (fun _ => 0) (fun _ => 0) (fun _ => 0)) := hD
      refine g_topi (y := 1) hr_17 ?_
      obtain ⟨n0, hn0, hnn⟩ := lenOk_n hh_17
      subst hnn
      refine lv_if_eq (tgt := 47) hx hb dX10_sample_20 (by decide) (fun c_20 => absurd c_20 (by decide)) (fun c_20 => ?_)
      refine lv_iload_n hx hb dX10_sample_23 rfl (lv_at hl 3 rfl) ?_
      refine lv_bipush (v := (-8)) hx hb dX10_sample_24 (by decide) ?_
      refine lv_icmp_lt (tgt := 47) hx hb dX10_sample_26 (by decide) (fun c_26 => ?_) (fun c_26 => ?_)
      · refine lv_iconst (v := 0) hx hb dX10_sample_47 (by decide) ?_
        have hP9 := hP.sub (ws' := []) [] rfl
        have hD9 := hD.sub (ws' := []) [] (by decide) rfl
        have hK9 := hK.sub (tys' := []) [] rfl
        exact W.zret (v := 0) hx hb hr (by decide) (fun t ht hW => ⟨⟨0, ([], []), rfl, ⟨rfl, bF_f (fun q => i_nle.mpr c_26 q.2.2.2.1.1)⟩, by rw [ht]; exact hP9, va_K.moved hW.alike hK9, hD9⟩, hS.F ht⟩) hS.2.2 dX10_sample_48
      refine lv_iload_n hx hb dX10_sample_29 rfl (lv_at hl 3 rfl) ?_
      refine lv_bipush (v := 7) hx hb dX10_sample_30 (by decide) ?_
      refine lv_icmp_gt (tgt := 47) hx hb dX10_sample_32 (by decide) (fun c_32 => ?_) (fun c_32 => ?_)
      · refine lv_iconst (v := 0) hx hb dX10_sample_47 (by decide) ?_
        have hP9 := hP.sub (ws' := []) [] rfl
        have hD9 := hD.sub (ws' := []) [] (by decide) rfl
        have hK9 := hK.sub (tys' := []) [] rfl
        exact W.zret (v := 0) hx hb hr (by decide) (fun t ht hW => ⟨⟨0, ([], []), rfl, ⟨rfl, bF_f (fun q => i_nle.mpr c_32 q.2.2.2.1.2)⟩, by rw [ht]; exact hP9, va_K.moved hW.alike hK9, hD9⟩, hS.F ht⟩) hS.2.2 dX10_sample_48
      refine lv_iload hx hb dX10_sample_35 (lv_at hl 4 rfl) ?_
      refine lv_if_lt (tgt := 47) hx hb dX10_sample_37 (by decide) (fun c_37 => ?_) (fun c_37 => ?_)
      · refine lv_iconst (v := 0) hx hb dX10_sample_47 (by decide) ?_
        have hP9 := hP.sub (ws' := []) [] rfl
        have hD9 := hD.sub (ws' := []) [] (by decide) rfl
        have hK9 := hK.sub (tys' := []) [] rfl
        exact W.zret (v := 0) hx hb hr (by decide) (fun t ht hW => ⟨⟨0, ([], []), rfl, ⟨rfl, bF_f (fun q => i_nle.mpr c_37 q.2.2.2.2.1)⟩, by rw [ht]; exact hP9, va_K.moved hW.alike hK9, hD9⟩, hS.F ht⟩) hS.2.2 dX10_sample_48
      refine lv_iload hx hb dX10_sample_40 (lv_at hl 4 rfl) ?_
      refine lv_bipush (v := 64) hx hb dX10_sample_42 (by decide) ?_
      refine lv_icmp_le (tgt := 49) hx hb dX10_sample_44 (by decide) (fun c_44 => ?_) (fun c_44 => ?_)
      · refine lv_aload_n hx hb dX10_sample_49 rfl (lv_at hl 0 rfl) ?_
        refine va_get (D := (dC, dI)) (ci := 9) (v := .ref aB) (C := RX10) (T := TX10) (N := 7) hx hb hts iwX10 hown hK hP 0 rfl rfl 1 (by decide) (hts (.fieldLink RX10 19 "ModulePlayer" "bank" "LModulePlayer$Bank;") (List.mem_cons_of_mem _ kw_23)) (fun _ h9 => h9) rfl dX10_sample_50 ?_
        refine lv_iload_n hx hb dX10_sample_53 rfl (lv_at hl 1 rfl) ?_
        refine lv_iload_n hx hb dX10_sample_54 rfl (lv_at hl 2 rfl) ?_
        refine lv_iload_n hx hb dX10_sample_55 rfl (lv_at hl 3 rfl) ?_
        refine lv_iload hx hb dX10_sample_56 (lv_at hl 4 rfl) ?_
        refine g_callvP (X := [(h, .inr (9, [.ref aT, .ref aB, .ref aS, .ref aR, .ref aF, .ref aC, .ref aX])), (bb, .inl (cB, 4000, .inl (fun _ => 0))), (aB, .inr (0, [.ref sa, .ref bb, .int 0])), (sa, .inl (cS, 32, .inr (.inr (.inr (.inr g)))))]) (wr := [(h, .inr (9, [.ref aT, .ref aB, .ref aS, .ref aR, .ref aF, .ref aC, .ref aX]))]) (va_runV (As := [.int (nI k), .int (nI n0), .int t, .int v]) (rest := []) ⟨hx, hb, hml, hown, hts⟩ (c_reshape1 l dC dI H.size aB sa bb ad cS cB g (fun _ => 0) k n0 t v (hg) (hk1) (hk) (hn0) (hh_17)) (cwV 4 hts (gG_V kw_537 kw_385 kw_386 kw_22 kw_387) rfl rfl rfl (by decide +kernel) ⟨Nat.le_of_ble_eq_true rfl, Nat.le_of_ble_eq_true rfl⟩) (g_preVP (X := [(h, .inr (9, [.ref aT, .ref aB, .ref aS, .ref aR, .ref aF, .ref aC, .ref aX])), (bb, .inl (cB, 4000, .inl (fun _ => 0))), (aB, .inr (0, [.ref sa, .ref bb, .int 0])), (sa, .inl (cS, 32, .inr (.inr (.inr (.inr g)))))]) (C := RX0) (T := TX0) (N := 3) hP hD hK hS hA hN hZ (q0 := 2) rfl rfl [2, 3, 1] (by decide) rfl [0, 1] rfl) rfl rfl hl.1 rfl (lv_room (Nat.le_of_ble_eq_true rfl)) dX10_sample_58 ⟨Nat.le_of_ble_eq_true rfl, Nat.le_of_ble_eq_true rfl⟩) hP hD hK hS hA [2, 3, 1] [0] rfl rfl (by decide) (by decide) (fun w ty1 H locs hw_58 hJ _ hS => ?_)
        have hu := hw_58
        cases hu
        obtain ⟨hP, hD⟩ := hJ _ [] (List.append_nil _).symm
        have hP : va_P (dC, dI) vwCl [(h, .inr (9, [.ref aT, .ref aB, .ref aS, .ref aR, .ref aF, .ref aC, .ref aX]))] H := hP
        have hD : va_D A [(h, .inr (9, [.ref aT, .ref aB, .ref aS, .ref aR, .ref aF, .ref aC, .ref aX]))] := hD
        refine lv_iconst (v := 1) hx hb dX10_sample_61 (by decide) ?_
        have hP9 := hP.sub (ws' := []) [] rfl
        have hD9 := hD.sub (ws' := []) [] (by decide) rfl
        have hK9 := hK.sub (tys' := []) [] rfl
        exact W.zret (v := 1) hx hb hr (by decide) (fun t ht hW => ⟨⟨1, ([], []), rfl, ⟨rfl, bF_t ⟨hh_5, ⟨hh_17.1, hh_17.2.1⟩, hh_17.2.2.1, ⟨i_nlt.mp c_26, i_nlt.mp c_32⟩, ⟨i_nlt.mp c_37, c_44⟩⟩⟩, by rw [ht]; exact hP9, va_K.moved hW.alike hK9, hD9⟩, hS.F ht⟩) hS.2.2 dX10_sample_62
      refine lv_iconst (v := 0) hx hb dX10_sample_47 (by decide) ?_
      have hP9 := hP.sub (ws' := []) [] rfl
      have hD9 := hD.sub (ws' := []) [] (by decide) rfl
      have hK9 := hK.sub (tys' := []) [] rfl
      exact W.zret (v := 0) hx hb hr (by decide) (fun t ht hW => ⟨⟨0, ([], []), rfl, ⟨rfl, bF_f (fun q => c_44 q.2.2.2.2.2)⟩, by rw [ht]; exact hP9, va_K.moved hW.alike hK9, hD9⟩, hS.F ht⟩) hS.2.2 dX10_sample_48
    cases hu
    obtain ⟨hP, hD⟩ := hJ _ _ rfl
    have hP : va_P (dC, dI) vwCl ([(h, .inr (9, [.ref aT, .ref aB, .ref aS, .ref aR, .ref aF, .ref aC, .ref aX])), (bb, .inl (cB, 4000, .inl (fun _ => 0))), (aB, .inr (0, [.ref sa, .ref bb, .int 0])), (sa, .inl (cS, 32, .inr (.inr (.inr (.inr g)))))] ++ famN 32 ad (fun _ => 0) (fun _ => 0) (fun _ => 0) (fun _ => 0) (fun _ => 0) (fun _ => 0)) H := hP
    have hD : va_D A ([(h, .inr (9, [.ref aT, .ref aB, .ref aS, .ref aR, .ref aF, .ref aC, .ref aX])), (bb, .inl (cB, 4000, .inl (fun _ => 0))), (aB, .inr (0, [.ref sa, .ref bb, .int 0])), (sa, .inl (cS, 32, .inr (.inr (.inr (.inr g)))))] ++ famN 32 ad (fun _ => 0) (fun _ => 0) (fun _ => 0) (fun _ => 0) (fun _ => 0) (fun _ => 0)) := hD
    refine g_topi (y := 0) hr_17 ?_
    refine lv_if_eq (tgt := 47) hx hb dX10_sample_20 (by decide) (fun c_20 => ?_) (fun c_20 => absurd c_20 (by decide))
    refine lv_iconst (v := 0) hx hb dX10_sample_47 (by decide) ?_
    have hP9 := hP.sub (ws' := []) [] rfl
    have hD9 := hD.sub (ws' := []) [] (by decide) rfl
    have hK9 := hK.sub (tys' := []) [] rfl
    exact W.zret (v := 0) hx hb hr (by decide) (fun t ht hW => ⟨⟨0, ([], []), rfl, ⟨rfl, bF_f (fun q => hh_17 (lenOk_0 q.2.1 q.2.2.1))⟩, by rw [ht]; exact hP9, va_K.moved hW.alike hK9, hD9⟩, hS.F ht⟩) hS.2.2 dX10_sample_48
  cases hu
  have hP : va_P (dC, dI) vwCl ([(h, .inr (9, [.ref aT, .ref aB, .ref aS, .ref aR, .ref aF, .ref aC, .ref aX])), (sa, .inl (cS, 32, .inr (.inr (.inr (.inr g))))), (bb, .inl (cB, 4000, .inl (fun _ => 0))), (aB, .inr (0, [.ref sa, .ref bb, .int 0]))] ++ famN 32 ad (fun _ => 0) (fun _ => 0) (fun _ => 0) (fun _ => 0) (fun _ => 0) (fun _ => 0)) H := hP
  have hD : va_D A ([(h, .inr (9, [.ref aT, .ref aB, .ref aS, .ref aR, .ref aF, .ref aC, .ref aX])), (sa, .inl (cS, 32, .inr (.inr (.inr (.inr g))))), (bb, .inl (cB, 4000, .inl (fun _ => 0))), (aB, .inr (0, [.ref sa, .ref bb, .int 0]))] ++ famN 32 ad (fun _ => 0) (fun _ => 0) (fun _ => 0) (fun _ => 0) (fun _ => 0) (fun _ => 0)) := hD
  refine g_topi (y := 0) hr_5 ?_
  refine lv_if_eq (tgt := 47) hx hb dX10_sample_8 (by decide) (fun c_8 => ?_) (fun c_8 => absurd c_8 (by decide))
  refine lv_iconst (v := 0) hx hb dX10_sample_47 (by decide) ?_
  have hP9 := hP.sub (ws' := []) [] rfl
  have hD9 := hD.sub (ws' := []) [] (by decide) rfl
  have hK9 := hK.sub (tys' := []) [] rfl
  exact W.zret (v := 0) hx hb hr (by decide) (fun t ht hW => ⟨⟨0, ([], []), rfl, ⟨rfl, bF_f (fun q => hh_5 q.1)⟩, by rw [ht]; exact hP9, va_K.moved hW.alike hK9, hD9⟩, hS.F ht⟩) hS.2.2 dX10_sample_48

set_option maxHeartbeats 400000 in
set_option maxRecDepth 100000 in
/-- loopFits -/
theorem c_loopFits (l : Launch) (dC : Nat → ClassId) (dI : Nat → Nat → Nat) (sz : Nat) (n a b : Int32) : Met l yX5_loopFits (wsG (.code yX5_loopFits cX5_loopFits 5 (some .boolean))) ({ frames := 1, cells := 0, slots := 0, locals := 20 }) (va_Pc [.int n, .int a, .int b] (gP (dC, dI) [] [] sz)) (va_Qi (fun (r : Int32) (u : va_W × gT) => (u = ([], []) ∧ r = 1 ∧ lfP n a b) ∨ (u = ([], []) ∧ r = 0 ∧ ¬ lfP n a b)) (gB (dC, dI) (va_A [] sz)) (va_A [] sz)) 0 0 (va_A [] sz) := by
  refine Met.ofW (cc := cX5_loopFits) (maxL := 5) (ret := (some .boolean)) (by decide) rfl ?_
  intro p e s m args below meth c s₁ B hml hv
  obtain ⟨rfl, hsz, hP, hK, hD0, hN, hZ⟩ := hv
  have hx := B.exec
  have hb := B.bytes
  have hr := B.returns
  have hts := atoms_spec (ws := (wsG (.code yX5_loopFits cX5_loopFits 5 (some .boolean)))) B.pre
  have hown : s.vm.findClass RX5 = some m.cls := findClass_of_methodNamed B.named
  have hlocks := B.notSynchronized
  subst hsz
  have hD := hD0.self (sz := s.heap.size)
  generalize hAe : va_A [] s.heap.size = A at hD hZ ⊢
  have hA : ∀ q : Nat, s.heap.size ≤ q → A q := fun q h => by rw [← hAe]; exact Or.inr h
  have hl := lv_entry ([.int n, .int a, .int b]) (n := 5) (Nat.le_of_ble_eq_true rfl)
  rw [lg_entry_eq]
  generalize (lg_sl ([.int n, .int a, .int b]) ++ List.replicate (5 - (lg_sl ([.int n, .int a, .int b])).length) Slot.unset).toArray = ls at hl ⊢
  have hl : lv_has ls 5 [(0, .int n), (1, .int a), (2, .int b)] := hl
  refine g_start (A := A) hP (fun H locs hP hS => ?_)
  refine lv_iload_n hx hb dX5_loopFits_0 rfl (lv_at hl 1 rfl) ?_
  refine lv_if_lt (tgt := 20) hx hb dX5_loopFits_1 (by decide) (fun c_1 => ?_) (fun c_1 => ?_)
  · refine lv_iconst (v := 0) hx hb dX5_loopFits_20 (by decide) ?_
    have hP9 := hP.sub (ws' := []) [] rfl
    have hD9 := hD.sub (ws' := []) [] (by decide) rfl
    have hK9 := hK.sub (tys' := []) [] rfl
    exact W.zret (v := 0) hx hb hr (by decide) (fun t ht hW => ⟨⟨0, ([], []), rfl, (Or.inr ⟨rfl, rfl, (fun q => i_nle.mpr c_1 q.1)⟩), by rw [ht]; exact hP9, va_K.moved hW.alike hK9, hD9⟩, hS.F ht⟩) hS.2.2 dX5_loopFits_21
  refine lv_iload_n hx hb dX5_loopFits_4 rfl (lv_at hl 2 rfl) ?_
  refine lv_if_lt (tgt := 20) hx hb dX5_loopFits_5 (by decide) (fun c_5 => ?_) (fun c_5 => ?_)
  · refine lv_iconst (v := 0) hx hb dX5_loopFits_20 (by decide) ?_
    have hP9 := hP.sub (ws' := []) [] rfl
    have hD9 := hD.sub (ws' := []) [] (by decide) rfl
    have hK9 := hK.sub (tys' := []) [] rfl
    exact W.zret (v := 0) hx hb hr (by decide) (fun t ht hW => ⟨⟨0, ([], []), rfl, (Or.inr ⟨rfl, rfl, (fun q => i_nle.mpr c_5 q.2.1)⟩), by rw [ht]; exact hP9, va_K.moved hW.alike hK9, hD9⟩, hS.F ht⟩) hS.2.2 dX5_loopFits_21
  refine lv_iload_n hx hb dX5_loopFits_8 rfl (lv_at hl 1 rfl) ?_
  refine lv_iconst (v := 2) hx hb dX5_loopFits_9 (by decide) ?_
  refine lv_irem hx hb dX5_loopFits_10 (by decide) ?_
  refine lv_if_ne (tgt := 20) hx hb dX5_loopFits_11 (by decide) (fun c_11 => ?_) (fun c_11 => ?_)
  · refine lv_iconst (v := 0) hx hb dX5_loopFits_20 (by decide) ?_
    have hP9 := hP.sub (ws' := []) [] rfl
    have hD9 := hD.sub (ws' := []) [] (by decide) rfl
    have hK9 := hK.sub (tys' := []) [] rfl
    exact W.zret (v := 0) hx hb hr (by decide) (fun t ht hW => ⟨⟨0, ([], []), rfl, (Or.inr ⟨rfl, rfl, (fun q => c_11 q.2.2.1)⟩), by rw [ht]; exact hP9, va_K.moved hW.alike hK9, hD9⟩, hS.F ht⟩) hS.2.2 dX5_loopFits_21
  refine lv_iload_n hx hb dX5_loopFits_14 rfl (lv_at hl 2 rfl) ?_
  refine lv_iconst (v := 2) hx hb dX5_loopFits_15 (by decide) ?_
  refine lv_irem hx hb dX5_loopFits_16 (by decide) ?_
  refine lv_if_eq (tgt := 22) hx hb dX5_loopFits_17 (by decide) (fun c_17 => ?_) (fun c_17 => ?_)
  · refine lv_iload_n hx hb dX5_loopFits_22 rfl (lv_at hl 2 rfl) ?_
    refine g_calli (wr := []) (va_runS (As := [.int b]) (rest := []) ⟨hx, hb, hml, hown, hts⟩ (c_loops l dC dI H.size b ) (va_cwS 1 hts (gG_S kw_320 kw_321 kw_57 kw_322) rfl rfl rfl (by decide +kernel) ⟨Nat.le_of_ble_eq_true rfl, Nat.le_of_ble_eq_true rfl⟩) (g_preS hP hD hK hS hA hN hZ [] (by decide) rfl [] rfl) rfl rfl hl.1 rfl (lv_room (Nat.le_of_ble_eq_true rfl)) dX5_loopFits_23 ⟨Nat.le_of_ble_eq_true rfl, Nat.le_of_ble_eq_true rfl⟩) hP hD hK hS hA [] [] rfl rfl (by decide) (by decide) (fun r_23 w ty1 H locs hw_23 hP hD _ hS => ?_)
    rcases hw_23 with ⟨hu, hr_23, h_23⟩ | ⟨hu, hr_23, h_23⟩
    · cases hu
      have hP : va_P (dC, dI) vwCl [] H := hP
      have hD : va_D A [] := hD
      refine g_topi (y := 1) hr_23 ?_
      refine lv_if_eq (tgt := 37) hx hb dX5_loopFits_26 (by decide) (fun c_26 => absurd c_26 (by decide)) (fun c_26 => ?_)
      refine lv_iload_n hx hb dX5_loopFits_29 rfl (lv_at hl 1 rfl) ?_
      refine lv_i2l (v := a.toInt64) hx hb dX5_loopFits_30 rfl ?_
      refine lv_iload_n hx hb dX5_loopFits_31 rfl (lv_at hl 2 rfl) ?_
      refine lv_i2l (v := b.toInt64) hx hb dX5_loopFits_32 rfl ?_
      refine lv_ladd hx hb dX5_loopFits_33 ?_
      refine lv_goto (tgt := 39) hx hb dX5_loopFits_34 (by decide) ?_
      refine lv_lstore_n (lv' := [(3, .long (a.toInt64 + b.toInt64)), (0, .int n), (1, .int a), (2, .int b)]) hx hb dX5_loopFits_39 rfl hl (by decide) rfl (fun ls hl => ?_)
      refine lv_lload_n hx hb dX5_loopFits_40 rfl (lv_at hl 0 rfl) ?_
      refine lv_iload_n hx hb dX5_loopFits_41 rfl (lv_at hl 1 rfl) ?_
      refine lv_i2l (v := n.toInt64) hx hb dX5_loopFits_42 rfl ?_
      refine W.lcmp hx hb dX5_loopFits_43 ?_
      refine lv_if_gt (tgt := 51) hx hb dX5_loopFits_44 (by decide) (fun c_44 => ?_) (fun c_44 => ?_)
      · refine lv_iconst (v := 0) hx hb dX5_loopFits_51 (by decide) ?_
        have hP9 := hP.sub (ws' := []) [] rfl
        have hD9 := hD.sub (ws' := []) [] (by decide) rfl
        have hK9 := hK.sub (tys' := []) [] rfl
        exact W.zret (v := 0) hx hb hr (by decide) (fun t ht hW => ⟨⟨0, ([], []), rfl, (Or.inr ⟨rfl, rfl, (fun q => lf3 h_23 c_44 q.2.2.2.2)⟩), by rw [ht]; exact hP9, va_K.moved hW.alike hK9, hD9⟩, hS.F ht⟩) hS.2.2 dX5_loopFits_52
      refine lv_iconst (v := 1) hx hb dX5_loopFits_47 (by decide) ?_
      refine lv_goto (tgt := 52) hx hb dX5_loopFits_48 (by decide) ?_
      have hP9 := hP.sub (ws' := []) [] rfl
      have hD9 := hD.sub (ws' := []) [] (by decide) rfl
      have hK9 := hK.sub (tys' := []) [] rfl
      exact W.zret (v := 1) hx hb hr (by decide) (fun t ht hW => ⟨⟨1, ([], []), rfl, (Or.inl ⟨rfl, rfl, (⟨i_nlt.mp c_1, i_nlt.mp c_5, c_11, c_17, lf1 h_23 c_44⟩)⟩), by rw [ht]; exact hP9, va_K.moved hW.alike hK9, hD9⟩, hS.F ht⟩) hS.2.2 dX5_loopFits_52
    cases hu
    have hP : va_P (dC, dI) vwCl [] H := hP
    have hD : va_D A [] := hD
    refine g_topi (y := 0) hr_23 ?_
    refine lv_if_eq (tgt := 37) hx hb dX5_loopFits_26 (by decide) (fun c_26 => ?_) (fun c_26 => absurd c_26 (by decide))
    refine lv_iload_n hx hb dX5_loopFits_37 rfl (lv_at hl 1 rfl) ?_
    refine lv_i2l (v := a.toInt64) hx hb dX5_loopFits_38 rfl ?_
    refine lv_lstore_n (lv' := [(3, .long a.toInt64), (0, .int n), (1, .int a), (2, .int b)]) hx hb dX5_loopFits_39 rfl hl (by decide) rfl (fun ls hl => ?_)
    refine lv_lload_n hx hb dX5_loopFits_40 rfl (lv_at hl 0 rfl) ?_
    refine lv_iload_n hx hb dX5_loopFits_41 rfl (lv_at hl 1 rfl) ?_
    refine lv_i2l (v := n.toInt64) hx hb dX5_loopFits_42 rfl ?_
    refine W.lcmp hx hb dX5_loopFits_43 ?_
    refine lv_if_gt (tgt := 51) hx hb dX5_loopFits_44 (by decide) (fun c_44 => ?_) (fun c_44 => ?_)
    · refine lv_iconst (v := 0) hx hb dX5_loopFits_51 (by decide) ?_
      have hP9 := hP.sub (ws' := []) [] rfl
      have hD9 := hD.sub (ws' := []) [] (by decide) rfl
      have hK9 := hK.sub (tys' := []) [] rfl
      exact W.zret (v := 0) hx hb hr (by decide) (fun t ht hW => ⟨⟨0, ([], []), rfl, (Or.inr ⟨rfl, rfl, (fun q => lf4 h_23 c_44 q.2.2.2.2)⟩), by rw [ht]; exact hP9, va_K.moved hW.alike hK9, hD9⟩, hS.F ht⟩) hS.2.2 dX5_loopFits_52
    refine lv_iconst (v := 1) hx hb dX5_loopFits_47 (by decide) ?_
    refine lv_goto (tgt := 52) hx hb dX5_loopFits_48 (by decide) ?_
    have hP9 := hP.sub (ws' := []) [] rfl
    have hD9 := hD.sub (ws' := []) [] (by decide) rfl
    have hK9 := hK.sub (tys' := []) [] rfl
    exact W.zret (v := 1) hx hb hr (by decide) (fun t ht hW => ⟨⟨1, ([], []), rfl, (Or.inl ⟨rfl, rfl, (⟨i_nlt.mp c_1, i_nlt.mp c_5, c_11, c_17, lf2 h_23 c_44⟩)⟩), by rw [ht]; exact hP9, va_K.moved hW.alike hK9, hD9⟩, hS.F ht⟩) hS.2.2 dX5_loopFits_52
  refine lv_iconst (v := 0) hx hb dX5_loopFits_20 (by decide) ?_
  have hP9 := hP.sub (ws' := []) [] rfl
  have hD9 := hD.sub (ws' := []) [] (by decide) rfl
  have hK9 := hK.sub (tys' := []) [] rfl
  exact W.zret (v := 0) hx hb hr (by decide) (fun t ht hW => ⟨⟨0, ([], []), rfl, (Or.inr ⟨rfl, rfl, (fun q => c_17 q.2.2.2.1)⟩), by rw [ht]; exact hP9, va_K.moved hW.alike hK9, hD9⟩, hS.F ht⟩) hS.2.2 dX5_loopFits_21

set_option maxHeartbeats 400000 in
set_option maxRecDepth 100000 in
/-- loop, first -/
theorem f_loop (l : Launch) (dC : Nat → ClassId) (dI : Nat → Nat → Nat) (sz : Nat) (h aT aB aS aR aF aC aX : Nat) (sa bb : Nat) (ad : Nat → Nat) (cS cB : ClassId) (g : Nat → Option Nat) (i x y : Int32) (hg : ∀ x, x < 32 → g x = some (ad x)) : Met l yX10_loop (wsG (.code yX10_loop cX10_loop 5 (some .boolean))) ({ frames := 2, cells := 0, slots := 0, locals := 44 }) (va_Pc [.ref h, .int i, .int x, .int y] (gP (dC, dI) [(cS, .object RX5), (cB, .byte)] ([(h, .inr (9, [.ref aT, .ref aB, .ref aS, .ref aR, .ref aF, .ref aC, .ref aX])), (aB, .inr (0, [.ref sa, .ref bb, .int 0])), (sa, .inl (cS, 32, .inr (.inr (.inr (.inr g))))), (bb, .inl (cB, 4000, .inl (fun _ => 0)))] ++ famN 32 ad (fun _ => 0) (fun _ => 0) (fun _ => 0) (fun _ => 0) (fun _ => 0) (fun _ => 0)) sz)) (va_Qi (fun (r : Int32) (u : va_W × gT) => u = ([], []) ∧ r = bF (loopP i x y)) (gB (dC, dI) (va_A ([(h, .inr (9, [.ref aT, .ref aB, .ref aS, .ref aR, .ref aF, .ref aC, .ref aX])), (aB, .inr (0, [.ref sa, .ref bb, .int 0])), (sa, .inl (cS, 32, .inr (.inr (.inr (.inr g))))), (bb, .inl (cB, 4000, .inl (fun _ => 0)))] ++ famN 32 ad (fun _ => 0) (fun _ => 0) (fun _ => 0) (fun _ => 0) (fun _ => 0) (fun _ => 0)) sz)) (va_A ([(h, .inr (9, [.ref aT, .ref aB, .ref aS, .ref aR, .ref aF, .ref aC, .ref aX])), (aB, .inr (0, [.ref sa, .ref bb, .int 0])), (sa, .inl (cS, 32, .inr (.inr (.inr (.inr g))))), (bb, .inl (cB, 4000, .inl (fun _ => 0)))] ++ famN 32 ad (fun _ => 0) (fun _ => 0) (fun _ => 0) (fun _ => 0) (fun _ => 0) (fun _ => 0)) sz)) 0 0 (va_A ([(h, .inr (9, [.ref aT, .ref aB, .ref aS, .ref aR, .ref aF, .ref aC, .ref aX])), (aB, .inr (0, [.ref sa, .ref bb, .int 0])), (sa, .inl (cS, 32, .inr (.inr (.inr (.inr g))))), (bb, .inl (cB, 4000, .inl (fun _ => 0)))] ++ famN 32 ad (fun _ => 0) (fun _ => 0) (fun _ => 0) (fun _ => 0) (fun _ => 0) (fun _ => 0)) sz) := by
  refine Met.ofW (cc := cX10_loop) (maxL := 5) (ret := (some .boolean)) (by decide) rfl ?_
  intro p e s m args below meth c s₁ B hml hv
  obtain ⟨rfl, hsz, hP, hK, hD0, hN, hZ⟩ := hv
  have hx := B.exec
  have hb := B.bytes
  have hr := B.returns
  have hts := atoms_spec (ws := (wsG (.code yX10_loop cX10_loop 5 (some .boolean)))) B.pre
  have hown : s.vm.findClass RX10 = some m.cls := findClass_of_methodNamed B.named
  have hlocks := B.notSynchronized
  subst hsz
  have hD := hD0.self (sz := s.heap.size)
  generalize hAe : va_A ([(h, .inr (9, [.ref aT, .ref aB, .ref aS, .ref aR, .ref aF, .ref aC, .ref aX])), (aB, .inr (0, [.ref sa, .ref bb, .int 0])), (sa, .inl (cS, 32, .inr (.inr (.inr (.inr g))))), (bb, .inl (cB, 4000, .inl (fun _ => 0)))] ++ famN 32 ad (fun _ => 0) (fun _ => 0) (fun _ => 0) (fun _ => 0) (fun _ => 0) (fun _ => 0)) s.heap.size = A at hD hZ ⊢
  have hA : ∀ q : Nat, s.heap.size ≤ q → A q := fun q h => by rw [← hAe]; exact Or.inr h
  have hl := lv_entry ([.ref h, .int i, .int x, .int y]) (n := 5) (Nat.le_of_ble_eq_true rfl)
  rw [lg_entry_eq]
  generalize (lg_sl ([.ref h, .int i, .int x, .int y]) ++ List.replicate (5 - (lg_sl ([.ref h, .int i, .int x, .int y])).length) Slot.unset).toArray = ls at hl ⊢
  have hl : lv_has ls 5 [(0, .ref h), (1, .int i), (2, .int x), (3, .int y)] := hl
  refine g_start (A := A) hP (fun H locs hP hS => ?_)
  refine lv_aload_n hx hb dX10_loop_0 rfl (lv_at hl 0 rfl) ?_
  refine va_get (D := (dC, dI)) (ci := 9) (v := .ref aB) (C := RX10) (T := TX10) (N := 7) hx hb hts iwX10 hown hK hP 0 rfl rfl 1 (by decide) (hts (.fieldLink RX10 19 "ModulePlayer" "bank" "LModulePlayer$Bank;") (List.mem_cons_of_mem _ kw_23)) (fun _ h9 => h9) rfl dX10_loop_1 ?_
  refine lv_iload_n hx hb dX10_loop_4 rfl (lv_at hl 1 rfl) ?_
  refine g_calliQ (X := [(h, .inr (9, [.ref aT, .ref aB, .ref aS, .ref aR, .ref aF, .ref aC, .ref aX])), (aB, .inr (0, [.ref sa, .ref bb, .int 0])), (sa, .inl (cS, 32, .inr (.inr (.inr (.inr g))))), (bb, .inl (cB, 4000, .inl (fun _ => 0)))]) (wr := [(h, .inr (9, [.ref aT, .ref aB, .ref aS, .ref aR, .ref aF, .ref aC, .ref aX])), (sa, .inl (cS, 32, .inr (.inr (.inr (.inr g))))), (bb, .inl (cB, 4000, .inl (fun _ => 0)))]) (va_runV (As := [.int i]) (rest := []) ⟨hx, hb, hml, hown, hts⟩ (c_has l dC dI H.size aB sa bb 0 i ) (cwV 1 hts (gG_V kw_535 kw_397 kw_398 kw_22 kw_399) rfl rfl rfl (by decide +kernel) ⟨Nat.le_of_ble_eq_true rfl, Nat.le_of_ble_eq_true rfl⟩) (g_preV (ws := [(h, .inr (9, [.ref aT, .ref aB, .ref aS, .ref aR, .ref aF, .ref aC, .ref aX])), (aB, .inr (0, [.ref sa, .ref bb, .int 0])), (sa, .inl (cS, 32, .inr (.inr (.inr (.inr g))))), (bb, .inl (cB, 4000, .inl (fun _ => 0)))]) (C := RX0) (T := TX0) (N := 3) hP.left hD.left hK hS hA hN hZ (q0 := 1) rfl rfl [1] (by decide) rfl [] rfl) rfl rfl hl.1 rfl (lv_room (Nat.le_of_ble_eq_true rfl)) dX10_loop_5 ⟨Nat.le_of_ble_eq_true rfl, Nat.le_of_ble_eq_true rfl⟩) hP hD hK hS hA [1] [0, 2, 3] rfl rfl (by decide) (by decide) (fun r_5 w ty1 H locs hw_5 hP hD _ hS => ?_)
  rcases hw_5 with ⟨hu, hr_5, hh_5⟩ | ⟨hu, hr_5, hh_5⟩
  · cases hu
    have hP : va_P (dC, dI) vwCl ([(h, .inr (9, [.ref aT, .ref aB, .ref aS, .ref aR, .ref aF, .ref aC, .ref aX])), (sa, .inl (cS, 32, .inr (.inr (.inr (.inr g))))), (bb, .inl (cB, 4000, .inl (fun _ => 0))), (aB, .inr (0, [.ref sa, .ref bb, .int 0]))] ++ famN 32 ad (fun _ => 0) (fun _ => 0) (fun _ => 0) (fun _ => 0) (fun _ => 0) (fun _ => 0)) H := hP
    have hD : va_D A ([(h, .inr (9, [.ref aT, .ref aB, .ref aS, .ref aR, .ref aF, .ref aC, .ref aX])), (sa, .inl (cS, 32, .inr (.inr (.inr (.inr g))))), (bb, .inl (cB, 4000, .inl (fun _ => 0))), (aB, .inr (0, [.ref sa, .ref bb, .int 0]))] ++ famN 32 ad (fun _ => 0) (fun _ => 0) (fun _ => 0) (fun _ => 0) (fun _ => 0) (fun _ => 0)) := hD
    refine g_topi (y := 1) hr_5 ?_
    obtain ⟨k, hk1, hk, hik⟩ := in_1_31 hh_5
    have hh_5 := hh_5
    subst hik
    refine lv_if_ne (tgt := 13) hx hb dX10_loop_8 (by decide) (fun c_8 => ?_) (fun c_8 => absurd c_8 (by decide))
    refine lv_aload_n hx hb dX10_loop_13 rfl (lv_at hl 0 rfl) ?_
    refine va_get (D := (dC, dI)) (ci := 9) (v := .ref aB) (C := RX10) (T := TX10) (N := 7) hx hb hts iwX10 hown hK hP 0 rfl rfl 1 (by decide) (hts (.fieldLink RX10 19 "ModulePlayer" "bank" "LModulePlayer$Bank;") (List.mem_cons_of_mem _ kw_23)) (fun _ h9 => h9) rfl dX10_loop_14 ?_
    refine lv_iload_n hx hb dX10_loop_17 rfl (lv_at hl 1 rfl) ?_
    refine g_callqQ (X := [(h, .inr (9, [.ref aT, .ref aB, .ref aS, .ref aR, .ref aF, .ref aC, .ref aX])), (sa, .inl (cS, 32, .inr (.inr (.inr (.inr g))))), (bb, .inl (cB, 4000, .inl (fun _ => 0))), (aB, .inr (0, [.ref sa, .ref bb, .int 0]))]) (wr := [(h, .inr (9, [.ref aT, .ref aB, .ref aS, .ref aR, .ref aF, .ref aC, .ref aX])), (bb, .inl (cB, 4000, .inl (fun _ => 0)))]) (va_runV (As := [.int (nI k)]) (rest := []) ⟨hx, hb, hml, hown, hts⟩ (c_get l dC dI H.size aB sa bb 0 ad cS g k (hg) (hk)) (cwV 1 hts (gG_V kw_552 kw_405 kw_406 kw_22 kw_407) rfl rfl rfl (by decide +kernel) ⟨Nat.le_of_ble_eq_true rfl, Nat.le_of_ble_eq_true rfl⟩) (g_preV (ws := [(h, .inr (9, [.ref aT, .ref aB, .ref aS, .ref aR, .ref aF, .ref aC, .ref aX])), (sa, .inl (cS, 32, .inr (.inr (.inr (.inr g))))), (bb, .inl (cB, 4000, .inl (fun _ => 0))), (aB, .inr (0, [.ref sa, .ref bb, .int 0]))]) (C := RX0) (T := TX0) (N := 3) hP.left hD.left hK hS hA hN hZ (q0 := 3) rfl rfl [3, 1] (by decide) rfl [0] rfl) rfl rfl hl.1 rfl (lv_room (Nat.le_of_ble_eq_true rfl)) dX10_loop_18 ⟨Nat.le_of_ble_eq_true rfl, Nat.le_of_ble_eq_true rfl⟩) hP hD hK hS hA [3, 1] [0, 2] rfl rfl (by decide) (by decide) (fun r_18 w ty1 H locs hw_18 hP hD _ hS => ?_)
    rcases hw_18 with ⟨hu, hr_18⟩
    cases hu
    have hP : va_P (dC, dI) vwCl ([(h, .inr (9, [.ref aT, .ref aB, .ref aS, .ref aR, .ref aF, .ref aC, .ref aX])), (bb, .inl (cB, 4000, .inl (fun _ => 0))), (aB, .inr (0, [.ref sa, .ref bb, .int 0])), (sa, .inl (cS, 32, .inr (.inr (.inr (.inr g)))))] ++ famN 32 ad (fun _ => 0) (fun _ => 0) (fun _ => 0) (fun _ => 0) (fun _ => 0) (fun _ => 0)) H := hP
    have hD : va_D A ([(h, .inr (9, [.ref aT, .ref aB, .ref aS, .ref aR, .ref aF, .ref aC, .ref aX])), (bb, .inl (cB, 4000, .inl (fun _ => 0))), (aB, .inr (0, [.ref sa, .ref bb, .int 0])), (sa, .inl (cS, 32, .inr (.inr (.inr (.inr g)))))] ++ famN 32 ad (fun _ => 0) (fun _ => 0) (fun _ => 0) (fun _ => 0) (fun _ => 0) (fun _ => 0)) := hD
    subst hr_18
    refine W.eq (g2 := F0 m 21 ls [.ref (ad k)]) rfl ?_
    refine lv_astore (lv' := [(4, .ref (ad k)), (0, .ref h), (1, .int (nI k)), (2, .int x), (3, .int y)]) hx hb dX10_loop_21 hl (by decide) rfl (fun ls hl => ?_)
    refine lv_aload hx hb dX10_loop_23 (lv_at hl 0 rfl) ?_
    refine va_get (D := (dC, dI)) (ci := 5) (v := .int ((fun _ => 0) k)) (C := RX5) (T := TX5) (N := 6) hx hb hts iwX5 hown hK hP _ (fam_at (k := k) (hk)) rfl 0 (by decide) (hts (.fieldLink RX10 141 "ModulePlayer$Sample" "length" "I") (List.mem_cons_of_mem _ kw_549)) (fun _ h9 => h9) rfl dX10_loop_25 ?_
    refine g_topi (y := 0) rfl ?_
    refine lv_iload_n hx hb dX10_loop_28 rfl (lv_at hl 3 rfl) ?_
    refine lv_iload_n hx hb dX10_loop_29 rfl (lv_at hl 4 rfl) ?_
    refine g_calliQ (X := [(h, .inr (9, [.ref aT, .ref aB, .ref aS, .ref aR, .ref aF, .ref aC, .ref aX])), (bb, .inl (cB, 4000, .inl (fun _ => 0))), (aB, .inr (0, [.ref sa, .ref bb, .int 0])), (sa, .inl (cS, 32, .inr (.inr (.inr (.inr g)))))]) (wr := [(h, .inr (9, [.ref aT, .ref aB, .ref aS, .ref aR, .ref aF, .ref aC, .ref aX])), (bb, .inl (cB, 4000, .inl (fun _ => 0))), (aB, .inr (0, [.ref sa, .ref bb, .int 0])), (sa, .inl (cS, 32, .inr (.inr (.inr (.inr g)))))]) (va_runS (As := [.int 0, .int x, .int y]) (rest := []) ⟨hx, hb, hml, hown, hts⟩ (c_loopFits l dC dI H.size 0 x y ) (va_cwS 3 hts (gG_S kw_553 kw_318 kw_57 kw_319) rfl rfl rfl (by decide +kernel) ⟨Nat.le_of_ble_eq_true rfl, Nat.le_of_ble_eq_true rfl⟩) (g_preS (ws := [(h, .inr (9, [.ref aT, .ref aB, .ref aS, .ref aR, .ref aF, .ref aC, .ref aX])), (bb, .inl (cB, 4000, .inl (fun _ => 0))), (aB, .inr (0, [.ref sa, .ref bb, .int 0])), (sa, .inl (cS, 32, .inr (.inr (.inr (.inr g)))))]) hP.left hD.left hK hS hA hN hZ [] (by decide) rfl [] rfl) rfl rfl hl.1 rfl (lv_room (Nat.le_of_ble_eq_true rfl)) dX10_loop_30 ⟨Nat.le_of_ble_eq_true rfl, Nat.le_of_ble_eq_true rfl⟩) hP hD hK hS hA [] [0, 1, 2, 3] rfl rfl (by decide) (by decide) (fun r_30 w ty1 H locs hw_30 hP hD _ hS => ?_)
    rcases hw_30 with ⟨hu, hr_30, hh_30⟩ | ⟨hu, hr_30, hh_30⟩
    · cases hu
      have hP : va_P (dC, dI) vwCl ([(h, .inr (9, [.ref aT, .ref aB, .ref aS, .ref aR, .ref aF, .ref aC, .ref aX])), (bb, .inl (cB, 4000, .inl (fun _ => 0))), (aB, .inr (0, [.ref sa, .ref bb, .int 0])), (sa, .inl (cS, 32, .inr (.inr (.inr (.inr g)))))] ++ famN 32 ad (fun _ => 0) (fun _ => 0) (fun _ => 0) (fun _ => 0) (fun _ => 0) (fun _ => 0)) H := hP
      have hD : va_D A ([(h, .inr (9, [.ref aT, .ref aB, .ref aS, .ref aR, .ref aF, .ref aC, .ref aX])), (bb, .inl (cB, 4000, .inl (fun _ => 0))), (aB, .inr (0, [.ref sa, .ref bb, .int 0])), (sa, .inl (cS, 32, .inr (.inr (.inr (.inr g)))))] ++ famN 32 ad (fun _ => 0) (fun _ => 0) (fun _ => 0) (fun _ => 0) (fun _ => 0) (fun _ => 0)) := hD
      refine g_topi (y := 1) hr_30 ?_
      refine lv_if_ne (tgt := 38) hx hb dX10_loop_33 (by decide) (fun c_33 => ?_) (fun c_33 => absurd c_33 (by decide))
      refine lv_aload hx hb dX10_loop_38 (lv_at hl 0 rfl) ?_
      refine lv_iload_n hx hb dX10_loop_40 rfl (lv_at hl 3 rfl) ?_
      refine va_put (D := (dC, dI)) (ci := 5) (v := .int x) (ty := tyX5 3) (C := RX5) (T := TX5) (N := 6) hx hb hts iwX5 tyX5 tyX5_ok nmX5 hown hK hP hD hS _ (fam_at (k := k) (hk)) rfl 3 (by decide) (hts (.fieldLink RX10 148 "ModulePlayer$Sample" "start" "I") (List.mem_cons_of_mem _ kw_550)) (fun _ h9 => h9) rfl (by decide +kernel) rfl rfl (Nat.le_of_ble_eq_true rfl) dX10_loop_41 (fun H locs hP hD hS => ?_)
      have hP : va_P (dC, dI) vwCl ([(h, .inr (9, [.ref aT, .ref aB, .ref aS, .ref aR, .ref aF, .ref aC, .ref aX])), (bb, .inl (cB, 4000, .inl (fun _ => 0))), (aB, .inr (0, [.ref sa, .ref bb, .int 0])), (sa, .inl (cS, 32, .inr (.inr (.inr (.inr g)))))] ++ famN 32 ad (fun _ => 0) (fun _ => 0) (fun _ => 0) (upd (fun _ => 0) k x) (fun _ => 0) (fun _ => 0)) H := by have h9 : va_P (dC, dI) vwCl ((([(h, .inr (9, [.ref aT, .ref aB, .ref aS, .ref aR, .ref aF, .ref aC, .ref aX])), (bb, .inl (cB, 4000, .inl (fun _ => 0))), (aB, .inr (0, [.ref sa, .ref bb, .int 0])), (sa, .inl (cS, 32, .inr (.inr (.inr (.inr g)))))] ++ famN 32 ad (fun _ => 0) (fun _ => 0) (fun _ => 0) (fun _ => 0) (fun _ => 0) (fun _ => 0)) : va_W).set (([(h, .inr (9, [.ref aT, .ref aB, .ref aS, .ref aR, .ref aF, .ref aC, .ref aX])), (bb, .inl (cB, 4000, .inl (fun _ => 0))), (aB, .inr (0, [.ref sa, .ref bb, .int 0])), (sa, .inl (cS, 32, .inr (.inr (.inr (.inr g)))))] : va_W).length + k) (ad k, .inr (5, [.int ((fun _ => 0) k), .int ((fun _ => 0) k), .int ((fun _ => 0) k), .int (x), .int ((fun _ => 0) k), .int ((fun _ => 0) k)]))) H := hP; rw [fam_up] at h9; simp only [upd_id] at h9 ⊢; exact h9
      have hD : va_D A ([(h, .inr (9, [.ref aT, .ref aB, .ref aS, .ref aR, .ref aF, .ref aC, .ref aX])), (bb, .inl (cB, 4000, .inl (fun _ => 0))), (aB, .inr (0, [.ref sa, .ref bb, .int 0])), (sa, .inl (cS, 32, .inr (.inr (.inr (.inr g)))))] ++ famN 32 ad (fun _ => 0) (fun _ => 0) (fun _ => 0) (upd (fun _ => 0) k x) (fun _ => 0) (fun _ => 0)) := by have h9 : va_D A ((([(h, .inr (9, [.ref aT, .ref aB, .ref aS, .ref aR, .ref aF, .ref aC, .ref aX])), (bb, .inl (cB, 4000, .inl (fun _ => 0))), (aB, .inr (0, [.ref sa, .ref bb, .int 0])), (sa, .inl (cS, 32, .inr (.inr (.inr (.inr g)))))] ++ famN 32 ad (fun _ => 0) (fun _ => 0) (fun _ => 0) (fun _ => 0) (fun _ => 0) (fun _ => 0)) : va_W).set (([(h, .inr (9, [.ref aT, .ref aB, .ref aS, .ref aR, .ref aF, .ref aC, .ref aX])), (bb, .inl (cB, 4000, .inl (fun _ => 0))), (aB, .inr (0, [.ref sa, .ref bb, .int 0])), (sa, .inl (cS, 32, .inr (.inr (.inr (.inr g)))))] : va_W).length + k) (ad k, .inr (5, [.int ((fun _ => 0) k), .int ((fun _ => 0) k), .int ((fun _ => 0) k), .int (x), .int ((fun _ => 0) k), .int ((fun _ => 0) k)]))) := hD; rw [fam_up] at h9; simp only [upd_id] at h9 ⊢; exact h9
      refine lv_aload hx hb dX10_loop_44 (lv_at hl 0 rfl) ?_
      refine lv_iload_n hx hb dX10_loop_46 rfl (lv_at hl 4 rfl) ?_
      refine va_put (D := (dC, dI)) (ci := 5) (v := .int y) (ty := tyX5 4) (C := RX5) (T := TX5) (N := 6) hx hb hts iwX5 tyX5 tyX5_ok nmX5 hown hK hP hD hS _ (fam_at (k := k) (hk)) rfl 4 (by decide) (hts (.fieldLink RX10 151 "ModulePlayer$Sample" "loop" "I") (List.mem_cons_of_mem _ kw_551)) (fun _ h9 => h9) rfl (by decide +kernel) rfl rfl (Nat.le_of_ble_eq_true rfl) dX10_loop_47 (fun H locs hP hD hS => ?_)
      have hP : va_P (dC, dI) vwCl ([(h, .inr (9, [.ref aT, .ref aB, .ref aS, .ref aR, .ref aF, .ref aC, .ref aX])), (bb, .inl (cB, 4000, .inl (fun _ => 0))), (aB, .inr (0, [.ref sa, .ref bb, .int 0])), (sa, .inl (cS, 32, .inr (.inr (.inr (.inr g)))))] ++ famN 32 ad (fun _ => 0) (fun _ => 0) (fun _ => 0) (upd (fun _ => 0) k x) (upd (fun _ => 0) k y) (fun _ => 0)) H := by have h9 : va_P (dC, dI) vwCl ((([(h, .inr (9, [.ref aT, .ref aB, .ref aS, .ref aR, .ref aF, .ref aC, .ref aX])), (bb, .inl (cB, 4000, .inl (fun _ => 0))), (aB, .inr (0, [.ref sa, .ref bb, .int 0])), (sa, .inl (cS, 32, .inr (.inr (.inr (.inr g)))))] ++ famN 32 ad (fun _ => 0) (fun _ => 0) (fun _ => 0) (upd (fun _ => 0) k x) (fun _ => 0) (fun _ => 0)) : va_W).set (([(h, .inr (9, [.ref aT, .ref aB, .ref aS, .ref aR, .ref aF, .ref aC, .ref aX])), (bb, .inl (cB, 4000, .inl (fun _ => 0))), (aB, .inr (0, [.ref sa, .ref bb, .int 0])), (sa, .inl (cS, 32, .inr (.inr (.inr (.inr g)))))] : va_W).length + k) (ad k, .inr (5, [.int ((fun _ => 0) k), .int ((fun _ => 0) k), .int ((fun _ => 0) k), .int ((upd (fun _ => 0) k x) k), .int (y), .int ((fun _ => 0) k)]))) H := hP; rw [fam_up] at h9; simp only [upd_id] at h9 ⊢; exact h9
      have hD : va_D A ([(h, .inr (9, [.ref aT, .ref aB, .ref aS, .ref aR, .ref aF, .ref aC, .ref aX])), (bb, .inl (cB, 4000, .inl (fun _ => 0))), (aB, .inr (0, [.ref sa, .ref bb, .int 0])), (sa, .inl (cS, 32, .inr (.inr (.inr (.inr g)))))] ++ famN 32 ad (fun _ => 0) (fun _ => 0) (fun _ => 0) (upd (fun _ => 0) k x) (upd (fun _ => 0) k y) (fun _ => 0)) := by have h9 : va_D A ((([(h, .inr (9, [.ref aT, .ref aB, .ref aS, .ref aR, .ref aF, .ref aC, .ref aX])), (bb, .inl (cB, 4000, .inl (fun _ => 0))), (aB, .inr (0, [.ref sa, .ref bb, .int 0])), (sa, .inl (cS, 32, .inr (.inr (.inr (.inr g)))))] ++ famN 32 ad (fun _ => 0) (fun _ => 0) (fun _ => 0) (upd (fun _ => 0) k x) (fun _ => 0) (fun _ => 0)) : va_W).set (([(h, .inr (9, [.ref aT, .ref aB, .ref aS, .ref aR, .ref aF, .ref aC, .ref aX])), (bb, .inl (cB, 4000, .inl (fun _ => 0))), (aB, .inr (0, [.ref sa, .ref bb, .int 0])), (sa, .inl (cS, 32, .inr (.inr (.inr (.inr g)))))] : va_W).length + k) (ad k, .inr (5, [.int ((fun _ => 0) k), .int ((fun _ => 0) k), .int ((fun _ => 0) k), .int ((upd (fun _ => 0) k x) k), .int (y), .int ((fun _ => 0) k)]))) := hD; rw [fam_up] at h9; simp only [upd_id] at h9 ⊢; exact h9
      refine lv_iconst (v := 1) hx hb dX10_loop_50 (by decide) ?_
      have hP9 := hP.sub (ws' := []) [] rfl
      have hD9 := hD.sub (ws' := []) [] (by decide) rfl
      have hK9 := hK.sub (tys' := []) [] rfl
      exact W.zret (v := 1) hx hb hr (by decide) (fun t ht hW => ⟨⟨1, ([], []), rfl, ⟨rfl, bF_t ⟨hh_5, lf_0 hh_30⟩⟩, by rw [ht]; exact hP9, va_K.moved hW.alike hK9, hD9⟩, hS.F ht⟩) hS.2.2 dX10_loop_51
    cases hu
    have hP : va_P (dC, dI) vwCl ([(h, .inr (9, [.ref aT, .ref aB, .ref aS, .ref aR, .ref aF, .ref aC, .ref aX])), (bb, .inl (cB, 4000, .inl (fun _ => 0))), (aB, .inr (0, [.ref sa, .ref bb, .int 0])), (sa, .inl (cS, 32, .inr (.inr (.inr (.inr g)))))] ++ famN 32 ad (fun _ => 0) (fun _ => 0) (fun _ => 0) (fun _ => 0) (fun _ => 0) (fun _ => 0)) H := hP
    have hD : va_D A ([(h, .inr (9, [.ref aT, .ref aB, .ref aS, .ref aR, .ref aF, .ref aC, .ref aX])), (bb, .inl (cB, 4000, .inl (fun _ => 0))), (aB, .inr (0, [.ref sa, .ref bb, .int 0])), (sa, .inl (cS, 32, .inr (.inr (.inr (.inr g)))))] ++ famN 32 ad (fun _ => 0) (fun _ => 0) (fun _ => 0) (fun _ => 0) (fun _ => 0) (fun _ => 0)) := hD
    refine g_topi (y := 0) hr_30 ?_
    refine lv_if_ne (tgt := 38) hx hb dX10_loop_33 (by decide) (fun c_33 => absurd c_33 (by decide)) (fun c_33 => ?_)
    refine lv_iconst (v := 0) hx hb dX10_loop_36 (by decide) ?_
    have hP9 := hP.sub (ws' := []) [] rfl
    have hD9 := hD.sub (ws' := []) [] (by decide) rfl
    have hK9 := hK.sub (tys' := []) [] rfl
    exact W.zret (v := 0) hx hb hr (by decide) (fun t ht hW => ⟨⟨0, ([], []), rfl, ⟨rfl, bF_f (fun q => hh_30 (lf_z q.2.1 q.2.2))⟩, by rw [ht]; exact hP9, va_K.moved hW.alike hK9, hD9⟩, hS.F ht⟩) hS.2.2 dX10_loop_37
  cases hu
  have hP : va_P (dC, dI) vwCl ([(h, .inr (9, [.ref aT, .ref aB, .ref aS, .ref aR, .ref aF, .ref aC, .ref aX])), (sa, .inl (cS, 32, .inr (.inr (.inr (.inr g))))), (bb, .inl (cB, 4000, .inl (fun _ => 0))), (aB, .inr (0, [.ref sa, .ref bb, .int 0]))] ++ famN 32 ad (fun _ => 0) (fun _ => 0) (fun _ => 0) (fun _ => 0) (fun _ => 0) (fun _ => 0)) H := hP
  have hD : va_D A ([(h, .inr (9, [.ref aT, .ref aB, .ref aS, .ref aR, .ref aF, .ref aC, .ref aX])), (sa, .inl (cS, 32, .inr (.inr (.inr (.inr g))))), (bb, .inl (cB, 4000, .inl (fun _ => 0))), (aB, .inr (0, [.ref sa, .ref bb, .int 0]))] ++ famN 32 ad (fun _ => 0) (fun _ => 0) (fun _ => 0) (fun _ => 0) (fun _ => 0) (fun _ => 0)) := hD
  refine g_topi (y := 0) hr_5 ?_
  refine lv_if_ne (tgt := 13) hx hb dX10_loop_8 (by decide) (fun c_8 => absurd c_8 (by decide)) (fun c_8 => ?_)
  refine lv_iconst (v := 0) hx hb dX10_loop_11 (by decide) ?_
  have hP9 := hP.sub (ws' := []) [] rfl
  have hD9 := hD.sub (ws' := []) [] (by decide) rfl
  have hK9 := hK.sub (tys' := []) [] rfl
  exact W.zret (v := 0) hx hb hr (by decide) (fun t ht hW => ⟨⟨0, ([], []), rfl, ⟨rfl, bF_f (fun q => hh_5 q.1)⟩, by rw [ht]; exact hP9, va_K.moved hW.alike hK9, hD9⟩, hS.F ht⟩) hS.2.2 dX10_loop_12

set_option maxHeartbeats 400000 in
set_option maxRecDepth 100000 in
/-- wave, first -/
theorem f_wave (l : Launch) (dC : Nat → ClassId) (dI : Nat → Nat → Nat) (sz : Nat) (h aT aB aS aR aF aC aX : Nat) (sa bb : Nat) (ad : Nat → Nat) (cS cB : ClassId) (g : Nat → Option Nat) (i x y : Int32) (hg : ∀ x, x < 32 → g x = some (ad x)) : Met l yX10_wave (wsG (.code yX10_wave cX10_wave 4 (some .boolean))) ({ frames := 2, cells := 0, slots := 0, locals := 42 }) (va_Pc [.ref h, .int i, .int x, .int y] (gP (dC, dI) [(cS, .object RX5), (cB, .byte)] ([(h, .inr (9, [.ref aT, .ref aB, .ref aS, .ref aR, .ref aF, .ref aC, .ref aX])), (aB, .inr (0, [.ref sa, .ref bb, .int 0])), (sa, .inl (cS, 32, .inr (.inr (.inr (.inr g))))), (bb, .inl (cB, 4000, .inl (fun _ => 0)))] ++ famN 32 ad (fun _ => 0) (fun _ => 0) (fun _ => 0) (fun _ => 0) (fun _ => 0) (fun _ => 0)) sz)) (va_Qi (fun (r : Int32) (u : va_W × gT) => u = ([], []) ∧ r = 0) (gB (dC, dI) (va_A ([(h, .inr (9, [.ref aT, .ref aB, .ref aS, .ref aR, .ref aF, .ref aC, .ref aX])), (aB, .inr (0, [.ref sa, .ref bb, .int 0])), (sa, .inl (cS, 32, .inr (.inr (.inr (.inr g))))), (bb, .inl (cB, 4000, .inl (fun _ => 0)))] ++ famN 32 ad (fun _ => 0) (fun _ => 0) (fun _ => 0) (fun _ => 0) (fun _ => 0) (fun _ => 0)) sz)) (va_A ([(h, .inr (9, [.ref aT, .ref aB, .ref aS, .ref aR, .ref aF, .ref aC, .ref aX])), (aB, .inr (0, [.ref sa, .ref bb, .int 0])), (sa, .inl (cS, 32, .inr (.inr (.inr (.inr g))))), (bb, .inl (cB, 4000, .inl (fun _ => 0)))] ++ famN 32 ad (fun _ => 0) (fun _ => 0) (fun _ => 0) (fun _ => 0) (fun _ => 0) (fun _ => 0)) sz)) 0 0 (va_A ([(h, .inr (9, [.ref aT, .ref aB, .ref aS, .ref aR, .ref aF, .ref aC, .ref aX])), (aB, .inr (0, [.ref sa, .ref bb, .int 0])), (sa, .inl (cS, 32, .inr (.inr (.inr (.inr g))))), (bb, .inl (cB, 4000, .inl (fun _ => 0)))] ++ famN 32 ad (fun _ => 0) (fun _ => 0) (fun _ => 0) (fun _ => 0) (fun _ => 0) (fun _ => 0)) sz) := by
  refine Met.ofW (cc := cX10_wave) (maxL := 4) (ret := (some .boolean)) (by decide) rfl ?_
  intro p e s m args below meth c s₁ B hml hv
  obtain ⟨rfl, hsz, hP, hK, hD0, hN, hZ⟩ := hv
  have hx := B.exec
  have hb := B.bytes
  have hr := B.returns
  have hts := atoms_spec (ws := (wsG (.code yX10_wave cX10_wave 4 (some .boolean)))) B.pre
  have hown : s.vm.findClass RX10 = some m.cls := findClass_of_methodNamed B.named
  have hlocks := B.notSynchronized
  subst hsz
  have hD := hD0.self (sz := s.heap.size)
  generalize hAe : va_A ([(h, .inr (9, [.ref aT, .ref aB, .ref aS, .ref aR, .ref aF, .ref aC, .ref aX])), (aB, .inr (0, [.ref sa, .ref bb, .int 0])), (sa, .inl (cS, 32, .inr (.inr (.inr (.inr g))))), (bb, .inl (cB, 4000, .inl (fun _ => 0)))] ++ famN 32 ad (fun _ => 0) (fun _ => 0) (fun _ => 0) (fun _ => 0) (fun _ => 0) (fun _ => 0)) s.heap.size = A at hD hZ ⊢
  have hA : ∀ q : Nat, s.heap.size ≤ q → A q := fun q h => by rw [← hAe]; exact Or.inr h
  have hl := lv_entry ([.ref h, .int i, .int x, .int y]) (n := 4) (Nat.le_of_ble_eq_true rfl)
  rw [lg_entry_eq]
  generalize (lg_sl ([.ref h, .int i, .int x, .int y]) ++ List.replicate (4 - (lg_sl ([.ref h, .int i, .int x, .int y])).length) Slot.unset).toArray = ls at hl ⊢
  have hl : lv_has ls 4 [(0, .ref h), (1, .int i), (2, .int x), (3, .int y)] := hl
  refine g_start (A := A) hP (fun H locs hP hS => ?_)
  refine lv_aload_n hx hb dX10_wave_0 rfl (lv_at hl 0 rfl) ?_
  refine va_get (D := (dC, dI)) (ci := 9) (v := .ref aB) (C := RX10) (T := TX10) (N := 7) hx hb hts iwX10 hown hK hP 0 rfl rfl 1 (by decide) (hts (.fieldLink RX10 19 "ModulePlayer" "bank" "LModulePlayer$Bank;") (List.mem_cons_of_mem _ kw_23)) (fun _ h9 => h9) rfl dX10_wave_1 ?_
  refine lv_iload_n hx hb dX10_wave_4 rfl (lv_at hl 1 rfl) ?_
  refine g_calliQ (X := [(h, .inr (9, [.ref aT, .ref aB, .ref aS, .ref aR, .ref aF, .ref aC, .ref aX])), (aB, .inr (0, [.ref sa, .ref bb, .int 0])), (sa, .inl (cS, 32, .inr (.inr (.inr (.inr g))))), (bb, .inl (cB, 4000, .inl (fun _ => 0)))]) (wr := [(h, .inr (9, [.ref aT, .ref aB, .ref aS, .ref aR, .ref aF, .ref aC, .ref aX])), (sa, .inl (cS, 32, .inr (.inr (.inr (.inr g))))), (bb, .inl (cB, 4000, .inl (fun _ => 0)))]) (va_runV (As := [.int i]) (rest := []) ⟨hx, hb, hml, hown, hts⟩ (c_has l dC dI H.size aB sa bb 0 i ) (cwV 1 hts (gG_V kw_535 kw_397 kw_398 kw_22 kw_399) rfl rfl rfl (by decide +kernel) ⟨Nat.le_of_ble_eq_true rfl, Nat.le_of_ble_eq_true rfl⟩) (g_preV (ws := [(h, .inr (9, [.ref aT, .ref aB, .ref aS, .ref aR, .ref aF, .ref aC, .ref aX])), (aB, .inr (0, [.ref sa, .ref bb, .int 0])), (sa, .inl (cS, 32, .inr (.inr (.inr (.inr g))))), (bb, .inl (cB, 4000, .inl (fun _ => 0)))]) (C := RX0) (T := TX0) (N := 3) hP.left hD.left hK hS hA hN hZ (q0 := 1) rfl rfl [1] (by decide) rfl [] rfl) rfl rfl hl.1 rfl (lv_room (Nat.le_of_ble_eq_true rfl)) dX10_wave_5 ⟨Nat.le_of_ble_eq_true rfl, Nat.le_of_ble_eq_true rfl⟩) hP hD hK hS hA [1] [0, 2, 3] rfl rfl (by decide) (by decide) (fun r_5 w ty1 H locs hw_5 hP hD _ hS => ?_)
  rcases hw_5 with ⟨hu, hr_5, hh_5⟩ | ⟨hu, hr_5, hh_5⟩
  · cases hu
    have hP : va_P (dC, dI) vwCl ([(h, .inr (9, [.ref aT, .ref aB, .ref aS, .ref aR, .ref aF, .ref aC, .ref aX])), (sa, .inl (cS, 32, .inr (.inr (.inr (.inr g))))), (bb, .inl (cB, 4000, .inl (fun _ => 0))), (aB, .inr (0, [.ref sa, .ref bb, .int 0]))] ++ famN 32 ad (fun _ => 0) (fun _ => 0) (fun _ => 0) (fun _ => 0) (fun _ => 0) (fun _ => 0)) H := hP
    have hD : va_D A ([(h, .inr (9, [.ref aT, .ref aB, .ref aS, .ref aR, .ref aF, .ref aC, .ref aX])), (sa, .inl (cS, 32, .inr (.inr (.inr (.inr g))))), (bb, .inl (cB, 4000, .inl (fun _ => 0))), (aB, .inr (0, [.ref sa, .ref bb, .int 0]))] ++ famN 32 ad (fun _ => 0) (fun _ => 0) (fun _ => 0) (fun _ => 0) (fun _ => 0) (fun _ => 0)) := hD
    refine g_topi (y := 1) hr_5 ?_
    obtain ⟨k, hk1, hk, hik⟩ := in_1_31 hh_5
    have hh_5 := hh_5
    subst hik
    refine lv_if_eq (tgt := 41) hx hb dX10_wave_8 (by decide) (fun c_8 => absurd c_8 (by decide)) (fun c_8 => ?_)
    refine lv_iload_n hx hb dX10_wave_11 rfl (lv_at hl 2 rfl) ?_
    refine lv_aload_n hx hb dX10_wave_12 rfl (lv_at hl 0 rfl) ?_
    refine va_get (D := (dC, dI)) (ci := 9) (v := .ref aB) (C := RX10) (T := TX10) (N := 7) hx hb hts iwX10 hown hK hP 0 rfl rfl 1 (by decide) (hts (.fieldLink RX10 19 "ModulePlayer" "bank" "LModulePlayer$Bank;") (List.mem_cons_of_mem _ kw_23)) (fun _ h9 => h9) rfl dX10_wave_13 ?_
    refine lv_iload_n hx hb dX10_wave_16 rfl (lv_at hl 1 rfl) ?_
    refine g_callqQ (X := [(h, .inr (9, [.ref aT, .ref aB, .ref aS, .ref aR, .ref aF, .ref aC, .ref aX])), (sa, .inl (cS, 32, .inr (.inr (.inr (.inr g))))), (bb, .inl (cB, 4000, .inl (fun _ => 0))), (aB, .inr (0, [.ref sa, .ref bb, .int 0]))]) (wr := [(h, .inr (9, [.ref aT, .ref aB, .ref aS, .ref aR, .ref aF, .ref aC, .ref aX])), (bb, .inl (cB, 4000, .inl (fun _ => 0)))]) (va_runV (As := [.int (nI k)]) (rest := [.int x]) ⟨hx, hb, hml, hown, hts⟩ (c_get l dC dI H.size aB sa bb 0 ad cS g k (hg) (hk)) (cwV 1 hts (gG_V kw_552 kw_405 kw_406 kw_22 kw_407) rfl rfl rfl (by decide +kernel) ⟨Nat.le_of_ble_eq_true rfl, Nat.le_of_ble_eq_true rfl⟩) (g_preV (ws := [(h, .inr (9, [.ref aT, .ref aB, .ref aS, .ref aR, .ref aF, .ref aC, .ref aX])), (sa, .inl (cS, 32, .inr (.inr (.inr (.inr g))))), (bb, .inl (cB, 4000, .inl (fun _ => 0))), (aB, .inr (0, [.ref sa, .ref bb, .int 0]))]) (C := RX0) (T := TX0) (N := 3) hP.left hD.left hK hS hA hN hZ (q0 := 3) rfl rfl [3, 1] (by decide) rfl [0] rfl) rfl rfl hl.1 rfl (lv_room (Nat.le_of_ble_eq_true rfl)) dX10_wave_17 ⟨Nat.le_of_ble_eq_true rfl, Nat.le_of_ble_eq_true rfl⟩) hP hD hK hS hA [3, 1] [0, 2] rfl rfl (by decide) (by decide) (fun r_17 w ty1 H locs hw_17 hP hD _ hS => ?_)
    rcases hw_17 with ⟨hu, hr_17⟩
    cases hu
    have hP : va_P (dC, dI) vwCl ([(h, .inr (9, [.ref aT, .ref aB, .ref aS, .ref aR, .ref aF, .ref aC, .ref aX])), (bb, .inl (cB, 4000, .inl (fun _ => 0))), (aB, .inr (0, [.ref sa, .ref bb, .int 0])), (sa, .inl (cS, 32, .inr (.inr (.inr (.inr g)))))] ++ famN 32 ad (fun _ => 0) (fun _ => 0) (fun _ => 0) (fun _ => 0) (fun _ => 0) (fun _ => 0)) H := hP
    have hD : va_D A ([(h, .inr (9, [.ref aT, .ref aB, .ref aS, .ref aR, .ref aF, .ref aC, .ref aX])), (bb, .inl (cB, 4000, .inl (fun _ => 0))), (aB, .inr (0, [.ref sa, .ref bb, .int 0])), (sa, .inl (cS, 32, .inr (.inr (.inr (.inr g)))))] ++ famN 32 ad (fun _ => 0) (fun _ => 0) (fun _ => 0) (fun _ => 0) (fun _ => 0) (fun _ => 0)) := hD
    subst hr_17
    refine W.eq (g2 := F0 m 20 ls [.ref (ad k), .int x]) rfl ?_
    refine va_get (D := (dC, dI)) (ci := 5) (v := .int ((fun _ => 0) k)) (C := RX5) (T := TX5) (N := 6) hx hb hts iwX5 hown hK hP _ (fam_at (k := k) (hk)) rfl 0 (by decide) (hts (.fieldLink RX10 141 "ModulePlayer$Sample" "length" "I") (List.mem_cons_of_mem _ kw_549)) (fun _ h9 => h9) rfl dX10_wave_20 ?_
    refine g_topi (y := 0) rfl ?_
    refine g_calliQ (X := [(h, .inr (9, [.ref aT, .ref aB, .ref aS, .ref aR, .ref aF, .ref aC, .ref aX])), (bb, .inl (cB, 4000, .inl (fun _ => 0))), (aB, .inr (0, [.ref sa, .ref bb, .int 0])), (sa, .inl (cS, 32, .inr (.inr (.inr (.inr g)))))]) (wr := [(h, .inr (9, [.ref aT, .ref aB, .ref aS, .ref aR, .ref aF, .ref aC, .ref aX])), (bb, .inl (cB, 4000, .inl (fun _ => 0))), (aB, .inr (0, [.ref sa, .ref bb, .int 0])), (sa, .inl (cS, 32, .inr (.inr (.inr (.inr g)))))]) (va_runS (As := [.int x, .int 0]) (rest := []) ⟨hx, hb, hml, hown, hts⟩ (c_isIn l dC dI H.size x 0 ) (va_cwS 2 hts (gG_S kw_273 kw_247 kw_2 kw_248) rfl rfl rfl (by decide +kernel) ⟨Nat.le_of_ble_eq_true rfl, Nat.le_of_ble_eq_true rfl⟩) (g_preS (ws := [(h, .inr (9, [.ref aT, .ref aB, .ref aS, .ref aR, .ref aF, .ref aC, .ref aX])), (bb, .inl (cB, 4000, .inl (fun _ => 0))), (aB, .inr (0, [.ref sa, .ref bb, .int 0])), (sa, .inl (cS, 32, .inr (.inr (.inr (.inr g)))))]) hP.left hD.left hK hS hA hN hZ [] (by decide) rfl [] rfl) rfl rfl hl.1 rfl (lv_room (Nat.le_of_ble_eq_true rfl)) dX10_wave_23 ⟨Nat.le_of_ble_eq_true rfl, Nat.le_of_ble_eq_true rfl⟩) hP hD hK hS hA [] [0, 1, 2, 3] rfl rfl (by decide) (by decide) (fun r_23 w ty1 H locs hw_23 hP hD _ hS => ?_)
    rcases hw_23 with ⟨hu, hr_23, h_23⟩ | ⟨hu, hr_23, h_23⟩
    · exact False.elim (isin_0 h_23)
    cases hu
    have hP : va_P (dC, dI) vwCl ([(h, .inr (9, [.ref aT, .ref aB, .ref aS, .ref aR, .ref aF, .ref aC, .ref aX])), (bb, .inl (cB, 4000, .inl (fun _ => 0))), (aB, .inr (0, [.ref sa, .ref bb, .int 0])), (sa, .inl (cS, 32, .inr (.inr (.inr (.inr g)))))] ++ famN 32 ad (fun _ => 0) (fun _ => 0) (fun _ => 0) (fun _ => 0) (fun _ => 0) (fun _ => 0)) H := hP
    have hD : va_D A ([(h, .inr (9, [.ref aT, .ref aB, .ref aS, .ref aR, .ref aF, .ref aC, .ref aX])), (bb, .inl (cB, 4000, .inl (fun _ => 0))), (aB, .inr (0, [.ref sa, .ref bb, .int 0])), (sa, .inl (cS, 32, .inr (.inr (.inr (.inr g)))))] ++ famN 32 ad (fun _ => 0) (fun _ => 0) (fun _ => 0) (fun _ => 0) (fun _ => 0) (fun _ => 0)) := hD
    refine g_topi (y := 0) hr_23 ?_
    refine lv_if_eq (tgt := 41) hx hb dX10_wave_26 (by decide) (fun c_26 => ?_) (fun c_26 => absurd c_26 (by decide))
    refine lv_iconst (v := 0) hx hb dX10_wave_41 (by decide) ?_
    have hP9 := hP.sub (ws' := []) [] rfl
    have hD9 := hD.sub (ws' := []) [] (by decide) rfl
    have hK9 := hK.sub (tys' := []) [] rfl
    exact W.zret (v := 0) hx hb hr (by decide) (fun t ht hW => ⟨⟨0, ([], []), rfl, ⟨rfl, rfl⟩, by rw [ht]; exact hP9, va_K.moved hW.alike hK9, hD9⟩, hS.F ht⟩) hS.2.2 dX10_wave_42
  cases hu
  have hP : va_P (dC, dI) vwCl ([(h, .inr (9, [.ref aT, .ref aB, .ref aS, .ref aR, .ref aF, .ref aC, .ref aX])), (sa, .inl (cS, 32, .inr (.inr (.inr (.inr g))))), (bb, .inl (cB, 4000, .inl (fun _ => 0))), (aB, .inr (0, [.ref sa, .ref bb, .int 0]))] ++ famN 32 ad (fun _ => 0) (fun _ => 0) (fun _ => 0) (fun _ => 0) (fun _ => 0) (fun _ => 0)) H := hP
  have hD : va_D A ([(h, .inr (9, [.ref aT, .ref aB, .ref aS, .ref aR, .ref aF, .ref aC, .ref aX])), (sa, .inl (cS, 32, .inr (.inr (.inr (.inr g))))), (bb, .inl (cB, 4000, .inl (fun _ => 0))), (aB, .inr (0, [.ref sa, .ref bb, .int 0]))] ++ famN 32 ad (fun _ => 0) (fun _ => 0) (fun _ => 0) (fun _ => 0) (fun _ => 0) (fun _ => 0)) := hD
  refine g_topi (y := 0) hr_5 ?_
  refine lv_if_eq (tgt := 41) hx hb dX10_wave_8 (by decide) (fun c_8 => ?_) (fun c_8 => absurd c_8 (by decide))
  refine lv_iconst (v := 0) hx hb dX10_wave_41 (by decide) ?_
  have hP9 := hP.sub (ws' := []) [] rfl
  have hD9 := hD.sub (ws' := []) [] (by decide) rfl
  have hK9 := hK.sub (tys' := []) [] rfl
  exact W.zret (v := 0) hx hb hr (by decide) (fun t ht hW => ⟨⟨0, ([], []), rfl, ⟨rfl, rfl⟩, by rw [ht]; exact hP9, va_K.moved hW.alike hK9, hD9⟩, hS.F ht⟩) hS.2.2 dX10_wave_42

set_option maxHeartbeats 400000 in
set_option maxRecDepth 100000 in
/-- hasCell -/
theorem c_hasCell (l : Launch) (dC : Nat → ClassId) (dI : Nat → Nat → Nat) (sz : Nat) (x y z : Int32) : Met l yX6_hasCell (wsG (.code yX6_hasCell cX6_hasCell 3 (some .boolean))) ({ frames := 1, cells := 0, slots := 0, locals := 21 }) (va_Pc [.int x, .int y, .int z] (gP (dC, dI) [] [] sz)) (va_Qi (fun (r : Int32) (u : va_W × gT) => (u = ([], []) ∧ r = 1 ∧ cellsP x y z) ∨ (u = ([], []) ∧ r = 0 ∧ ¬ cellsP x y z)) (gB (dC, dI) (va_A [] sz)) (va_A [] sz)) 0 0 (va_A [] sz) := by
  refine Met.ofW (cc := cX6_hasCell) (maxL := 3) (ret := (some .boolean)) (by decide) rfl ?_
  intro p e s m args below meth c s₁ B hml hv
  obtain ⟨rfl, hsz, hP, hK, hD0, hN, hZ⟩ := hv
  have hx := B.exec
  have hb := B.bytes
  have hr := B.returns
  have hts := atoms_spec (ws := (wsG (.code yX6_hasCell cX6_hasCell 3 (some .boolean)))) B.pre
  have hown : s.vm.findClass RX6 = some m.cls := findClass_of_methodNamed B.named
  have hlocks := B.notSynchronized
  subst hsz
  have hD := hD0.self (sz := s.heap.size)
  generalize hAe : va_A [] s.heap.size = A at hD hZ ⊢
  have hA : ∀ q : Nat, s.heap.size ≤ q → A q := fun q h => by rw [← hAe]; exact Or.inr h
  have hl := lv_entry ([.int x, .int y, .int z]) (n := 3) (Nat.le_of_ble_eq_true rfl)
  rw [lg_entry_eq]
  generalize (lg_sl ([.int x, .int y, .int z]) ++ List.replicate (3 - (lg_sl ([.int x, .int y, .int z])).length) Slot.unset).toArray = ls at hl ⊢
  have hl : lv_has ls 3 [(0, .int x), (1, .int y), (2, .int z)] := hl
  refine g_start (A := A) hP (fun H locs hP hS => ?_)
  refine lv_iload_n hx hb dX6_hasCell_0 rfl (lv_at hl 0 rfl) ?_
  refine lv_bipush (v := 8) hx hb dX6_hasCell_1 (by decide) ?_
  refine g_calli (wr := []) (va_runSN (As := [.int x, .int 8]) (rest := []) ⟨hx, hb, hml, hown, hts⟩ (c_isIn l dC dI H.size x 8 ) ⟨va_cnB 2 hts (wsG_good kw_248) rfl rfl rfl (hN.1 (.methodLinkNest RX6 22 yX10_isIn RX10) (by decide +kernel)) (hts (.initialized RX10) (List.mem_cons_of_mem _ kw_2)) (by decide +kernel) ⟨Nat.le_of_ble_eq_true rfl, Nat.le_of_ble_eq_true rfl⟩, (hts (.static yX10_isIn) (List.mem_cons_of_mem _ kw_247)), trivial⟩ (g_preS hP hD hK hS hA hN hZ [] (by decide) rfl [] rfl) rfl rfl hl.1 rfl (lv_room (Nat.le_of_ble_eq_true rfl)) dX6_hasCell_3 ⟨Nat.le_of_ble_eq_true rfl, Nat.le_of_ble_eq_true rfl⟩) hP hD hK hS hA [] [] rfl rfl (by decide) (by decide) (fun r_3 w ty1 H locs hw_3 hP hD _ hS => ?_)
  rcases hw_3 with ⟨hu, hr_3, h_3⟩ | ⟨hu, hr_3, h_3⟩
  · cases hu
    have hP : va_P (dC, dI) vwCl [] H := hP
    have hD : va_D A [] := hD
    refine g_topi (y := 1) hr_3 ?_
    refine lv_if_eq (tgt := 30) hx hb dX6_hasCell_6 (by decide) (fun c_6 => absurd c_6 (by decide)) (fun c_6 => ?_)
    refine lv_iload_n hx hb dX6_hasCell_9 rfl (lv_at hl 1 rfl) ?_
    refine lv_bipush (v := 64) hx hb dX6_hasCell_10 (by decide) ?_
    refine g_calli (wr := []) (va_runSN (As := [.int y, .int 64]) (rest := []) ⟨hx, hb, hml, hown, hts⟩ (c_isIn l dC dI H.size y 64 ) ⟨va_cnB 2 hts (wsG_good kw_248) rfl rfl rfl (hN.1 (.methodLinkNest RX6 22 yX10_isIn RX10) (by decide +kernel)) (hts (.initialized RX10) (List.mem_cons_of_mem _ kw_2)) (by decide +kernel) ⟨Nat.le_of_ble_eq_true rfl, Nat.le_of_ble_eq_true rfl⟩, (hts (.static yX10_isIn) (List.mem_cons_of_mem _ kw_247)), trivial⟩ (g_preS hP hD hK hS hA hN hZ [] (by decide) rfl [] rfl) rfl rfl hl.1 rfl (lv_room (Nat.le_of_ble_eq_true rfl)) dX6_hasCell_12 ⟨Nat.le_of_ble_eq_true rfl, Nat.le_of_ble_eq_true rfl⟩) hP hD hK hS hA [] [] rfl rfl (by decide) (by decide) (fun r_12 w ty1 H locs hw_12 hP hD _ hS => ?_)
    rcases hw_12 with ⟨hu, hr_12, h_12⟩ | ⟨hu, hr_12, h_12⟩
    · cases hu
      have hP : va_P (dC, dI) vwCl [] H := hP
      have hD : va_D A [] := hD
      refine g_topi (y := 1) hr_12 ?_
      refine lv_if_eq (tgt := 30) hx hb dX6_hasCell_15 (by decide) (fun c_15 => absurd c_15 (by decide)) (fun c_15 => ?_)
      refine lv_iload_n hx hb dX6_hasCell_18 rfl (lv_at hl 2 rfl) ?_
      refine lv_iconst (v := 4) hx hb dX6_hasCell_19 (by decide) ?_
      refine g_calli (wr := []) (va_runSN (As := [.int z, .int 4]) (rest := []) ⟨hx, hb, hml, hown, hts⟩ (c_isIn l dC dI H.size z 4 ) ⟨va_cnB 2 hts (wsG_good kw_248) rfl rfl rfl (hN.1 (.methodLinkNest RX6 22 yX10_isIn RX10) (by decide +kernel)) (hts (.initialized RX10) (List.mem_cons_of_mem _ kw_2)) (by decide +kernel) ⟨Nat.le_of_ble_eq_true rfl, Nat.le_of_ble_eq_true rfl⟩, (hts (.static yX10_isIn) (List.mem_cons_of_mem _ kw_247)), trivial⟩ (g_preS hP hD hK hS hA hN hZ [] (by decide) rfl [] rfl) rfl rfl hl.1 rfl (lv_room (Nat.le_of_ble_eq_true rfl)) dX6_hasCell_20 ⟨Nat.le_of_ble_eq_true rfl, Nat.le_of_ble_eq_true rfl⟩) hP hD hK hS hA [] [] rfl rfl (by decide) (by decide) (fun r_20 w ty1 H locs hw_20 hP hD _ hS => ?_)
      rcases hw_20 with ⟨hu, hr_20, h_20⟩ | ⟨hu, hr_20, h_20⟩
      · cases hu
        have hP : va_P (dC, dI) vwCl [] H := hP
        have hD : va_D A [] := hD
        refine g_topi (y := 1) hr_20 ?_
        refine lv_if_eq (tgt := 30) hx hb dX6_hasCell_23 (by decide) (fun c_23 => absurd c_23 (by decide)) (fun c_23 => ?_)
        refine lv_iconst (v := 1) hx hb dX6_hasCell_26 (by decide) ?_
        refine lv_goto (tgt := 31) hx hb dX6_hasCell_27 (by decide) ?_
        have hP9 := hP.sub (ws' := []) [] rfl
        have hD9 := hD.sub (ws' := []) [] (by decide) rfl
        have hK9 := hK.sub (tys' := []) [] rfl
        exact W.zret (v := 1) hx hb hr (by decide) (fun t ht hW => ⟨⟨1, ([], []), rfl, (Or.inl ⟨rfl, rfl, (⟨h_3, h_12, h_20⟩)⟩), by rw [ht]; exact hP9, va_K.moved hW.alike hK9, hD9⟩, hS.F ht⟩) hS.2.2 dX6_hasCell_31
      cases hu
      have hP : va_P (dC, dI) vwCl [] H := hP
      have hD : va_D A [] := hD
      refine g_topi (y := 0) hr_20 ?_
      refine lv_if_eq (tgt := 30) hx hb dX6_hasCell_23 (by decide) (fun c_23 => ?_) (fun c_23 => absurd c_23 (by decide))
      refine lv_iconst (v := 0) hx hb dX6_hasCell_30 (by decide) ?_
      have hP9 := hP.sub (ws' := []) [] rfl
      have hD9 := hD.sub (ws' := []) [] (by decide) rfl
      have hK9 := hK.sub (tys' := []) [] rfl
      exact W.zret (v := 0) hx hb hr (by decide) (fun t ht hW => ⟨⟨0, ([], []), rfl, (Or.inr ⟨rfl, rfl, (fun q => h_20 q.2.2)⟩), by rw [ht]; exact hP9, va_K.moved hW.alike hK9, hD9⟩, hS.F ht⟩) hS.2.2 dX6_hasCell_31
    cases hu
    have hP : va_P (dC, dI) vwCl [] H := hP
    have hD : va_D A [] := hD
    refine g_topi (y := 0) hr_12 ?_
    refine lv_if_eq (tgt := 30) hx hb dX6_hasCell_15 (by decide) (fun c_15 => ?_) (fun c_15 => absurd c_15 (by decide))
    refine lv_iconst (v := 0) hx hb dX6_hasCell_30 (by decide) ?_
    have hP9 := hP.sub (ws' := []) [] rfl
    have hD9 := hD.sub (ws' := []) [] (by decide) rfl
    have hK9 := hK.sub (tys' := []) [] rfl
    exact W.zret (v := 0) hx hb hr (by decide) (fun t ht hW => ⟨⟨0, ([], []), rfl, (Or.inr ⟨rfl, rfl, (fun q => h_12 q.2.1)⟩), by rw [ht]; exact hP9, va_K.moved hW.alike hK9, hD9⟩, hS.F ht⟩) hS.2.2 dX6_hasCell_31
  cases hu
  have hP : va_P (dC, dI) vwCl [] H := hP
  have hD : va_D A [] := hD
  refine g_topi (y := 0) hr_3 ?_
  refine lv_if_eq (tgt := 30) hx hb dX6_hasCell_6 (by decide) (fun c_6 => ?_) (fun c_6 => absurd c_6 (by decide))
  refine lv_iconst (v := 0) hx hb dX6_hasCell_30 (by decide) ?_
  have hP9 := hP.sub (ws' := []) [] rfl
  have hD9 := hD.sub (ws' := []) [] (by decide) rfl
  have hK9 := hK.sub (tys' := []) [] rfl
  exact W.zret (v := 0) hx hb hr (by decide) (fun t ht hW => ⟨⟨0, ([], []), rfl, (Or.inr ⟨rfl, rfl, (fun q => h_3 q.1)⟩), by rw [ht]; exact hP9, va_K.moved hW.alike hK9, hD9⟩, hS.F ht⟩) hS.2.2 dX6_hasCell_31

set_option maxHeartbeats 400000 in
set_option maxRecDepth 100000 in
/-- indexOf -/
theorem c_indexOf (l : Launch) (dC : Nat → ClassId) (dI : Nat → Nat → Nat) (sz : Nat) (a b d : Nat) : Met l yX6_indexOf (wsG (.code yX6_indexOf cX6_indexOf 3 (some .int))) ({ frames := 0, cells := 0, slots := 0, locals := 0 }) (va_Pc [.int (nI a), .int (nI b), .int (nI d)] (gP (dC, dI) [] [] sz)) (va_Qi (fun (r : Int32) (u : va_W × gT) => u = ([], []) ∧ r = nI ((a * 64 + b) * 4 + d)) (gB (dC, dI) (va_A [] sz)) (va_A [] sz)) 0 0 (va_A [] sz) := by
  refine Met.ofW (cc := cX6_indexOf) (maxL := 3) (ret := (some .int)) (by decide) rfl ?_
  intro p e s m args below meth c s₁ B hml hv
  obtain ⟨rfl, hsz, hP, hK, hD0, hN, hZ⟩ := hv
  have hx := B.exec
  have hb := B.bytes
  have hr := B.returns
  have hts := atoms_spec (ws := (wsG (.code yX6_indexOf cX6_indexOf 3 (some .int)))) B.pre
  have hown : s.vm.findClass RX6 = some m.cls := findClass_of_methodNamed B.named
  have hlocks := B.notSynchronized
  subst hsz
  have hD := hD0.self (sz := s.heap.size)
  generalize hAe : va_A [] s.heap.size = A at hD hZ ⊢
  have hA : ∀ q : Nat, s.heap.size ≤ q → A q := fun q h => by rw [← hAe]; exact Or.inr h
  have hl := lv_entry ([.int (nI a), .int (nI b), .int (nI d)]) (n := 3) (Nat.le_of_ble_eq_true rfl)
  rw [lg_entry_eq]
  generalize (lg_sl ([.int (nI a), .int (nI b), .int (nI d)]) ++ List.replicate (3 - (lg_sl ([.int (nI a), .int (nI b), .int (nI d)])).length) Slot.unset).toArray = ls at hl ⊢
  have hl : lv_has ls 3 [(0, .int (nI a)), (1, .int (nI b)), (2, .int (nI d))] := hl
  refine g_start (A := A) hP (fun H locs hP hS => ?_)
  refine lv_iload_n hx hb dX6_indexOf_0 rfl (lv_at hl 0 rfl) ?_
  refine lv_bipush (v := 64) hx hb dX6_indexOf_1 (by decide) ?_
  refine lv_imul hx hb dX6_indexOf_3 ?_
  refine g_topi (y := nI (a * 64)) (pk_mul a 64) ?_
  refine lv_iload_n hx hb dX6_indexOf_4 rfl (lv_at hl 1 rfl) ?_
  refine lv_iadd hx hb dX6_indexOf_5 ?_
  refine g_topi (y := nI (a * 64 + b)) (nI_add _ _) ?_
  refine lv_iconst (v := 4) hx hb dX6_indexOf_6 (by decide) ?_
  refine lv_imul hx hb dX6_indexOf_7 ?_
  refine g_topi (y := nI ((a * 64 + b) * 4)) (pk_mul _ 4) ?_
  refine lv_iload_n hx hb dX6_indexOf_8 rfl (lv_at hl 2 rfl) ?_
  refine lv_iadd hx hb dX6_indexOf_9 ?_
  refine g_topi (y := nI ((a * 64 + b) * 4 + d)) (nI_add _ _) ?_
  have hP9 := hP.sub (ws' := []) [] rfl
  have hD9 := hD.sub (ws' := []) [] (by decide) rfl
  have hK9 := hK.sub (tys' := []) [] rfl
  exact W.iret (v := nI ((a * 64 + b) * 4 + d)) hx hb hr (fun t ht hW => ⟨⟨nI ((a * 64 + b) * 4 + d), ([], []), rfl, ⟨rfl, rfl⟩, by rw [ht]; exact hP9, va_K.moved hW.alike hK9, hD9⟩, hS.F ht⟩) hS.2.2 dX6_indexOf_10

set_option maxHeartbeats 400000 in
set_option maxRecDepth 100000 in
/-- getCell -/
theorem c_getCell (l : Launch) (dC : Nat → ClassId) (dI : Nat → Nat → Nat) (sz : Nat) (h ce pl : Nat) (x2 x3 : Int32) (cI : ClassId) (f : Nat → Int32) (a b d : Nat) (ha : a < 8) (hb0 : b < 64) (hd : d < 4) : Met l yX6_getCell (wsG (.code yX6_getCell cX6_getCell 4 (some .int))) ({ frames := 2, cells := 0, slots := 0, locals := 43 }) (va_Pc [.ref h, .int (nI a), .int (nI b), .int (nI d)] (gP (dC, dI) [(cI, .int)] [(h, .inr (6, [.ref ce, .ref pl, .int x2, .int x3])), (ce, .inl (cI, 2048, .inl f))] sz)) (va_Qi (fun (r : Int32) (u : va_W × gT) => u = ([(h, .inr (6, [.ref ce, .ref pl, .int x2, .int x3])), (ce, .inl (cI, 2048, .inl f))], []) ∧ r = f ((a * 64 + b) * 4 + d)) (gB (dC, dI) (va_A [(h, .inr (6, [.ref ce, .ref pl, .int x2, .int x3])), (ce, .inl (cI, 2048, .inl f))] sz)) (va_A [(h, .inr (6, [.ref ce, .ref pl, .int x2, .int x3])), (ce, .inl (cI, 2048, .inl f))] sz)) 0 0 (va_A [(h, .inr (6, [.ref ce, .ref pl, .int x2, .int x3])), (ce, .inl (cI, 2048, .inl f))] sz) := by
  refine Met.ofW (cc := cX6_getCell) (maxL := 4) (ret := (some .int)) (by decide) rfl ?_
  intro p e s m args below meth c s₁ B hml hv
  obtain ⟨rfl, hsz, hP, hK, hD0, hN, hZ⟩ := hv
  have hx := B.exec
  have hb := B.bytes
  have hr := B.returns
  have hts := atoms_spec (ws := (wsG (.code yX6_getCell cX6_getCell 4 (some .int)))) B.pre
  have hown : s.vm.findClass RX6 = some m.cls := findClass_of_methodNamed B.named
  have hlocks := B.notSynchronized
  subst hsz
  have hD := hD0.self (sz := s.heap.size)
  generalize hAe : va_A [(h, .inr (6, [.ref ce, .ref pl, .int x2, .int x3])), (ce, .inl (cI, 2048, .inl f))] s.heap.size = A at hD hZ ⊢
  have hA : ∀ q : Nat, s.heap.size ≤ q → A q := fun q h => by rw [← hAe]; exact Or.inr h
  have hl := lv_entry ([.ref h, .int (nI a), .int (nI b), .int (nI d)]) (n := 4) (Nat.le_of_ble_eq_true rfl)
  rw [lg_entry_eq]
  generalize (lg_sl ([.ref h, .int (nI a), .int (nI b), .int (nI d)]) ++ List.replicate (4 - (lg_sl ([.ref h, .int (nI a), .int (nI b), .int (nI d)])).length) Slot.unset).toArray = ls at hl ⊢
  have hl : lv_has ls 4 [(0, .ref h), (1, .int (nI a)), (2, .int (nI b)), (3, .int (nI d))] := hl
  refine g_start (A := A) hP (fun H locs hP hS => ?_)
  refine lv_iload_n hx hb dX6_getCell_0 rfl (lv_at hl 1 rfl) ?_
  refine lv_iload_n hx hb dX6_getCell_1 rfl (lv_at hl 2 rfl) ?_
  refine lv_iload_n hx hb dX6_getCell_2 rfl (lv_at hl 3 rfl) ?_
  refine g_calli (wr := [(h, .inr (6, [.ref ce, .ref pl, .int x2, .int x3])), (ce, .inl (cI, 2048, .inl f))]) (va_runS (As := [.int (nI a), .int (nI b), .int (nI d)]) (rest := []) ⟨hx, hb, hml, hown, hts⟩ (c_hasCell l dC dI H.size (nI a) (nI b) (nI d) ) (va_cwS 3 hts (gG_S kw_364 kw_365 kw_26 kw_366) rfl rfl rfl (by decide +kernel) ⟨Nat.le_of_ble_eq_true rfl, Nat.le_of_ble_eq_true rfl⟩) (g_preS hP hD hK hS hA hN hZ [] (by decide) rfl [] rfl) rfl rfl hl.1 rfl (lv_room (Nat.le_of_ble_eq_true rfl)) dX6_getCell_3 ⟨Nat.le_of_ble_eq_true rfl, Nat.le_of_ble_eq_true rfl⟩) hP hD hK hS hA [] [0, 1] rfl rfl (by decide) (by decide) (fun r_3 w ty1 H locs hw_3 hP hD _ hS => ?_)
  rcases hw_3 with ⟨hu, hr_3, hh_3⟩ | ⟨hu, hr_3, hh_3⟩
  · cases hu
    have hP : va_P (dC, dI) vwCl [(h, .inr (6, [.ref ce, .ref pl, .int x2, .int x3])), (ce, .inl (cI, 2048, .inl f))] H := hP
    have hD : va_D A [(h, .inr (6, [.ref ce, .ref pl, .int x2, .int x3])), (ce, .inl (cI, 2048, .inl f))] := hD
    refine g_topi (y := 1) hr_3 ?_
    refine lv_if_eq (tgt := 23) hx hb dX6_getCell_6 (by decide) (fun c_6 => absurd c_6 (by decide)) (fun c_6 => ?_)
    refine lv_aload_n hx hb dX6_getCell_9 rfl (lv_at hl 0 rfl) ?_
    refine va_get (D := (dC, dI)) (ci := 6) (v := .ref ce) (C := RX6) (T := TX6) (N := 4) hx hb hts iwX6 hown hK hP 0 rfl rfl 0 (by decide) (hts (.fieldLink RX6 9 "ModulePlayer$Score" "cells" "[I") (List.mem_cons_of_mem _ kw_65)) (fun _ h9 => h9) rfl dX6_getCell_10 ?_
    refine lv_iload_n hx hb dX6_getCell_13 rfl (lv_at hl 1 rfl) ?_
    refine lv_iload_n hx hb dX6_getCell_14 rfl (lv_at hl 2 rfl) ?_
    refine lv_iload_n hx hb dX6_getCell_15 rfl (lv_at hl 3 rfl) ?_
    refine g_calli (wr := [(h, .inr (6, [.ref ce, .ref pl, .int x2, .int x3])), (ce, .inl (cI, 2048, .inl f))]) (va_runS (As := [.int (nI a), .int (nI b), .int (nI d)]) (rest := [.ref ce]) ⟨hx, hb, hml, hown, hts⟩ (c_indexOf l dC dI H.size a b d ) (va_cwS 3 hts (gG_S kw_367 kw_368 kw_26 kw_369) rfl rfl rfl (by decide +kernel) ⟨Nat.le_of_ble_eq_true rfl, Nat.le_of_ble_eq_true rfl⟩) (g_preS hP hD hK hS hA hN hZ [] (by decide) rfl [] rfl) rfl rfl hl.1 rfl (lv_room (Nat.le_of_ble_eq_true rfl)) dX6_getCell_16 ⟨Nat.le_of_ble_eq_true rfl, Nat.le_of_ble_eq_true rfl⟩) hP hD hK hS hA [] [0, 1] rfl rfl (by decide) (by decide) (fun r_16 w ty1 H locs hw_16 hP hD _ hS => ?_)
    rcases hw_16 with ⟨hu, hr_16⟩
    cases hu
    have hP : va_P (dC, dI) vwCl [(h, .inr (6, [.ref ce, .ref pl, .int x2, .int x3])), (ce, .inl (cI, 2048, .inl f))] H := hP
    have hD : va_D A [(h, .inr (6, [.ref ce, .ref pl, .int x2, .int x3])), (ce, .inl (cI, 2048, .inl f))] := hD
    refine g_topi (y := nI ((a * 64 + b) * 4 + d)) hr_16 ?_
    refine g_iald hx hb hK hP 1 0 rfl rfl ((a * 64 + b) * 4 + d) (nI_clamp (Nat.lt_trans (show (a * 64 + b) * 4 + d < 2048 from by omega) (by decide))) (vp_in_nI (by omega) (by decide)) dX6_getCell_19 ?_
    refine lv_goto (tgt := 24) hx hb dX6_getCell_20 (by decide) ?_
    have hP9 := hP.sub (ws' := [(h, .inr (6, [.ref ce, .ref pl, .int x2, .int x3])), (ce, .inl (cI, 2048, .inl f))]) [0, 1] rfl
    have hD9 := hD.sub (ws' := [(h, .inr (6, [.ref ce, .ref pl, .int x2, .int x3])), (ce, .inl (cI, 2048, .inl f))]) [0, 1] (by decide) rfl
    have hK9 := hK.sub (tys' := []) [] rfl
    exact W.iret (v := f ((a * 64 + b) * 4 + d)) hx hb hr (fun t ht hW => ⟨⟨f ((a * 64 + b) * 4 + d), ([(h, .inr (6, [.ref ce, .ref pl, .int x2, .int x3])), (ce, .inl (cI, 2048, .inl f))], []), rfl, ⟨rfl, rfl⟩, by rw [ht]; exact hP9, va_K.moved hW.alike hK9, hD9⟩, hS.F ht⟩) hS.2.2 dX6_getCell_24
  exact False.elim (hh_3 ⟨isin0 ha (by decide), isin0 hb0 (by decide), isin0 hd (by decide)⟩)

set_option maxHeartbeats 400000 in
set_option maxRecDepth 100000 in
/-- putCell -/
theorem c_putCell (l : Launch) (dC : Nat → ClassId) (dI : Nat → Nat → Nat) (sz : Nat) (h ce pl : Nat) (x2 x3 : Int32) (cI : ClassId) (f : Nat → Int32) (a b d : Nat) (v : Int32) (ha : a < 8) (hb0 : b < 64) (hd : d < 4) : Met l yX6_putCell (wsG (.code yX6_putCell cX6_putCell 5 none)) ({ frames := 2, cells := 0, slots := 0, locals := 43 }) (va_Pc [.ref h, .int (nI a), .int (nI b), .int (nI d), .int v] (gP (dC, dI) [(cI, .int)] [(h, .inr (6, [.ref ce, .ref pl, .int x2, .int x3])), (ce, .inl (cI, 2048, .inl f))] sz)) (va_Qv (fun u : va_W × gT => u = ([(h, .inr (6, [.ref ce, .ref pl, .int x2, .int x3])), (ce, .inl (cI, 2048, .inl (upd f ((a * 64 + b) * 4 + d) v)))], [])) (gB (dC, dI) (va_A [(h, .inr (6, [.ref ce, .ref pl, .int x2, .int x3])), (ce, .inl (cI, 2048, .inl f))] sz)) (va_A [(h, .inr (6, [.ref ce, .ref pl, .int x2, .int x3])), (ce, .inl (cI, 2048, .inl f))] sz)) 0 0 (va_A [(h, .inr (6, [.ref ce, .ref pl, .int x2, .int x3])), (ce, .inl (cI, 2048, .inl f))] sz) := by
  refine Met.ofW (cc := cX6_putCell) (maxL := 5) (ret := none) (by decide) rfl ?_
  intro p e s m args below meth c s₁ B hml hv
  obtain ⟨rfl, hsz, hP, hK, hD0, hN, hZ⟩ := hv
  have hx := B.exec
  have hb := B.bytes
  have hr := B.returns
  have hts := atoms_spec (ws := (wsG (.code yX6_putCell cX6_putCell 5 none))) B.pre
  have hown : s.vm.findClass RX6 = some m.cls := findClass_of_methodNamed B.named
  have hlocks := B.notSynchronized
  subst hsz
  have hD := hD0.self (sz := s.heap.size)
  generalize hAe : va_A [(h, .inr (6, [.ref ce, .ref pl, .int x2, .int x3])), (ce, .inl (cI, 2048, .inl f))] s.heap.size = A at hD hZ ⊢
  have hA : ∀ q : Nat, s.heap.size ≤ q → A q := fun q h => by rw [← hAe]; exact Or.inr h
  have hl := lv_entry ([.ref h, .int (nI a), .int (nI b), .int (nI d), .int v]) (n := 5) (Nat.le_of_ble_eq_true rfl)
  rw [lg_entry_eq]
  generalize (lg_sl ([.ref h, .int (nI a), .int (nI b), .int (nI d), .int v]) ++ List.replicate (5 - (lg_sl ([.ref h, .int (nI a), .int (nI b), .int (nI d), .int v])).length) Slot.unset).toArray = ls at hl ⊢
  have hl : lv_has ls 5 [(0, .ref h), (1, .int (nI a)), (2, .int (nI b)), (3, .int (nI d)), (4, .int v)] := hl
  refine g_start (A := A) hP (fun H locs hP hS => ?_)
  refine lv_iload_n hx hb dX6_putCell_0 rfl (lv_at hl 1 rfl) ?_
  refine lv_iload_n hx hb dX6_putCell_1 rfl (lv_at hl 2 rfl) ?_
  refine lv_iload_n hx hb dX6_putCell_2 rfl (lv_at hl 3 rfl) ?_
  refine g_calli (wr := [(h, .inr (6, [.ref ce, .ref pl, .int x2, .int x3])), (ce, .inl (cI, 2048, .inl f))]) (va_runS (As := [.int (nI a), .int (nI b), .int (nI d)]) (rest := []) ⟨hx, hb, hml, hown, hts⟩ (c_hasCell l dC dI H.size (nI a) (nI b) (nI d) ) (va_cwS 3 hts (gG_S kw_364 kw_365 kw_26 kw_366) rfl rfl rfl (by decide +kernel) ⟨Nat.le_of_ble_eq_true rfl, Nat.le_of_ble_eq_true rfl⟩) (g_preS hP hD hK hS hA hN hZ [] (by decide) rfl [] rfl) rfl rfl hl.1 rfl (lv_room (Nat.le_of_ble_eq_true rfl)) dX6_putCell_3 ⟨Nat.le_of_ble_eq_true rfl, Nat.le_of_ble_eq_true rfl⟩) hP hD hK hS hA [] [0, 1] rfl rfl (by decide) (by decide) (fun r_3 w ty1 H locs hw_3 hP hD _ hS => ?_)
  rcases hw_3 with ⟨hu, hr_3, hh_3⟩ | ⟨hu, hr_3, hh_3⟩
  · cases hu
    have hP : va_P (dC, dI) vwCl [(h, .inr (6, [.ref ce, .ref pl, .int x2, .int x3])), (ce, .inl (cI, 2048, .inl f))] H := hP
    have hD : va_D A [(h, .inr (6, [.ref ce, .ref pl, .int x2, .int x3])), (ce, .inl (cI, 2048, .inl f))] := hD
    refine g_topi (y := 1) hr_3 ?_
    refine lv_if_eq (tgt := 22) hx hb dX6_putCell_6 (by decide) (fun c_6 => absurd c_6 (by decide)) (fun c_6 => ?_)
    refine lv_aload_n hx hb dX6_putCell_9 rfl (lv_at hl 0 rfl) ?_
    refine va_get (D := (dC, dI)) (ci := 6) (v := .ref ce) (C := RX6) (T := TX6) (N := 4) hx hb hts iwX6 hown hK hP 0 rfl rfl 0 (by decide) (hts (.fieldLink RX6 9 "ModulePlayer$Score" "cells" "[I") (List.mem_cons_of_mem _ kw_65)) (fun _ h9 => h9) rfl dX6_putCell_10 ?_
    refine lv_iload_n hx hb dX6_putCell_13 rfl (lv_at hl 1 rfl) ?_
    refine lv_iload_n hx hb dX6_putCell_14 rfl (lv_at hl 2 rfl) ?_
    refine lv_iload_n hx hb dX6_putCell_15 rfl (lv_at hl 3 rfl) ?_
    refine g_calli (wr := [(h, .inr (6, [.ref ce, .ref pl, .int x2, .int x3])), (ce, .inl (cI, 2048, .inl f))]) (va_runS (As := [.int (nI a), .int (nI b), .int (nI d)]) (rest := [.ref ce]) ⟨hx, hb, hml, hown, hts⟩ (c_indexOf l dC dI H.size a b d ) (va_cwS 3 hts (gG_S kw_367 kw_368 kw_26 kw_369) rfl rfl rfl (by decide +kernel) ⟨Nat.le_of_ble_eq_true rfl, Nat.le_of_ble_eq_true rfl⟩) (g_preS hP hD hK hS hA hN hZ [] (by decide) rfl [] rfl) rfl rfl hl.1 rfl (lv_room (Nat.le_of_ble_eq_true rfl)) dX6_putCell_16 ⟨Nat.le_of_ble_eq_true rfl, Nat.le_of_ble_eq_true rfl⟩) hP hD hK hS hA [] [0, 1] rfl rfl (by decide) (by decide) (fun r_16 w ty1 H locs hw_16 hP hD _ hS => ?_)
    rcases hw_16 with ⟨hu, hr_16⟩
    cases hu
    have hP : va_P (dC, dI) vwCl [(h, .inr (6, [.ref ce, .ref pl, .int x2, .int x3])), (ce, .inl (cI, 2048, .inl f))] H := hP
    have hD : va_D A [(h, .inr (6, [.ref ce, .ref pl, .int x2, .int x3])), (ce, .inl (cI, 2048, .inl f))] := hD
    refine g_topi (y := nI ((a * 64 + b) * 4 + d)) hr_16 ?_
    refine lv_iload hx hb dX6_putCell_19 (lv_at hl 4 rfl) ?_
    refine g_iast hx hb hK hP hD hS 1 0 rfl rfl ((a * 64 + b) * 4 + d) (nI_clamp (Nat.lt_trans (show (a * 64 + b) * 4 + d < 2048 from by omega) (by decide))) (vp_in_nI (by omega) (by decide)) dX6_putCell_21 (fun H locs hP hD hS => ?_)
    have hP : va_P (dC, dI) vwCl [(h, .inr (6, [.ref ce, .ref pl, .int x2, .int x3])), (ce, .inl (cI, 2048, .inl (upd f ((a * 64 + b) * 4 + d) v)))] H := hP
    have hD : va_D A [(h, .inr (6, [.ref ce, .ref pl, .int x2, .int x3])), (ce, .inl (cI, 2048, .inl (upd f ((a * 64 + b) * 4 + d) v)))] := hD
    have hP9 := hP.sub (ws' := [(h, .inr (6, [.ref ce, .ref pl, .int x2, .int x3])), (ce, .inl (cI, 2048, .inl (upd f ((a * 64 + b) * 4 + d) v)))]) [0, 1] rfl
    have hD9 := hD.sub (ws' := [(h, .inr (6, [.ref ce, .ref pl, .int x2, .int x3])), (ce, .inl (cI, 2048, .inl (upd f ((a * 64 + b) * 4 + d) v)))]) [0, 1] (by decide) rfl
    have hK9 := hK.sub (tys' := []) [] rfl
    exact W.vret hx hb hr (fun t ht hW => ⟨⟨([(h, .inr (6, [.ref ce, .ref pl, .int x2, .int x3])), (ce, .inl (cI, 2048, .inl (upd f ((a * 64 + b) * 4 + d) v)))], []), rfl, rfl, by rw [ht]; exact hP9, va_K.moved hW.alike hK9, hD9⟩, hS.F ht⟩) hS.2.2 dX6_putCell_22
  exact False.elim (hh_3 ⟨isin0 ha (by decide), isin0 hb0 (by decide), isin0 hd (by decide)⟩)

set_option maxHeartbeats 400000 in
set_option maxRecDepth 100000 in
/-- cell, first -/
theorem f_cell (l : Launch) (dC : Nat → ClassId) (dI : Nat → Nat → Nat) (sz : Nat) (h aT aB aS aR aF aC aX : Nat) (ce pl : Nat) (cI : ClassId) (x1 x2 x3 v : Int32) : Met l yX10_cell (wsG (.code yX10_cell cX10_cell 5 (some .boolean))) ({ frames := 3, cells := 0, slots := 0, locals := 67 }) (va_Pc [.ref h, .int x1, .int x2, .int x3, .int v] (gP (dC, dI) [(cI, .int)] [(h, .inr (9, [.ref aT, .ref aB, .ref aS, .ref aR, .ref aF, .ref aC, .ref aX])), (aS, .inr (6, [.ref ce, .ref pl, .int 1, .int 0])), (ce, .inl (cI, 2048, .inl (fun _ => 0))), (pl, .inl (cI, 128, .inl (fun _ => 0)))] sz)) (va_Qi (fun (r : Int32) (u : va_W × gT) => u = ([], []) ∧ r = bF (cellsP x1 x2 x3 ∧ 0 ≤ v ∧ v ≤ 536870911)) (gB (dC, dI) (va_A [(h, .inr (9, [.ref aT, .ref aB, .ref aS, .ref aR, .ref aF, .ref aC, .ref aX])), (aS, .inr (6, [.ref ce, .ref pl, .int 1, .int 0])), (ce, .inl (cI, 2048, .inl (fun _ => 0))), (pl, .inl (cI, 128, .inl (fun _ => 0)))] sz)) (va_A [(h, .inr (9, [.ref aT, .ref aB, .ref aS, .ref aR, .ref aF, .ref aC, .ref aX])), (aS, .inr (6, [.ref ce, .ref pl, .int 1, .int 0])), (ce, .inl (cI, 2048, .inl (fun _ => 0))), (pl, .inl (cI, 128, .inl (fun _ => 0)))] sz)) 0 0 (va_A [(h, .inr (9, [.ref aT, .ref aB, .ref aS, .ref aR, .ref aF, .ref aC, .ref aX])), (aS, .inr (6, [.ref ce, .ref pl, .int 1, .int 0])), (ce, .inl (cI, 2048, .inl (fun _ => 0))), (pl, .inl (cI, 128, .inl (fun _ => 0)))] sz) := by
  refine Met.ofW (cc := cX10_cell) (maxL := 5) (ret := (some .boolean)) (by decide) rfl ?_
  intro p e s m args below meth c s₁ B hml hv
  obtain ⟨rfl, hsz, hP, hK, hD0, hN, hZ⟩ := hv
  have hx := B.exec
  have hb := B.bytes
  have hr := B.returns
  have hts := atoms_spec (ws := (wsG (.code yX10_cell cX10_cell 5 (some .boolean)))) B.pre
  have hown : s.vm.findClass RX10 = some m.cls := findClass_of_methodNamed B.named
  have hlocks := B.notSynchronized
  subst hsz
  have hD := hD0.self (sz := s.heap.size)
  generalize hAe : va_A [(h, .inr (9, [.ref aT, .ref aB, .ref aS, .ref aR, .ref aF, .ref aC, .ref aX])), (aS, .inr (6, [.ref ce, .ref pl, .int 1, .int 0])), (ce, .inl (cI, 2048, .inl (fun _ => 0))), (pl, .inl (cI, 128, .inl (fun _ => 0)))] s.heap.size = A at hD hZ ⊢
  have hA : ∀ q : Nat, s.heap.size ≤ q → A q := fun q h => by rw [← hAe]; exact Or.inr h
  have hl := lv_entry ([.ref h, .int x1, .int x2, .int x3, .int v]) (n := 5) (Nat.le_of_ble_eq_true rfl)
  rw [lg_entry_eq]
  generalize (lg_sl ([.ref h, .int x1, .int x2, .int x3, .int v]) ++ List.replicate (5 - (lg_sl ([.ref h, .int x1, .int x2, .int x3, .int v])).length) Slot.unset).toArray = ls at hl ⊢
  have hl : lv_has ls 5 [(0, .ref h), (1, .int x1), (2, .int x2), (3, .int x3), (4, .int v)] := hl
  refine g_start (A := A) hP (fun H locs hP hS => ?_)
  refine lv_iload_n hx hb dX10_cell_0 rfl (lv_at hl 1 rfl) ?_
  refine lv_iload_n hx hb dX10_cell_1 rfl (lv_at hl 2 rfl) ?_
  refine lv_iload_n hx hb dX10_cell_2 rfl (lv_at hl 3 rfl) ?_
  refine g_calli (wr := [(h, .inr (9, [.ref aT, .ref aB, .ref aS, .ref aR, .ref aF, .ref aC, .ref aX])), (aS, .inr (6, [.ref ce, .ref pl, .int 1, .int 0])), (ce, .inl (cI, 2048, .inl (fun _ => 0))), (pl, .inl (cI, 128, .inl (fun _ => 0)))]) (va_runS (As := [.int x1, .int x2, .int x3]) (rest := []) ⟨hx, hb, hml, hown, hts⟩ (c_hasCell l dC dI H.size x1 x2 x3 ) (va_cwS 3 hts (gG_S kw_572 kw_365 kw_26 kw_366) rfl rfl rfl (by decide +kernel) ⟨Nat.le_of_ble_eq_true rfl, Nat.le_of_ble_eq_true rfl⟩) (g_preS hP hD hK hS hA hN hZ [] (by decide) rfl [] rfl) rfl rfl hl.1 rfl (lv_room (Nat.le_of_ble_eq_true rfl)) dX10_cell_3 ⟨Nat.le_of_ble_eq_true rfl, Nat.le_of_ble_eq_true rfl⟩) hP hD hK hS hA [] [0, 1, 2, 3] rfl rfl (by decide) (by decide) (fun r_3 w ty1 H locs hw_3 hP hD _ hS => ?_)
  rcases hw_3 with ⟨hu, hr_3, hh_3⟩ | ⟨hu, hr_3, hh_3⟩
  · cases hu
    have hP : va_P (dC, dI) vwCl [(h, .inr (9, [.ref aT, .ref aB, .ref aS, .ref aR, .ref aF, .ref aC, .ref aX])), (aS, .inr (6, [.ref ce, .ref pl, .int 1, .int 0])), (ce, .inl (cI, 2048, .inl (fun _ => 0))), (pl, .inl (cI, 128, .inl (fun _ => 0)))] H := hP
    have hD : va_D A [(h, .inr (9, [.ref aT, .ref aB, .ref aS, .ref aR, .ref aF, .ref aC, .ref aX])), (aS, .inr (6, [.ref ce, .ref pl, .int 1, .int 0])), (ce, .inl (cI, 2048, .inl (fun _ => 0))), (pl, .inl (cI, 128, .inl (fun _ => 0)))] := hD
    refine g_topi (y := 1) hr_3 ?_
    obtain ⟨a, b, d, ha, hb0, hd, e1, e2, e3⟩ := cells_n hh_3
    subst e1 e2 e3
    refine lv_if_eq (tgt := 21) hx hb dX10_cell_6 (by decide) (fun c_6 => absurd c_6 (by decide)) (fun c_6 => ?_)
    refine lv_iload hx hb dX10_cell_9 (lv_at hl 4 rfl) ?_
    refine lv_if_lt (tgt := 21) hx hb dX10_cell_11 (by decide) (fun c_11 => ?_) (fun c_11 => ?_)
    · refine lv_iconst (v := 0) hx hb dX10_cell_21 (by decide) ?_
      have hP9 := hP.sub (ws' := []) [] rfl
      have hD9 := hD.sub (ws' := []) [] (by decide) rfl
      have hK9 := hK.sub (tys' := []) [] rfl
      exact W.zret (v := 0) hx hb hr (by decide) (fun t ht hW => ⟨⟨0, ([], []), rfl, ⟨rfl, bF_f (fun q => i_nle.mpr c_11 q.2.1)⟩, by rw [ht]; exact hP9, va_K.moved hW.alike hK9, hD9⟩, hS.F ht⟩) hS.2.2 dX10_cell_22
    refine lv_iload hx hb dX10_cell_14 (lv_at hl 4 rfl) ?_
    refine lv_ldc (v := 536870911) hx hb hown (hts (.constant RX10 161 (536870911)) (List.mem_cons_of_mem _ kw_571)) dX10_cell_16 ?_
    refine lv_icmp_le (tgt := 23) hx hb dX10_cell_18 (by decide) (fun c_18 => ?_) (fun c_18 => ?_)
    · refine lv_aload_n hx hb dX10_cell_23 rfl (lv_at hl 0 rfl) ?_
      refine va_get (D := (dC, dI)) (ci := 9) (v := .ref aS) (C := RX10) (T := TX10) (N := 7) hx hb hts iwX10 hown hK hP 0 rfl rfl 2 (by decide) (hts (.fieldLink RX10 26 "ModulePlayer" "score" "LModulePlayer$Score;") (List.mem_cons_of_mem _ kw_27)) (fun _ h9 => h9) rfl dX10_cell_24 ?_
      refine lv_iload_n hx hb dX10_cell_27 rfl (lv_at hl 1 rfl) ?_
      refine lv_iload_n hx hb dX10_cell_28 rfl (lv_at hl 2 rfl) ?_
      refine lv_iload_n hx hb dX10_cell_29 rfl (lv_at hl 3 rfl) ?_
      refine lv_iload hx hb dX10_cell_30 (lv_at hl 4 rfl) ?_
      refine g_callv (wr := [(h, .inr (9, [.ref aT, .ref aB, .ref aS, .ref aR, .ref aF, .ref aC, .ref aX])), (pl, .inl (cI, 128, .inl (fun _ => 0)))]) (va_runV (As := [.int (nI a), .int (nI b), .int (nI d), .int v]) (rest := []) ⟨hx, hb, hml, hown, hts⟩ (c_putCell l dC dI H.size aS ce pl 1 0 cI (fun _ => 0) a b d v (ha) (hb0) (hd)) (cwV 4 hts (gG_V kw_573 kw_361 kw_362 kw_26 kw_363) rfl rfl rfl (by decide +kernel) ⟨Nat.le_of_ble_eq_true rfl, Nat.le_of_ble_eq_true rfl⟩) (g_preV (C := RX6) (T := TX6) (N := 4) hP hD hK hS hA hN hZ (q0 := 1) rfl rfl [1, 2] (by decide) rfl [0] rfl) rfl rfl hl.1 rfl (lv_room (Nat.le_of_ble_eq_true rfl)) dX10_cell_32 ⟨Nat.le_of_ble_eq_true rfl, Nat.le_of_ble_eq_true rfl⟩) hP hD hK hS hA [1, 2] [0, 3] rfl rfl (by decide) (by decide) (fun w ty1 H locs hw_32 hP hD _ hS => ?_)
      have hu := hw_32
      cases hu
      have hP : va_P (dC, dI) vwCl [(h, .inr (9, [.ref aT, .ref aB, .ref aS, .ref aR, .ref aF, .ref aC, .ref aX])), (pl, .inl (cI, 128, .inl (fun _ => 0))), (aS, .inr (6, [.ref ce, .ref pl, .int 1, .int 0])), (ce, .inl (cI, 2048, .inl (upd (fun _ => 0) ((a * 64 + b) * 4 + d) v)))] H := hP
      have hD : va_D A [(h, .inr (9, [.ref aT, .ref aB, .ref aS, .ref aR, .ref aF, .ref aC, .ref aX])), (pl, .inl (cI, 128, .inl (fun _ => 0))), (aS, .inr (6, [.ref ce, .ref pl, .int 1, .int 0])), (ce, .inl (cI, 2048, .inl (upd (fun _ => 0) ((a * 64 + b) * 4 + d) v)))] := hD
      refine lv_iconst (v := 1) hx hb dX10_cell_35 (by decide) ?_
      have hP9 := hP.sub (ws' := []) [] rfl
      have hD9 := hD.sub (ws' := []) [] (by decide) rfl
      have hK9 := hK.sub (tys' := []) [] rfl
      exact W.zret (v := 1) hx hb hr (by decide) (fun t ht hW => ⟨⟨1, ([], []), rfl, ⟨rfl, bF_t ⟨hh_3, i_nlt.mp c_11, c_18⟩⟩, by rw [ht]; exact hP9, va_K.moved hW.alike hK9, hD9⟩, hS.F ht⟩) hS.2.2 dX10_cell_36
    refine lv_iconst (v := 0) hx hb dX10_cell_21 (by decide) ?_
    have hP9 := hP.sub (ws' := []) [] rfl
    have hD9 := hD.sub (ws' := []) [] (by decide) rfl
    have hK9 := hK.sub (tys' := []) [] rfl
    exact W.zret (v := 0) hx hb hr (by decide) (fun t ht hW => ⟨⟨0, ([], []), rfl, ⟨rfl, bF_f (fun q => c_18 q.2.2)⟩, by rw [ht]; exact hP9, va_K.moved hW.alike hK9, hD9⟩, hS.F ht⟩) hS.2.2 dX10_cell_22
  cases hu
  have hP : va_P (dC, dI) vwCl [(h, .inr (9, [.ref aT, .ref aB, .ref aS, .ref aR, .ref aF, .ref aC, .ref aX])), (aS, .inr (6, [.ref ce, .ref pl, .int 1, .int 0])), (ce, .inl (cI, 2048, .inl (fun _ => 0))), (pl, .inl (cI, 128, .inl (fun _ => 0)))] H := hP
  have hD : va_D A [(h, .inr (9, [.ref aT, .ref aB, .ref aS, .ref aR, .ref aF, .ref aC, .ref aX])), (aS, .inr (6, [.ref ce, .ref pl, .int 1, .int 0])), (ce, .inl (cI, 2048, .inl (fun _ => 0))), (pl, .inl (cI, 128, .inl (fun _ => 0)))] := hD
  refine g_topi (y := 0) hr_3 ?_
  refine lv_if_eq (tgt := 21) hx hb dX10_cell_6 (by decide) (fun c_6 => ?_) (fun c_6 => absurd c_6 (by decide))
  refine lv_iconst (v := 0) hx hb dX10_cell_21 (by decide) ?_
  have hP9 := hP.sub (ws' := []) [] rfl
  have hD9 := hD.sub (ws' := []) [] (by decide) rfl
  have hK9 := hK.sub (tys' := []) [] rfl
  exact W.zret (v := 0) hx hb hr (by decide) (fun t ht hW => ⟨⟨0, ([], []), rfl, ⟨rfl, bF_f (fun q => hh_3 q.1)⟩, by rw [ht]; exact hP9, va_K.moved hW.alike hK9, hD9⟩, hS.F ht⟩) hS.2.2 dX10_cell_22

set_option maxHeartbeats 400000 in
set_option maxRecDepth 100000 in
/-- cellOf, first -/
theorem f_cellOf (l : Launch) (dC : Nat → ClassId) (dI : Nat → Nat → Nat) (sz : Nat) (h aT aB aS aR aF aC aX : Nat) (ce pl : Nat) (cI : ClassId) (x1 x2 x3 : Int32) : Met l yX10_cellOf (wsG (.code yX10_cellOf cX10_cellOf 4 (some .int))) ({ frames := 3, cells := 0, slots := 0, locals := 66 }) (va_Pc [.ref h, .int x1, .int x2, .int x3] (gP (dC, dI) [(cI, .int)] [(h, .inr (9, [.ref aT, .ref aB, .ref aS, .ref aR, .ref aF, .ref aC, .ref aX])), (aS, .inr (6, [.ref ce, .ref pl, .int 1, .int 0])), (ce, .inl (cI, 2048, .inl (fun _ => 0))), (pl, .inl (cI, 128, .inl (fun _ => 0)))] sz)) (va_Qi (fun (r : Int32) (u : va_W × gT) => u = ([], []) ∧ r = cofF x1 x2 x3) (gB (dC, dI) (va_A [(h, .inr (9, [.ref aT, .ref aB, .ref aS, .ref aR, .ref aF, .ref aC, .ref aX])), (aS, .inr (6, [.ref ce, .ref pl, .int 1, .int 0])), (ce, .inl (cI, 2048, .inl (fun _ => 0))), (pl, .inl (cI, 128, .inl (fun _ => 0)))] sz)) (va_A [(h, .inr (9, [.ref aT, .ref aB, .ref aS, .ref aR, .ref aF, .ref aC, .ref aX])), (aS, .inr (6, [.ref ce, .ref pl, .int 1, .int 0])), (ce, .inl (cI, 2048, .inl (fun _ => 0))), (pl, .inl (cI, 128, .inl (fun _ => 0)))] sz)) 0 0 (va_A [(h, .inr (9, [.ref aT, .ref aB, .ref aS, .ref aR, .ref aF, .ref aC, .ref aX])), (aS, .inr (6, [.ref ce, .ref pl, .int 1, .int 0])), (ce, .inl (cI, 2048, .inl (fun _ => 0))), (pl, .inl (cI, 128, .inl (fun _ => 0)))] sz) := by
  refine Met.ofW (cc := cX10_cellOf) (maxL := 4) (ret := (some .int)) (by decide) rfl ?_
  intro p e s m args below meth c s₁ B hml hv
  obtain ⟨rfl, hsz, hP, hK, hD0, hN, hZ⟩ := hv
  have hx := B.exec
  have hb := B.bytes
  have hr := B.returns
  have hts := atoms_spec (ws := (wsG (.code yX10_cellOf cX10_cellOf 4 (some .int)))) B.pre
  have hown : s.vm.findClass RX10 = some m.cls := findClass_of_methodNamed B.named
  have hlocks := B.notSynchronized
  subst hsz
  have hD := hD0.self (sz := s.heap.size)
  generalize hAe : va_A [(h, .inr (9, [.ref aT, .ref aB, .ref aS, .ref aR, .ref aF, .ref aC, .ref aX])), (aS, .inr (6, [.ref ce, .ref pl, .int 1, .int 0])), (ce, .inl (cI, 2048, .inl (fun _ => 0))), (pl, .inl (cI, 128, .inl (fun _ => 0)))] s.heap.size = A at hD hZ ⊢
  have hA : ∀ q : Nat, s.heap.size ≤ q → A q := fun q h => by rw [← hAe]; exact Or.inr h
  have hl := lv_entry ([.ref h, .int x1, .int x2, .int x3]) (n := 4) (Nat.le_of_ble_eq_true rfl)
  rw [lg_entry_eq]
  generalize (lg_sl ([.ref h, .int x1, .int x2, .int x3]) ++ List.replicate (4 - (lg_sl ([.ref h, .int x1, .int x2, .int x3])).length) Slot.unset).toArray = ls at hl ⊢
  have hl : lv_has ls 4 [(0, .ref h), (1, .int x1), (2, .int x2), (3, .int x3)] := hl
  refine g_start (A := A) hP (fun H locs hP hS => ?_)
  refine lv_iload_n hx hb dX10_cellOf_0 rfl (lv_at hl 1 rfl) ?_
  refine lv_iload_n hx hb dX10_cellOf_1 rfl (lv_at hl 2 rfl) ?_
  refine lv_iload_n hx hb dX10_cellOf_2 rfl (lv_at hl 3 rfl) ?_
  refine g_calli (wr := [(h, .inr (9, [.ref aT, .ref aB, .ref aS, .ref aR, .ref aF, .ref aC, .ref aX])), (aS, .inr (6, [.ref ce, .ref pl, .int 1, .int 0])), (ce, .inl (cI, 2048, .inl (fun _ => 0))), (pl, .inl (cI, 128, .inl (fun _ => 0)))]) (va_runS (As := [.int x1, .int x2, .int x3]) (rest := []) ⟨hx, hb, hml, hown, hts⟩ (c_hasCell l dC dI H.size x1 x2 x3 ) (va_cwS 3 hts (gG_S kw_572 kw_365 kw_26 kw_366) rfl rfl rfl (by decide +kernel) ⟨Nat.le_of_ble_eq_true rfl, Nat.le_of_ble_eq_true rfl⟩) (g_preS hP hD hK hS hA hN hZ [] (by decide) rfl [] rfl) rfl rfl hl.1 rfl (lv_room (Nat.le_of_ble_eq_true rfl)) dX10_cellOf_3 ⟨Nat.le_of_ble_eq_true rfl, Nat.le_of_ble_eq_true rfl⟩) hP hD hK hS hA [] [0, 1, 2, 3] rfl rfl (by decide) (by decide) (fun r_3 w ty1 H locs hw_3 hP hD _ hS => ?_)
  rcases hw_3 with ⟨hu, hr_3, hh_3⟩ | ⟨hu, hr_3, hh_3⟩
  · cases hu
    have hP : va_P (dC, dI) vwCl [(h, .inr (9, [.ref aT, .ref aB, .ref aS, .ref aR, .ref aF, .ref aC, .ref aX])), (aS, .inr (6, [.ref ce, .ref pl, .int 1, .int 0])), (ce, .inl (cI, 2048, .inl (fun _ => 0))), (pl, .inl (cI, 128, .inl (fun _ => 0)))] H := hP
    have hD : va_D A [(h, .inr (9, [.ref aT, .ref aB, .ref aS, .ref aR, .ref aF, .ref aC, .ref aX])), (aS, .inr (6, [.ref ce, .ref pl, .int 1, .int 0])), (ce, .inl (cI, 2048, .inl (fun _ => 0))), (pl, .inl (cI, 128, .inl (fun _ => 0)))] := hD
    refine g_topi (y := 1) hr_3 ?_
    obtain ⟨a, b, d, ha, hb0, hd, e1, e2, e3⟩ := cells_n hh_3
    subst e1 e2 e3
    refine lv_if_eq (tgt := 22) hx hb dX10_cellOf_6 (by decide) (fun c_6 => absurd c_6 (by decide)) (fun c_6 => ?_)
    refine lv_aload_n hx hb dX10_cellOf_9 rfl (lv_at hl 0 rfl) ?_
    refine va_get (D := (dC, dI)) (ci := 9) (v := .ref aS) (C := RX10) (T := TX10) (N := 7) hx hb hts iwX10 hown hK hP 0 rfl rfl 2 (by decide) (hts (.fieldLink RX10 26 "ModulePlayer" "score" "LModulePlayer$Score;") (List.mem_cons_of_mem _ kw_27)) (fun _ h9 => h9) rfl dX10_cellOf_10 ?_
    refine lv_iload_n hx hb dX10_cellOf_13 rfl (lv_at hl 1 rfl) ?_
    refine lv_iload_n hx hb dX10_cellOf_14 rfl (lv_at hl 2 rfl) ?_
    refine lv_iload_n hx hb dX10_cellOf_15 rfl (lv_at hl 3 rfl) ?_
    refine g_calli (wr := [(h, .inr (9, [.ref aT, .ref aB, .ref aS, .ref aR, .ref aF, .ref aC, .ref aX])), (pl, .inl (cI, 128, .inl (fun _ => 0)))]) (va_runV (As := [.int (nI a), .int (nI b), .int (nI d)]) (rest := []) ⟨hx, hb, hml, hown, hts⟩ (c_getCell l dC dI H.size aS ce pl 1 0 cI (fun _ => 0) a b d (ha) (hb0) (hd)) (cwV 3 hts (gG_V kw_586 kw_482 kw_483 kw_26 kw_484) rfl rfl rfl (by decide +kernel) ⟨Nat.le_of_ble_eq_true rfl, Nat.le_of_ble_eq_true rfl⟩) (g_preV (C := RX6) (T := TX6) (N := 4) hP hD hK hS hA hN hZ (q0 := 1) rfl rfl [1, 2] (by decide) rfl [0] rfl) rfl rfl hl.1 rfl (lv_room (Nat.le_of_ble_eq_true rfl)) dX10_cellOf_16 ⟨Nat.le_of_ble_eq_true rfl, Nat.le_of_ble_eq_true rfl⟩) hP hD hK hS hA [1, 2] [0, 3] rfl rfl (by decide) (by decide) (fun r_16 w ty1 H locs hw_16 hP hD _ hS => ?_)
    rcases hw_16 with ⟨hu, hr_16⟩
    cases hu
    have hP : va_P (dC, dI) vwCl [(h, .inr (9, [.ref aT, .ref aB, .ref aS, .ref aR, .ref aF, .ref aC, .ref aX])), (pl, .inl (cI, 128, .inl (fun _ => 0))), (aS, .inr (6, [.ref ce, .ref pl, .int 1, .int 0])), (ce, .inl (cI, 2048, .inl (fun _ => 0)))] H := hP
    have hD : va_D A [(h, .inr (9, [.ref aT, .ref aB, .ref aS, .ref aR, .ref aF, .ref aC, .ref aX])), (pl, .inl (cI, 128, .inl (fun _ => 0))), (aS, .inr (6, [.ref ce, .ref pl, .int 1, .int 0])), (ce, .inl (cI, 2048, .inl (fun _ => 0)))] := hD
    refine g_topi (y := 0) hr_16 ?_
    refine lv_goto (tgt := 23) hx hb dX10_cellOf_19 (by decide) ?_
    have hP9 := hP.sub (ws' := []) [] rfl
    have hD9 := hD.sub (ws' := []) [] (by decide) rfl
    have hK9 := hK.sub (tys' := []) [] rfl
    exact W.iret (v := 0) hx hb hr (fun t ht hW => ⟨⟨0, ([], []), rfl, ⟨rfl, cofF_t hh_3⟩, by rw [ht]; exact hP9, va_K.moved hW.alike hK9, hD9⟩, hS.F ht⟩) hS.2.2 dX10_cellOf_23
  cases hu
  have hP : va_P (dC, dI) vwCl [(h, .inr (9, [.ref aT, .ref aB, .ref aS, .ref aR, .ref aF, .ref aC, .ref aX])), (aS, .inr (6, [.ref ce, .ref pl, .int 1, .int 0])), (ce, .inl (cI, 2048, .inl (fun _ => 0))), (pl, .inl (cI, 128, .inl (fun _ => 0)))] H := hP
  have hD : va_D A [(h, .inr (9, [.ref aT, .ref aB, .ref aS, .ref aR, .ref aF, .ref aC, .ref aX])), (aS, .inr (6, [.ref ce, .ref pl, .int 1, .int 0])), (ce, .inl (cI, 2048, .inl (fun _ => 0))), (pl, .inl (cI, 128, .inl (fun _ => 0)))] := hD
  refine g_topi (y := 0) hr_3 ?_
  refine lv_if_eq (tgt := 22) hx hb dX10_cellOf_6 (by decide) (fun c_6 => ?_) (fun c_6 => absurd c_6 (by decide))
  refine lv_iconst (v := (-1)) hx hb dX10_cellOf_22 (by decide) ?_
  have hP9 := hP.sub (ws' := []) [] rfl
  have hD9 := hD.sub (ws' := []) [] (by decide) rfl
  have hK9 := hK.sub (tys' := []) [] rfl
  exact W.iret (v := (-1)) hx hb hr (fun t ht hW => ⟨⟨(-1), ([], []), rfl, ⟨rfl, cofF_f hh_3⟩, by rw [ht]; exact hP9, va_K.moved hW.alike hK9, hD9⟩, hS.F ht⟩) hS.2.2 dX10_cellOf_23

set_option maxHeartbeats 400000 in
set_option maxRecDepth 100000 in
/-- place, first -/
theorem f_place (l : Launch) (dC : Nat → ClassId) (dI : Nat → Nat → Nat) (sz : Nat) (h aT aB aS aR aF aC aX : Nat) (ce pl : Nat) (cI : ClassId) (i x : Int32) : Met l yX10_place (wsG (.code yX10_place cX10_place 3 (some .boolean))) ({ frames := 1, cells := 0, slots := 0, locals := 21 }) (va_Pc [.ref h, .int i, .int x] (gP (dC, dI) [(cI, .int)] [(h, .inr (9, [.ref aT, .ref aB, .ref aS, .ref aR, .ref aF, .ref aC, .ref aX])), (aS, .inr (6, [.ref ce, .ref pl, .int 1, .int 0])), (ce, .inl (cI, 2048, .inl (fun _ => 0))), (pl, .inl (cI, 128, .inl (fun _ => 0)))] sz)) (va_Qi (fun (r : Int32) (u : va_W × gT) => u = ([], []) ∧ r = bF ((0 ≤ i ∧ i < 128) ∧ (0 ≤ x ∧ x < 8))) (gB (dC, dI) (va_A [(h, .inr (9, [.ref aT, .ref aB, .ref aS, .ref aR, .ref aF, .ref aC, .ref aX])), (aS, .inr (6, [.ref ce, .ref pl, .int 1, .int 0])), (ce, .inl (cI, 2048, .inl (fun _ => 0))), (pl, .inl (cI, 128, .inl (fun _ => 0)))] sz)) (va_A [(h, .inr (9, [.ref aT, .ref aB, .ref aS, .ref aR, .ref aF, .ref aC, .ref aX])), (aS, .inr (6, [.ref ce, .ref pl, .int 1, .int 0])), (ce, .inl (cI, 2048, .inl (fun _ => 0))), (pl, .inl (cI, 128, .inl (fun _ => 0)))] sz)) 0 0 (va_A [(h, .inr (9, [.ref aT, .ref aB, .ref aS, .ref aR, .ref aF, .ref aC, .ref aX])), (aS, .inr (6, [.ref ce, .ref pl, .int 1, .int 0])), (ce, .inl (cI, 2048, .inl (fun _ => 0))), (pl, .inl (cI, 128, .inl (fun _ => 0)))] sz) := by
  refine Met.ofW (cc := cX10_place) (maxL := 3) (ret := (some .boolean)) (by decide) rfl ?_
  intro p e s m args below meth c s₁ B hml hv
  obtain ⟨rfl, hsz, hP, hK, hD0, hN, hZ⟩ := hv
  have hx := B.exec
  have hb := B.bytes
  have hr := B.returns
  have hts := atoms_spec (ws := (wsG (.code yX10_place cX10_place 3 (some .boolean)))) B.pre
  have hown : s.vm.findClass RX10 = some m.cls := findClass_of_methodNamed B.named
  have hlocks := B.notSynchronized
  subst hsz
  have hD := hD0.self (sz := s.heap.size)
  generalize hAe : va_A [(h, .inr (9, [.ref aT, .ref aB, .ref aS, .ref aR, .ref aF, .ref aC, .ref aX])), (aS, .inr (6, [.ref ce, .ref pl, .int 1, .int 0])), (ce, .inl (cI, 2048, .inl (fun _ => 0))), (pl, .inl (cI, 128, .inl (fun _ => 0)))] s.heap.size = A at hD hZ ⊢
  have hA : ∀ q : Nat, s.heap.size ≤ q → A q := fun q h => by rw [← hAe]; exact Or.inr h
  have hl := lv_entry ([.ref h, .int i, .int x]) (n := 3) (Nat.le_of_ble_eq_true rfl)
  rw [lg_entry_eq]
  generalize (lg_sl ([.ref h, .int i, .int x]) ++ List.replicate (3 - (lg_sl ([.ref h, .int i, .int x])).length) Slot.unset).toArray = ls at hl ⊢
  have hl : lv_has ls 3 [(0, .ref h), (1, .int i), (2, .int x)] := hl
  refine g_start (A := A) hP (fun H locs hP hS => ?_)
  refine lv_iload_n hx hb dX10_place_0 rfl (lv_at hl 1 rfl) ?_
  refine lv_sipush (v := 128) hx hb dX10_place_1 (by decide) ?_
  refine g_calli (wr := [(h, .inr (9, [.ref aT, .ref aB, .ref aS, .ref aR, .ref aF, .ref aC, .ref aX])), (aS, .inr (6, [.ref ce, .ref pl, .int 1, .int 0])), (ce, .inl (cI, 2048, .inl (fun _ => 0))), (pl, .inl (cI, 128, .inl (fun _ => 0)))]) (va_runS (As := [.int i, .int 128]) (rest := []) ⟨hx, hb, hml, hown, hts⟩ (c_isIn l dC dI H.size i 128 ) (va_cwS 2 hts (gG_S kw_273 kw_247 kw_2 kw_248) rfl rfl rfl (by decide +kernel) ⟨Nat.le_of_ble_eq_true rfl, Nat.le_of_ble_eq_true rfl⟩) (g_preS hP hD hK hS hA hN hZ [] (by decide) rfl [] rfl) rfl rfl hl.1 rfl (lv_room (Nat.le_of_ble_eq_true rfl)) dX10_place_4 ⟨Nat.le_of_ble_eq_true rfl, Nat.le_of_ble_eq_true rfl⟩) hP hD hK hS hA [] [0, 1, 2, 3] rfl rfl (by decide) (by decide) (fun r_4 w ty1 H locs hw_4 hP hD _ hS => ?_)
  rcases hw_4 with ⟨hu, hr_4, h_4⟩ | ⟨hu, hr_4, h_4⟩
  · cases hu
    have hP : va_P (dC, dI) vwCl [(h, .inr (9, [.ref aT, .ref aB, .ref aS, .ref aR, .ref aF, .ref aC, .ref aX])), (aS, .inr (6, [.ref ce, .ref pl, .int 1, .int 0])), (ce, .inl (cI, 2048, .inl (fun _ => 0))), (pl, .inl (cI, 128, .inl (fun _ => 0)))] H := hP
    have hD : va_D A [(h, .inr (9, [.ref aT, .ref aB, .ref aS, .ref aR, .ref aF, .ref aC, .ref aX])), (aS, .inr (6, [.ref ce, .ref pl, .int 1, .int 0])), (ce, .inl (cI, 2048, .inl (fun _ => 0))), (pl, .inl (cI, 128, .inl (fun _ => 0)))] := hD
    refine g_topi (y := 1) hr_4 ?_
    obtain ⟨j, hj, hij⟩ := i_in (by decide) h_4.1 h_4.2
    subst hij
    refine lv_if_eq (tgt := 19) hx hb dX10_place_7 (by decide) (fun c_7 => absurd c_7 (by decide)) (fun c_7 => ?_)
    refine lv_iload_n hx hb dX10_place_10 rfl (lv_at hl 2 rfl) ?_
    refine lv_bipush (v := 8) hx hb dX10_place_11 (by decide) ?_
    refine g_calli (wr := [(h, .inr (9, [.ref aT, .ref aB, .ref aS, .ref aR, .ref aF, .ref aC, .ref aX])), (aS, .inr (6, [.ref ce, .ref pl, .int 1, .int 0])), (ce, .inl (cI, 2048, .inl (fun _ => 0))), (pl, .inl (cI, 128, .inl (fun _ => 0)))]) (va_runS (As := [.int x, .int 8]) (rest := []) ⟨hx, hb, hml, hown, hts⟩ (c_isIn l dC dI H.size x 8 ) (va_cwS 2 hts (gG_S kw_273 kw_247 kw_2 kw_248) rfl rfl rfl (by decide +kernel) ⟨Nat.le_of_ble_eq_true rfl, Nat.le_of_ble_eq_true rfl⟩) (g_preS hP hD hK hS hA hN hZ [] (by decide) rfl [] rfl) rfl rfl hl.1 rfl (lv_room (Nat.le_of_ble_eq_true rfl)) dX10_place_13 ⟨Nat.le_of_ble_eq_true rfl, Nat.le_of_ble_eq_true rfl⟩) hP hD hK hS hA [] [0, 1, 2, 3] rfl rfl (by decide) (by decide) (fun r_13 w ty1 H locs hw_13 hP hD _ hS => ?_)
    rcases hw_13 with ⟨hu, hr_13, h_13⟩ | ⟨hu, hr_13, h_13⟩
    · cases hu
      have hP : va_P (dC, dI) vwCl [(h, .inr (9, [.ref aT, .ref aB, .ref aS, .ref aR, .ref aF, .ref aC, .ref aX])), (aS, .inr (6, [.ref ce, .ref pl, .int 1, .int 0])), (ce, .inl (cI, 2048, .inl (fun _ => 0))), (pl, .inl (cI, 128, .inl (fun _ => 0)))] H := hP
      have hD : va_D A [(h, .inr (9, [.ref aT, .ref aB, .ref aS, .ref aR, .ref aF, .ref aC, .ref aX])), (aS, .inr (6, [.ref ce, .ref pl, .int 1, .int 0])), (ce, .inl (cI, 2048, .inl (fun _ => 0))), (pl, .inl (cI, 128, .inl (fun _ => 0)))] := hD
      refine g_topi (y := 1) hr_13 ?_
      refine lv_if_ne (tgt := 21) hx hb dX10_place_16 (by decide) (fun c_16 => ?_) (fun c_16 => absurd c_16 (by decide))
      refine lv_aload_n hx hb dX10_place_21 rfl (lv_at hl 0 rfl) ?_
      refine va_get (D := (dC, dI)) (ci := 9) (v := .ref aS) (C := RX10) (T := TX10) (N := 7) hx hb hts iwX10 hown hK hP 0 rfl rfl 2 (by decide) (hts (.fieldLink RX10 26 "ModulePlayer" "score" "LModulePlayer$Score;") (List.mem_cons_of_mem _ kw_27)) (fun _ h9 => h9) rfl dX10_place_22 ?_
      refine va_get (D := (dC, dI)) (ci := 6) (v := .ref pl) (C := RX6) (T := TX6) (N := 4) hx hb hts iwX6 hown hK hP 1 rfl rfl 1 (by decide) (hts (.fieldLink RX10 168 "ModulePlayer$Score" "places" "[I") (List.mem_cons_of_mem _ kw_595)) (fun _ h9 => h9) rfl dX10_place_25 ?_
      refine lv_iload_n hx hb dX10_place_28 rfl (lv_at hl 1 rfl) ?_
      refine lv_iload_n hx hb dX10_place_29 rfl (lv_at hl 2 rfl) ?_
      refine g_iast hx hb hK hP hD hS 3 0 rfl rfl j (nI_clamp (Nat.lt_trans (show j < 128 from hj) (by decide))) (vp_in_nI (hj) (by decide)) dX10_place_30 (fun H locs hP hD hS => ?_)
      have hP : va_P (dC, dI) vwCl [(h, .inr (9, [.ref aT, .ref aB, .ref aS, .ref aR, .ref aF, .ref aC, .ref aX])), (aS, .inr (6, [.ref ce, .ref pl, .int 1, .int 0])), (ce, .inl (cI, 2048, .inl (fun _ => 0))), (pl, .inl (cI, 128, .inl (upd (fun _ => 0) j x)))] H := hP
      have hD : va_D A [(h, .inr (9, [.ref aT, .ref aB, .ref aS, .ref aR, .ref aF, .ref aC, .ref aX])), (aS, .inr (6, [.ref ce, .ref pl, .int 1, .int 0])), (ce, .inl (cI, 2048, .inl (fun _ => 0))), (pl, .inl (cI, 128, .inl (upd (fun _ => 0) j x)))] := hD
      refine lv_iconst (v := 1) hx hb dX10_place_31 (by decide) ?_
      have hP9 := hP.sub (ws' := []) [] rfl
      have hD9 := hD.sub (ws' := []) [] (by decide) rfl
      have hK9 := hK.sub (tys' := []) [] rfl
      exact W.zret (v := 1) hx hb hr (by decide) (fun t ht hW => ⟨⟨1, ([], []), rfl, ⟨rfl, bF_t ⟨h_4, h_13⟩⟩, by rw [ht]; exact hP9, va_K.moved hW.alike hK9, hD9⟩, hS.F ht⟩) hS.2.2 dX10_place_32
    cases hu
    have hP : va_P (dC, dI) vwCl [(h, .inr (9, [.ref aT, .ref aB, .ref aS, .ref aR, .ref aF, .ref aC, .ref aX])), (aS, .inr (6, [.ref ce, .ref pl, .int 1, .int 0])), (ce, .inl (cI, 2048, .inl (fun _ => 0))), (pl, .inl (cI, 128, .inl (fun _ => 0)))] H := hP
    have hD : va_D A [(h, .inr (9, [.ref aT, .ref aB, .ref aS, .ref aR, .ref aF, .ref aC, .ref aX])), (aS, .inr (6, [.ref ce, .ref pl, .int 1, .int 0])), (ce, .inl (cI, 2048, .inl (fun _ => 0))), (pl, .inl (cI, 128, .inl (fun _ => 0)))] := hD
    refine g_topi (y := 0) hr_13 ?_
    refine lv_if_ne (tgt := 21) hx hb dX10_place_16 (by decide) (fun c_16 => absurd c_16 (by decide)) (fun c_16 => ?_)
    refine lv_iconst (v := 0) hx hb dX10_place_19 (by decide) ?_
    have hP9 := hP.sub (ws' := []) [] rfl
    have hD9 := hD.sub (ws' := []) [] (by decide) rfl
    have hK9 := hK.sub (tys' := []) [] rfl
    exact W.zret (v := 0) hx hb hr (by decide) (fun t ht hW => ⟨⟨0, ([], []), rfl, ⟨rfl, bF_f (fun q => h_13 q.2)⟩, by rw [ht]; exact hP9, va_K.moved hW.alike hK9, hD9⟩, hS.F ht⟩) hS.2.2 dX10_place_20
  cases hu
  have hP : va_P (dC, dI) vwCl [(h, .inr (9, [.ref aT, .ref aB, .ref aS, .ref aR, .ref aF, .ref aC, .ref aX])), (aS, .inr (6, [.ref ce, .ref pl, .int 1, .int 0])), (ce, .inl (cI, 2048, .inl (fun _ => 0))), (pl, .inl (cI, 128, .inl (fun _ => 0)))] H := hP
  have hD : va_D A [(h, .inr (9, [.ref aT, .ref aB, .ref aS, .ref aR, .ref aF, .ref aC, .ref aX])), (aS, .inr (6, [.ref ce, .ref pl, .int 1, .int 0])), (ce, .inl (cI, 2048, .inl (fun _ => 0))), (pl, .inl (cI, 128, .inl (fun _ => 0)))] := hD
  refine g_topi (y := 0) hr_4 ?_
  refine lv_if_eq (tgt := 19) hx hb dX10_place_7 (by decide) (fun c_7 => ?_) (fun c_7 => absurd c_7 (by decide))
  refine lv_iconst (v := 0) hx hb dX10_place_19 (by decide) ?_
  have hP9 := hP.sub (ws' := []) [] rfl
  have hD9 := hD.sub (ws' := []) [] (by decide) rfl
  have hK9 := hK.sub (tys' := []) [] rfl
  exact W.zret (v := 0) hx hb hr (by decide) (fun t ht hW => ⟨⟨0, ([], []), rfl, ⟨rfl, bF_f (fun q => h_4 q.1)⟩, by rw [ht]; exact hP9, va_K.moved hW.alike hK9, hD9⟩, hS.F ht⟩) hS.2.2 dX10_place_20

set_option maxHeartbeats 400000 in
set_option maxRecDepth 100000 in
/-- song, first -/
theorem f_song (l : Launch) (dC : Nat → ClassId) (dI : Nat → Nat → Nat) (sz : Nat) (h aT aB aS aR aF aC aX : Nat) (ce pl : Nat) (cI : ClassId) (n x : Int32) : Met l yX10_song (wsG (.code yX10_song cX10_song 3 (some .boolean))) ({ frames := 0, cells := 0, slots := 0, locals := 0 }) (va_Pc [.ref h, .int n, .int x] (gP (dC, dI) [(cI, .int)] [(h, .inr (9, [.ref aT, .ref aB, .ref aS, .ref aR, .ref aF, .ref aC, .ref aX])), (aS, .inr (6, [.ref ce, .ref pl, .int 1, .int 0])), (ce, .inl (cI, 2048, .inl (fun _ => 0))), (pl, .inl (cI, 128, .inl (fun _ => 0)))] sz)) (va_Qi (fun (r : Int32) (u : va_W × gT) => u = ([], []) ∧ r = bF (songP n x)) (gB (dC, dI) (va_A [(h, .inr (9, [.ref aT, .ref aB, .ref aS, .ref aR, .ref aF, .ref aC, .ref aX])), (aS, .inr (6, [.ref ce, .ref pl, .int 1, .int 0])), (ce, .inl (cI, 2048, .inl (fun _ => 0))), (pl, .inl (cI, 128, .inl (fun _ => 0)))] sz)) (va_A [(h, .inr (9, [.ref aT, .ref aB, .ref aS, .ref aR, .ref aF, .ref aC, .ref aX])), (aS, .inr (6, [.ref ce, .ref pl, .int 1, .int 0])), (ce, .inl (cI, 2048, .inl (fun _ => 0))), (pl, .inl (cI, 128, .inl (fun _ => 0)))] sz)) 0 0 (va_A [(h, .inr (9, [.ref aT, .ref aB, .ref aS, .ref aR, .ref aF, .ref aC, .ref aX])), (aS, .inr (6, [.ref ce, .ref pl, .int 1, .int 0])), (ce, .inl (cI, 2048, .inl (fun _ => 0))), (pl, .inl (cI, 128, .inl (fun _ => 0)))] sz) := by
  refine Met.ofW (cc := cX10_song) (maxL := 3) (ret := (some .boolean)) (by decide) rfl ?_
  intro p e s m args below meth c s₁ B hml hv
  obtain ⟨rfl, hsz, hP, hK, hD0, hN, hZ⟩ := hv
  have hx := B.exec
  have hb := B.bytes
  have hr := B.returns
  have hts := atoms_spec (ws := (wsG (.code yX10_song cX10_song 3 (some .boolean)))) B.pre
  have hown : s.vm.findClass RX10 = some m.cls := findClass_of_methodNamed B.named
  have hlocks := B.notSynchronized
  subst hsz
  have hD := hD0.self (sz := s.heap.size)
  generalize hAe : va_A [(h, .inr (9, [.ref aT, .ref aB, .ref aS, .ref aR, .ref aF, .ref aC, .ref aX])), (aS, .inr (6, [.ref ce, .ref pl, .int 1, .int 0])), (ce, .inl (cI, 2048, .inl (fun _ => 0))), (pl, .inl (cI, 128, .inl (fun _ => 0)))] s.heap.size = A at hD hZ ⊢
  have hA : ∀ q : Nat, s.heap.size ≤ q → A q := fun q h => by rw [← hAe]; exact Or.inr h
  have hl := lv_entry ([.ref h, .int n, .int x]) (n := 3) (Nat.le_of_ble_eq_true rfl)
  rw [lg_entry_eq]
  generalize (lg_sl ([.ref h, .int n, .int x]) ++ List.replicate (3 - (lg_sl ([.ref h, .int n, .int x])).length) Slot.unset).toArray = ls at hl ⊢
  have hl : lv_has ls 3 [(0, .ref h), (1, .int n), (2, .int x)] := hl
  refine g_start (A := A) hP (fun H locs hP hS => ?_)
  refine lv_iload_n hx hb dX10_song_0 rfl (lv_at hl 1 rfl) ?_
  refine lv_iconst (v := 1) hx hb dX10_song_1 (by decide) ?_
  refine lv_icmp_lt (tgt := 23) hx hb dX10_song_2 (by decide) (fun c_2 => ?_) (fun c_2 => ?_)
  · refine lv_iconst (v := 0) hx hb dX10_song_23 (by decide) ?_
    have hP9 := hP.sub (ws' := []) [] rfl
    have hD9 := hD.sub (ws' := []) [] (by decide) rfl
    have hK9 := hK.sub (tys' := []) [] rfl
    exact W.zret (v := 0) hx hb hr (by decide) (fun t ht hW => ⟨⟨0, ([], []), rfl, ⟨rfl, bF_f (fun q => i_nle.mpr c_2 q.1.1)⟩, by rw [ht]; exact hP9, va_K.moved hW.alike hK9, hD9⟩, hS.F ht⟩) hS.2.2 dX10_song_24
  refine lv_iload_n hx hb dX10_song_5 rfl (lv_at hl 1 rfl) ?_
  refine lv_sipush (v := 128) hx hb dX10_song_6 (by decide) ?_
  refine lv_icmp_gt (tgt := 23) hx hb dX10_song_9 (by decide) (fun c_9 => ?_) (fun c_9 => ?_)
  · refine lv_iconst (v := 0) hx hb dX10_song_23 (by decide) ?_
    have hP9 := hP.sub (ws' := []) [] rfl
    have hD9 := hD.sub (ws' := []) [] (by decide) rfl
    have hK9 := hK.sub (tys' := []) [] rfl
    exact W.zret (v := 0) hx hb hr (by decide) (fun t ht hW => ⟨⟨0, ([], []), rfl, ⟨rfl, bF_f (fun q => i_nle.mpr c_9 q.1.2)⟩, by rw [ht]; exact hP9, va_K.moved hW.alike hK9, hD9⟩, hS.F ht⟩) hS.2.2 dX10_song_24
  refine lv_iload_n hx hb dX10_song_12 rfl (lv_at hl 2 rfl) ?_
  refine lv_if_lt (tgt := 23) hx hb dX10_song_13 (by decide) (fun c_13 => ?_) (fun c_13 => ?_)
  · refine lv_iconst (v := 0) hx hb dX10_song_23 (by decide) ?_
    have hP9 := hP.sub (ws' := []) [] rfl
    have hD9 := hD.sub (ws' := []) [] (by decide) rfl
    have hK9 := hK.sub (tys' := []) [] rfl
    exact W.zret (v := 0) hx hb hr (by decide) (fun t ht hW => ⟨⟨0, ([], []), rfl, ⟨rfl, bF_f (fun q => i_nle.mpr c_13 q.2.1)⟩, by rw [ht]; exact hP9, va_K.moved hW.alike hK9, hD9⟩, hS.F ht⟩) hS.2.2 dX10_song_24
  refine lv_iload_n hx hb dX10_song_16 rfl (lv_at hl 2 rfl) ?_
  refine lv_sipush (v := 255) hx hb dX10_song_17 (by decide) ?_
  refine lv_icmp_le (tgt := 25) hx hb dX10_song_20 (by decide) (fun c_20 => ?_) (fun c_20 => ?_)
  · refine lv_aload_n hx hb dX10_song_25 rfl (lv_at hl 0 rfl) ?_
    refine va_get (D := (dC, dI)) (ci := 9) (v := .ref aS) (C := RX10) (T := TX10) (N := 7) hx hb hts iwX10 hown hK hP 0 rfl rfl 2 (by decide) (hts (.fieldLink RX10 26 "ModulePlayer" "score" "LModulePlayer$Score;") (List.mem_cons_of_mem _ kw_27)) (fun _ h9 => h9) rfl dX10_song_26 ?_
    refine lv_iload_n hx hb dX10_song_29 rfl (lv_at hl 1 rfl) ?_
    refine va_put (D := (dC, dI)) (ci := 6) (v := .int n) (ty := tyX6 2) (C := RX6) (T := TX6) (N := 4) hx hb hts iwX6 tyX6 tyX6_ok nmX6 hown hK hP hD hS 1 rfl rfl 2 (by decide) (hts (.fieldLink RX10 172 "ModulePlayer$Score" "length" "I") (List.mem_cons_of_mem _ kw_604)) (fun _ h9 => h9) rfl (by decide +kernel) (rfl) (rfl) (Nat.le_of_ble_eq_true rfl) dX10_song_30 (fun H locs hP hD hS => ?_)
    have hP : va_P (dC, dI) vwCl [(h, .inr (9, [.ref aT, .ref aB, .ref aS, .ref aR, .ref aF, .ref aC, .ref aX])), (aS, .inr (6, [.ref ce, .ref pl, .int n, .int 0])), (ce, .inl (cI, 2048, .inl (fun _ => 0))), (pl, .inl (cI, 128, .inl (fun _ => 0)))] H := hP
    have hD : va_D A [(h, .inr (9, [.ref aT, .ref aB, .ref aS, .ref aR, .ref aF, .ref aC, .ref aX])), (aS, .inr (6, [.ref ce, .ref pl, .int n, .int 0])), (ce, .inl (cI, 2048, .inl (fun _ => 0))), (pl, .inl (cI, 128, .inl (fun _ => 0)))] := hD
    refine lv_aload_n hx hb dX10_song_33 rfl (lv_at hl 0 rfl) ?_
    refine va_get (D := (dC, dI)) (ci := 9) (v := .ref aS) (C := RX10) (T := TX10) (N := 7) hx hb hts iwX10 hown hK hP 0 rfl rfl 2 (by decide) (hts (.fieldLink RX10 26 "ModulePlayer" "score" "LModulePlayer$Score;") (List.mem_cons_of_mem _ kw_27)) (fun _ h9 => h9) rfl dX10_song_34 ?_
    refine lv_iload_n hx hb dX10_song_37 rfl (lv_at hl 2 rfl) ?_
    refine va_put (D := (dC, dI)) (ci := 6) (v := .int x) (ty := tyX6 3) (C := RX6) (T := TX6) (N := 4) hx hb hts iwX6 tyX6 tyX6_ok nmX6 hown hK hP hD hS 1 rfl rfl 3 (by decide) (hts (.fieldLink RX10 173 "ModulePlayer$Score" "restart" "I") (List.mem_cons_of_mem _ kw_605)) (fun _ h9 => h9) rfl (by decide +kernel) (rfl) (rfl) (Nat.le_of_ble_eq_true rfl) dX10_song_38 (fun H locs hP hD hS => ?_)
    have hP : va_P (dC, dI) vwCl [(h, .inr (9, [.ref aT, .ref aB, .ref aS, .ref aR, .ref aF, .ref aC, .ref aX])), (aS, .inr (6, [.ref ce, .ref pl, .int n, .int x])), (ce, .inl (cI, 2048, .inl (fun _ => 0))), (pl, .inl (cI, 128, .inl (fun _ => 0)))] H := hP
    have hD : va_D A [(h, .inr (9, [.ref aT, .ref aB, .ref aS, .ref aR, .ref aF, .ref aC, .ref aX])), (aS, .inr (6, [.ref ce, .ref pl, .int n, .int x])), (ce, .inl (cI, 2048, .inl (fun _ => 0))), (pl, .inl (cI, 128, .inl (fun _ => 0)))] := hD
    refine lv_iconst (v := 1) hx hb dX10_song_41 (by decide) ?_
    have hP9 := hP.sub (ws' := []) [] rfl
    have hD9 := hD.sub (ws' := []) [] (by decide) rfl
    have hK9 := hK.sub (tys' := []) [] rfl
    exact W.zret (v := 1) hx hb hr (by decide) (fun t ht hW => ⟨⟨1, ([], []), rfl, ⟨rfl, bF_t ⟨⟨i_nlt.mp c_2, i_nlt.mp c_9⟩, ⟨i_nlt.mp c_13, c_20⟩⟩⟩, by rw [ht]; exact hP9, va_K.moved hW.alike hK9, hD9⟩, hS.F ht⟩) hS.2.2 dX10_song_42
  refine lv_iconst (v := 0) hx hb dX10_song_23 (by decide) ?_
  have hP9 := hP.sub (ws' := []) [] rfl
  have hD9 := hD.sub (ws' := []) [] (by decide) rfl
  have hK9 := hK.sub (tys' := []) [] rfl
  exact W.zret (v := 0) hx hb hr (by decide) (fun t ht hW => ⟨⟨0, ([], []), rfl, ⟨rfl, bF_f (fun q => c_20 q.2.2)⟩, by rw [ht]; exact hP9, va_K.moved hW.alike hK9, hD9⟩, hS.F ht⟩) hS.2.2 dX10_song_24

set_option maxHeartbeats 400000 in
set_option maxRecDepth 100000 in
/-- refuse -/
theorem c_refuse (l : Launch) (dC : Nat → ClassId) (dI : Nat → Nat → Nat) (sz : Nat) (h : Nat) (x0 x1 a b : Int32) : Met l yX4_refuse (wsG (.code yX4_refuse cX4_refuse 3 (some .boolean))) ({ frames := 0, cells := 0, slots := 0, locals := 0 }) (va_Pc [.ref h, .int a, .int b] (gP (dC, dI) [] [(h, .inr (4, [.int x0, .int x1]))] sz)) (va_Qi (fun (r : Int32) (u : va_W × gT) => u = ([(h, .inr (4, [.int a, .int b]))], []) ∧ r = 0) (gB (dC, dI) (va_A [(h, .inr (4, [.int x0, .int x1]))] sz)) (va_A [(h, .inr (4, [.int x0, .int x1]))] sz)) 0 0 (va_A [(h, .inr (4, [.int x0, .int x1]))] sz) := by
  refine Met.ofW (cc := cX4_refuse) (maxL := 3) (ret := (some .boolean)) (by decide) rfl ?_
  intro p e s m args below meth c s₁ B hml hv
  obtain ⟨rfl, hsz, hP, hK, hD0, hN, hZ⟩ := hv
  have hx := B.exec
  have hb := B.bytes
  have hr := B.returns
  have hts := atoms_spec (ws := (wsG (.code yX4_refuse cX4_refuse 3 (some .boolean)))) B.pre
  have hown : s.vm.findClass RX4 = some m.cls := findClass_of_methodNamed B.named
  have hlocks := B.notSynchronized
  subst hsz
  have hD := hD0.self (sz := s.heap.size)
  generalize hAe : va_A [(h, .inr (4, [.int x0, .int x1]))] s.heap.size = A at hD hZ ⊢
  have hA : ∀ q : Nat, s.heap.size ≤ q → A q := fun q h => by rw [← hAe]; exact Or.inr h
  have hl := lv_entry ([.ref h, .int a, .int b]) (n := 3) (Nat.le_of_ble_eq_true rfl)
  rw [lg_entry_eq]
  generalize (lg_sl ([.ref h, .int a, .int b]) ++ List.replicate (3 - (lg_sl ([.ref h, .int a, .int b])).length) Slot.unset).toArray = ls at hl ⊢
  have hl : lv_has ls 3 [(0, .ref h), (1, .int a), (2, .int b)] := hl
  refine g_start (A := A) hP (fun H locs hP hS => ?_)
  refine lv_aload_n hx hb dX4_refuse_0 rfl (lv_at hl 0 rfl) ?_
  refine lv_iload_n hx hb dX4_refuse_1 rfl (lv_at hl 1 rfl) ?_
  refine va_put (D := (dC, dI)) (ci := 4) (v := .int a) (ty := tyX4 0) (C := RX4) (T := TX4) (N := 2) hx hb hts iwX4 tyX4 tyX4_ok nmX4 hown hK hP hD hS 0 rfl rfl 0 (by decide) (hts (.fieldLink RX4 11 "ModulePlayer$Reader" "fault" "I") (List.mem_cons_of_mem _ kw_71)) (fun _ h9 => h9) rfl (by decide +kernel) (rfl) (rfl) (Nat.le_of_ble_eq_true rfl) dX4_refuse_2 (fun H locs hP hD hS => ?_)
  have hP : va_P (dC, dI) vwCl [(h, .inr (4, [.int a, .int x1]))] H := hP
  have hD : va_D A [(h, .inr (4, [.int a, .int x1]))] := hD
  refine lv_aload_n hx hb dX4_refuse_5 rfl (lv_at hl 0 rfl) ?_
  refine lv_iload_n hx hb dX4_refuse_6 rfl (lv_at hl 2 rfl) ?_
  refine va_put (D := (dC, dI)) (ci := 4) (v := .int b) (ty := tyX4 1) (C := RX4) (T := TX4) (N := 2) hx hb hts iwX4 tyX4 tyX4_ok nmX4 hown hK hP hD hS 0 rfl rfl 1 (by decide) (hts (.fieldLink RX4 15 "ModulePlayer$Reader" "faultPlace" "I") (List.mem_cons_of_mem _ kw_72)) (fun _ h9 => h9) rfl (by decide +kernel) (rfl) (rfl) (Nat.le_of_ble_eq_true rfl) dX4_refuse_7 (fun H locs hP hD hS => ?_)
  have hP : va_P (dC, dI) vwCl [(h, .inr (4, [.int a, .int b]))] H := hP
  have hD : va_D A [(h, .inr (4, [.int a, .int b]))] := hD
  refine lv_iconst (v := 0) hx hb dX4_refuse_10 (by decide) ?_
  have hP9 := hP.sub (ws' := [(h, .inr (4, [.int a, .int b]))]) [0] rfl
  have hD9 := hD.sub (ws' := [(h, .inr (4, [.int a, .int b]))]) [0] (by decide) rfl
  have hK9 := hK.sub (tys' := []) [] rfl
  exact W.zret (v := 0) hx hb hr (by decide) (fun t ht hW => ⟨⟨0, ([(h, .inr (4, [.int a, .int b]))], []), rfl, ⟨rfl, rfl⟩, by rw [ht]; exact hP9, va_K.moved hW.alike hK9, hD9⟩, hS.F ht⟩) hS.2.2 dX4_refuse_11

set_option maxHeartbeats 400000 in
set_option maxRecDepth 100000 in
/-- accepts an empty tape? -/
theorem c_accepts1 (l : Launch) (dC : Nat → ClassId) (dI : Nat → Nat → Nat) (sz : Nat) (h aT tb : Nat) (x0 x1 : Int32) : Met l yX4_accepts (wsG (.code yX4_accepts cX4_accepts 3 (some .boolean))) ({ frames := 1, cells := 0, slots := 0, locals := 22 }) (va_Pc [.ref h, .ref aT] (gP (dC, dI) [] [(h, .inr (4, [.int x0, .int x1])), (aT, .inr (7, [.ref tb, .int 0]))] sz)) (va_Qi (fun (r : Int32) (u : va_W × gT) => u = ([(h, .inr (4, [.int 1, .int 0])), (aT, .inr (7, [.ref tb, .int 0]))], []) ∧ r = 0) (gB (dC, dI) (va_A [(h, .inr (4, [.int x0, .int x1])), (aT, .inr (7, [.ref tb, .int 0]))] sz)) (va_A [(h, .inr (4, [.int x0, .int x1])), (aT, .inr (7, [.ref tb, .int 0]))] sz)) 0 0 (va_A [(h, .inr (4, [.int x0, .int x1])), (aT, .inr (7, [.ref tb, .int 0]))] sz) := by
  refine Met.ofW (cc := cX4_accepts) (maxL := 3) (ret := (some .boolean)) (by decide) rfl ?_
  intro p e s m args below meth c s₁ B hml hv
  obtain ⟨rfl, hsz, hP, hK, hD0, hN, hZ⟩ := hv
  have hx := B.exec
  have hb := B.bytes
  have hr := B.returns
  have hts := atoms_spec (ws := (wsG (.code yX4_accepts cX4_accepts 3 (some .boolean)))) B.pre
  have hown : s.vm.findClass RX4 = some m.cls := findClass_of_methodNamed B.named
  have hlocks := B.notSynchronized
  subst hsz
  have hD := hD0.self (sz := s.heap.size)
  generalize hAe : va_A [(h, .inr (4, [.int x0, .int x1])), (aT, .inr (7, [.ref tb, .int 0]))] s.heap.size = A at hD hZ ⊢
  have hA : ∀ q : Nat, s.heap.size ≤ q → A q := fun q h => by rw [← hAe]; exact Or.inr h
  have hl := lv_entry ([.ref h, .ref aT]) (n := 3) (Nat.le_of_ble_eq_true rfl)
  rw [lg_entry_eq]
  generalize (lg_sl ([.ref h, .ref aT]) ++ List.replicate (3 - (lg_sl ([.ref h, .ref aT])).length) Slot.unset).toArray = ls at hl ⊢
  have hl : lv_has ls 3 [(0, .ref h), (1, .ref aT)] := hl
  refine g_start (A := A) hP (fun H locs hP hS => ?_)
  refine lv_aload_n hx hb dX4_accepts_0 rfl (lv_at hl 1 rfl) ?_
  refine va_get (D := (dC, dI)) (ci := 7) (v := .int 0) (C := RX7) (T := TX7) (N := 2) hx hb hts iwX7 hown hK hP 1 rfl rfl 1 (by decide) (hts (.fieldLink RX4 30 "ModulePlayer$Tape" "length" "I") (List.mem_cons_of_mem _ kw_287)) (fun _ h9 => h9) rfl dX4_accepts_1 ?_
  refine lv_sipush (v := 1084) hx hb dX4_accepts_4 (by decide) ?_
  refine lv_icmp_ge (tgt := 20) hx hb dX4_accepts_7 (by decide) (fun c_7 => absurd c_7 (by decide)) (fun c_7 => ?_)
  refine lv_aload_n hx hb dX4_accepts_10 rfl (lv_at hl 0 rfl) ?_
  refine lv_iconst (v := 1) hx hb dX4_accepts_11 (by decide) ?_
  refine lv_aload_n hx hb dX4_accepts_12 rfl (lv_at hl 1 rfl) ?_
  refine va_get (D := (dC, dI)) (ci := 7) (v := .int 0) (C := RX7) (T := TX7) (N := 2) hx hb hts iwX7 hown hK hP 1 rfl rfl 1 (by decide) (hts (.fieldLink RX4 30 "ModulePlayer$Tape" "length" "I") (List.mem_cons_of_mem _ kw_287)) (fun _ h9 => h9) rfl dX4_accepts_13 ?_
  refine g_calli (wr := [(aT, .inr (7, [.ref tb, .int 0]))]) (va_runV (As := [.int 1, .int 0]) (rest := []) ⟨hx, hb, hml, hown, hts⟩ (c_refuse l dC dI H.size h x0 x1 1 0 ) (cwV 2 hts (gG_V kw_288 kw_289 kw_290 kw_30 kw_291) rfl rfl rfl (by decide +kernel) ⟨Nat.le_of_ble_eq_true rfl, Nat.le_of_ble_eq_true rfl⟩) (g_preV (C := RX4) (T := TX4) (N := 2) hP hD hK hS hA hN hZ (q0 := 0) rfl rfl [0] (by decide) rfl [] rfl) rfl rfl hl.1 rfl (lv_room (Nat.le_of_ble_eq_true rfl)) dX4_accepts_16 ⟨Nat.le_of_ble_eq_true rfl, Nat.le_of_ble_eq_true rfl⟩) hP hD hK hS hA [0] [1] rfl rfl (by decide) (by decide) (fun r_16 w ty1 H locs hw_16 hP hD _ hS => ?_)
  rcases hw_16 with ⟨hu, hr_16⟩
  cases hu
  have hP : va_P (dC, dI) vwCl [(aT, .inr (7, [.ref tb, .int 0])), (h, .inr (4, [.int 1, .int 0]))] H := hP
  have hD : va_D A [(aT, .inr (7, [.ref tb, .int 0])), (h, .inr (4, [.int 1, .int 0]))] := hD
  refine g_topi (y := 0) hr_16 ?_
  have hP9 := hP.sub (ws' := [(h, .inr (4, [.int 1, .int 0])), (aT, .inr (7, [.ref tb, .int 0]))]) [1, 0] rfl
  have hD9 := hD.sub (ws' := [(h, .inr (4, [.int 1, .int 0])), (aT, .inr (7, [.ref tb, .int 0]))]) [1, 0] (by decide) rfl
  have hK9 := hK.sub (tys' := []) [] rfl
  exact W.zret (v := 0) hx hb hr (by decide) (fun t ht hW => ⟨⟨0, ([(h, .inr (4, [.int 1, .int 0])), (aT, .inr (7, [.ref tb, .int 0]))], []), rfl, ⟨rfl, rfl⟩, by rw [ht]; exact hP9, va_K.moved hW.alike hK9, hD9⟩, hS.F ht⟩) hS.2.2 dX4_accepts_19

set_option maxHeartbeats 400000 in
set_option maxRecDepth 100000 in
/-- load, first -/
theorem f_load (l : Launch) (dC : Nat → ClassId) (dI : Nat → Nat → Nat) (sz : Nat) (h aT aB aS aR aF aC aX : Nat) (tb : Nat) : Met l yX10_load (wsG (.code yX10_load cX10_load 1 (some .int))) ({ frames := 2, cells := 0, slots := 0, locals := 44 }) (va_Pc [.ref h] (gP (dC, dI) [] [(h, .inr (9, [.ref aT, .ref aB, .ref aS, .ref aR, .ref aF, .ref aC, .ref aX])), (aR, .inr (4, [.int 0, .int (-1)])), (aT, .inr (7, [.ref tb, .int 0]))] sz)) (va_Qi (fun (r : Int32) (u : va_W × gT) => u = ([], []) ∧ r = (-1)) (gB (dC, dI) (va_A [(h, .inr (9, [.ref aT, .ref aB, .ref aS, .ref aR, .ref aF, .ref aC, .ref aX])), (aR, .inr (4, [.int 0, .int (-1)])), (aT, .inr (7, [.ref tb, .int 0]))] sz)) (va_A [(h, .inr (9, [.ref aT, .ref aB, .ref aS, .ref aR, .ref aF, .ref aC, .ref aX])), (aR, .inr (4, [.int 0, .int (-1)])), (aT, .inr (7, [.ref tb, .int 0]))] sz)) 0 0 (va_A [(h, .inr (9, [.ref aT, .ref aB, .ref aS, .ref aR, .ref aF, .ref aC, .ref aX])), (aR, .inr (4, [.int 0, .int (-1)])), (aT, .inr (7, [.ref tb, .int 0]))] sz) := by
  refine Met.ofW (cc := cX10_load) (maxL := 1) (ret := (some .int)) (by decide) rfl ?_
  intro p e s m args below meth c s₁ B hml hv
  obtain ⟨rfl, hsz, hP, hK, hD0, hN, hZ⟩ := hv
  have hx := B.exec
  have hb := B.bytes
  have hr := B.returns
  have hts := atoms_spec (ws := (wsG (.code yX10_load cX10_load 1 (some .int)))) B.pre
  have hown : s.vm.findClass RX10 = some m.cls := findClass_of_methodNamed B.named
  have hlocks := B.notSynchronized
  subst hsz
  have hD := hD0.self (sz := s.heap.size)
  generalize hAe : va_A [(h, .inr (9, [.ref aT, .ref aB, .ref aS, .ref aR, .ref aF, .ref aC, .ref aX])), (aR, .inr (4, [.int 0, .int (-1)])), (aT, .inr (7, [.ref tb, .int 0]))] s.heap.size = A at hD hZ ⊢
  have hA : ∀ q : Nat, s.heap.size ≤ q → A q := fun q h => by rw [← hAe]; exact Or.inr h
  have hl := lv_entry ([.ref h]) (n := 1) (Nat.le_of_ble_eq_true rfl)
  rw [lg_entry_eq]
  generalize (lg_sl ([.ref h]) ++ List.replicate (1 - (lg_sl ([.ref h])).length) Slot.unset).toArray = ls at hl ⊢
  have hl : lv_has ls 1 [(0, .ref h)] := hl
  refine g_start (A := A) hP (fun H locs hP hS => ?_)
  refine lv_aload_n hx hb dX10_load_0 rfl (lv_at hl 0 rfl) ?_
  refine va_get (D := (dC, dI)) (ci := 9) (v := .ref aR) (C := RX10) (T := TX10) (N := 7) hx hb hts iwX10 hown hK hP 0 rfl rfl 3 (by decide) (hts (.fieldLink RX10 33 "ModulePlayer" "reader" "LModulePlayer$Reader;") (List.mem_cons_of_mem _ kw_31)) (fun _ h9 => h9) rfl dX10_load_1 ?_
  refine lv_aload_n hx hb dX10_load_4 rfl (lv_at hl 0 rfl) ?_
  refine va_get (D := (dC, dI)) (ci := 9) (v := .ref aT) (C := RX10) (T := TX10) (N := 7) hx hb hts iwX10 hown hK hP 0 rfl rfl 0 (by decide) (hts (.fieldLink RX10 10 "ModulePlayer" "tape" "LModulePlayer$Tape;") (List.mem_cons_of_mem _ kw_19)) (fun _ h9 => h9) rfl dX10_load_5 ?_
  refine g_calli (wr := [(h, .inr (9, [.ref aT, .ref aB, .ref aS, .ref aR, .ref aF, .ref aC, .ref aX]))]) (va_runV (As := [.ref aT]) (rest := []) ⟨hx, hb, hml, hown, hts⟩ (c_accepts1 l dC dI H.size aR aT tb 0 (-1) ) (cwV 1 hts (gG_V kw_283 kw_284 kw_285 kw_30 kw_286) rfl rfl rfl (by decide +kernel) ⟨Nat.le_of_ble_eq_true rfl, Nat.le_of_ble_eq_true rfl⟩) (g_preV (C := RX4) (T := TX4) (N := 2) hP hD hK hS hA hN hZ (q0 := 1) rfl rfl [1, 2] (by decide) rfl [] rfl) rfl rfl hl.1 rfl (lv_room (Nat.le_of_ble_eq_true rfl)) dX10_load_8 ⟨Nat.le_of_ble_eq_true rfl, Nat.le_of_ble_eq_true rfl⟩) hP hD hK hS hA [1, 2] [0] rfl rfl (by decide) (by decide) (fun r_8 w ty1 H locs hw_8 hP hD _ hS => ?_)
  rcases hw_8 with ⟨hu, hr_8⟩
  cases hu
  have hP : va_P (dC, dI) vwCl [(h, .inr (9, [.ref aT, .ref aB, .ref aS, .ref aR, .ref aF, .ref aC, .ref aX])), (aR, .inr (4, [.int 1, .int 0])), (aT, .inr (7, [.ref tb, .int 0]))] H := hP
  have hD : va_D A [(h, .inr (9, [.ref aT, .ref aB, .ref aS, .ref aR, .ref aF, .ref aC, .ref aX])), (aR, .inr (4, [.int 1, .int 0])), (aT, .inr (7, [.ref tb, .int 0]))] := hD
  refine g_topi (y := 0) hr_8 ?_
  refine lv_if_ne (tgt := 16) hx hb dX10_load_11 (by decide) (fun c_11 => absurd c_11 (by decide)) (fun c_11 => ?_)
  refine lv_iconst (v := (-1)) hx hb dX10_load_14 (by decide) ?_
  have hP9 := hP.sub (ws' := []) [] rfl
  have hD9 := hD.sub (ws' := []) [] (by decide) rfl
  have hK9 := hK.sub (tys' := []) [] rfl
  exact W.iret (v := (-1)) hx hb hr (fun t ht hW => ⟨⟨(-1), ([], []), rfl, ⟨rfl, rfl⟩, by rw [ht]; exact hP9, va_K.moved hW.alike hK9, hD9⟩, hS.F ht⟩) hS.2.2 dX10_load_15

set_option maxHeartbeats 400000 in
set_option maxRecDepth 100000 in
/-- start, first -/
theorem f_start (l : Launch) (dC : Nat → ClassId) (dI : Nat → Nat → Nat) (sz : Nat) (h aT aB aS aR aF aC aX be le ri c0 c1 c2 c3 v0 v1 v2 v3 w0 w1 w2 w3 : Nat) (cJ cC : ClassId) (gc : Nat → Option Nat) (fb : Nat → Int64) (ra : Int32) (hc0 : gc 0 = some c0) (hc1 : gc 1 = some c1) (hc2 : gc 2 = some c2) (hc3 : gc 3 = some c3) : Met l yX10_start (wsG (.code yX10_start cX10_start 1 none)) ({ frames := 3, cells := 0, slots := 0, locals := 65 }) (va_Pc [.ref h] (gP (dC, dI) [(cJ, .long), (cC, .object RX1)] [(h, .inr (9, [.ref aT, .ref aB, .ref aS, .ref aR, .ref aF, .ref aC, .ref aX])), (aF, .inr (2, [.ref aS, .ref be, .int 6, .int 125, .int 0, .int 0, .int 0, .int 0, .int 0, .int 0, .int (-1), .int (-1), .int (-1)])), (be, .inl (cJ, 128, .inr (.inl fb))), (aX, .inr (3, [.int ra, .ref le, .ref ri, .int 0, .int 17])), (aC, .inl (cC, 4, .inr (.inr (.inr (.inr gc))))), (c0, .inr (1, [.ref aB, .ref v0, .ref w0, .int 0, .int 0, .int 0, .int 0, .int 0, .int 0, .int 0, .int 0, .int 0, .int 0, .int 0, .int 0, .int 0, .long 0, .int 0, .int 0])), (c1, .inr (1, [.ref aB, .ref v1, .ref w1, .int 0, .int 0, .int 0, .int 0, .int 0, .int 0, .int 0, .int 0, .int 0, .int 0, .int 0, .int 0, .int 0, .long 0, .int 0, .int 0])), (c2, .inr (1, [.ref aB, .ref v2, .ref w2, .int 0, .int 0, .int 0, .int 0, .int 0, .int 0, .int 0, .int 0, .int 0, .int 0, .int 0, .int 0, .int 0, .long 0, .int 0, .int 0])), (c3, .inr (1, [.ref aB, .ref v3, .ref w3, .int 0, .int 0, .int 0, .int 0, .int 0, .int 0, .int 0, .int 0, .int 0, .int 0, .int 0, .int 0, .int 0, .long 0, .int 0, .int 0])), (v0, .inr (8, [.int 0, .int 0, .int 0, .int 0])), (v1, .inr (8, [.int 0, .int 0, .int 0, .int 0])), (v2, .inr (8, [.int 0, .int 0, .int 0, .int 0])), (v3, .inr (8, [.int 0, .int 0, .int 0, .int 0])), (w0, .inr (8, [.int 0, .int 0, .int 0, .int 0])), (w1, .inr (8, [.int 0, .int 0, .int 0, .int 0])), (w2, .inr (8, [.int 0, .int 0, .int 0, .int 0])), (w3, .inr (8, [.int 0, .int 0, .int 0, .int 0]))] sz)) (va_Qv (fun u : va_W × gT => u = ([], [])) (gB (dC, dI) (va_A [(h, .inr (9, [.ref aT, .ref aB, .ref aS, .ref aR, .ref aF, .ref aC, .ref aX])), (aF, .inr (2, [.ref aS, .ref be, .int 6, .int 125, .int 0, .int 0, .int 0, .int 0, .int 0, .int 0, .int (-1), .int (-1), .int (-1)])), (be, .inl (cJ, 128, .inr (.inl fb))), (aX, .inr (3, [.int ra, .ref le, .ref ri, .int 0, .int 17])), (aC, .inl (cC, 4, .inr (.inr (.inr (.inr gc))))), (c0, .inr (1, [.ref aB, .ref v0, .ref w0, .int 0, .int 0, .int 0, .int 0, .int 0, .int 0, .int 0, .int 0, .int 0, .int 0, .int 0, .int 0, .int 0, .long 0, .int 0, .int 0])), (c1, .inr (1, [.ref aB, .ref v1, .ref w1, .int 0, .int 0, .int 0, .int 0, .int 0, .int 0, .int 0, .int 0, .int 0, .int 0, .int 0, .int 0, .int 0, .long 0, .int 0, .int 0])), (c2, .inr (1, [.ref aB, .ref v2, .ref w2, .int 0, .int 0, .int 0, .int 0, .int 0, .int 0, .int 0, .int 0, .int 0, .int 0, .int 0, .int 0, .int 0, .long 0, .int 0, .int 0])), (c3, .inr (1, [.ref aB, .ref v3, .ref w3, .int 0, .int 0, .int 0, .int 0, .int 0, .int 0, .int 0, .int 0, .int 0, .int 0, .int 0, .int 0, .int 0, .long 0, .int 0, .int 0])), (v0, .inr (8, [.int 0, .int 0, .int 0, .int 0])), (v1, .inr (8, [.int 0, .int 0, .int 0, .int 0])), (v2, .inr (8, [.int 0, .int 0, .int 0, .int 0])), (v3, .inr (8, [.int 0, .int 0, .int 0, .int 0])), (w0, .inr (8, [.int 0, .int 0, .int 0, .int 0])), (w1, .inr (8, [.int 0, .int 0, .int 0, .int 0])), (w2, .inr (8, [.int 0, .int 0, .int 0, .int 0])), (w3, .inr (8, [.int 0, .int 0, .int 0, .int 0]))] sz)) (va_A [(h, .inr (9, [.ref aT, .ref aB, .ref aS, .ref aR, .ref aF, .ref aC, .ref aX])), (aF, .inr (2, [.ref aS, .ref be, .int 6, .int 125, .int 0, .int 0, .int 0, .int 0, .int 0, .int 0, .int (-1), .int (-1), .int (-1)])), (be, .inl (cJ, 128, .inr (.inl fb))), (aX, .inr (3, [.int ra, .ref le, .ref ri, .int 0, .int 17])), (aC, .inl (cC, 4, .inr (.inr (.inr (.inr gc))))), (c0, .inr (1, [.ref aB, .ref v0, .ref w0, .int 0, .int 0, .int 0, .int 0, .int 0, .int 0, .int 0, .int 0, .int 0, .int 0, .int 0, .int 0, .int 0, .long 0, .int 0, .int 0])), (c1, .inr (1, [.ref aB, .ref v1, .ref w1, .int 0, .int 0, .int 0, .int 0, .int 0, .int 0, .int 0, .int 0, .int 0, .int 0, .int 0, .int 0, .int 0, .long 0, .int 0, .int 0])), (c2, .inr (1, [.ref aB, .ref v2, .ref w2, .int 0, .int 0, .int 0, .int 0, .int 0, .int 0, .int 0, .int 0, .int 0, .int 0, .int 0, .int 0, .int 0, .long 0, .int 0, .int 0])), (c3, .inr (1, [.ref aB, .ref v3, .ref w3, .int 0, .int 0, .int 0, .int 0, .int 0, .int 0, .int 0, .int 0, .int 0, .int 0, .int 0, .int 0, .int 0, .long 0, .int 0, .int 0])), (v0, .inr (8, [.int 0, .int 0, .int 0, .int 0])), (v1, .inr (8, [.int 0, .int 0, .int 0, .int 0])), (v2, .inr (8, [.int 0, .int 0, .int 0, .int 0])), (v3, .inr (8, [.int 0, .int 0, .int 0, .int 0])), (w0, .inr (8, [.int 0, .int 0, .int 0, .int 0])), (w1, .inr (8, [.int 0, .int 0, .int 0, .int 0])), (w2, .inr (8, [.int 0, .int 0, .int 0, .int 0])), (w3, .inr (8, [.int 0, .int 0, .int 0, .int 0]))] sz)) 0 0 (va_A [(h, .inr (9, [.ref aT, .ref aB, .ref aS, .ref aR, .ref aF, .ref aC, .ref aX])), (aF, .inr (2, [.ref aS, .ref be, .int 6, .int 125, .int 0, .int 0, .int 0, .int 0, .int 0, .int 0, .int (-1), .int (-1), .int (-1)])), (be, .inl (cJ, 128, .inr (.inl fb))), (aX, .inr (3, [.int ra, .ref le, .ref ri, .int 0, .int 17])), (aC, .inl (cC, 4, .inr (.inr (.inr (.inr gc))))), (c0, .inr (1, [.ref aB, .ref v0, .ref w0, .int 0, .int 0, .int 0, .int 0, .int 0, .int 0, .int 0, .int 0, .int 0, .int 0, .int 0, .int 0, .int 0, .long 0, .int 0, .int 0])), (c1, .inr (1, [.ref aB, .ref v1, .ref w1, .int 0, .int 0, .int 0, .int 0, .int 0, .int 0, .int 0, .int 0, .int 0, .int 0, .int 0, .int 0, .int 0, .long 0, .int 0, .int 0])), (c2, .inr (1, [.ref aB, .ref v2, .ref w2, .int 0, .int 0, .int 0, .int 0, .int 0, .int 0, .int 0, .int 0, .int 0, .int 0, .int 0, .int 0, .int 0, .long 0, .int 0, .int 0])), (c3, .inr (1, [.ref aB, .ref v3, .ref w3, .int 0, .int 0, .int 0, .int 0, .int 0, .int 0, .int 0, .int 0, .int 0, .int 0, .int 0, .int 0, .int 0, .long 0, .int 0, .int 0])), (v0, .inr (8, [.int 0, .int 0, .int 0, .int 0])), (v1, .inr (8, [.int 0, .int 0, .int 0, .int 0])), (v2, .inr (8, [.int 0, .int 0, .int 0, .int 0])), (v3, .inr (8, [.int 0, .int 0, .int 0, .int 0])), (w0, .inr (8, [.int 0, .int 0, .int 0, .int 0])), (w1, .inr (8, [.int 0, .int 0, .int 0, .int 0])), (w2, .inr (8, [.int 0, .int 0, .int 0, .int 0])), (w3, .inr (8, [.int 0, .int 0, .int 0, .int 0]))] sz) := by
  refine Met.ofW (cc := cX10_start) (maxL := 1) (ret := none) (by decide) rfl ?_
  intro p e s m args below meth c s₁ B hml hv
  obtain ⟨rfl, hsz, hP, hK, hD0, hN, hZ⟩ := hv
  have hx := B.exec
  have hb := B.bytes
  have hr := B.returns
  have hts := atoms_spec (ws := (wsG (.code yX10_start cX10_start 1 none))) B.pre
  have hown : s.vm.findClass RX10 = some m.cls := findClass_of_methodNamed B.named
  have hlocks := B.notSynchronized
  subst hsz
  have hD := hD0.self (sz := s.heap.size)
  generalize hAe : va_A [(h, .inr (9, [.ref aT, .ref aB, .ref aS, .ref aR, .ref aF, .ref aC, .ref aX])), (aF, .inr (2, [.ref aS, .ref be, .int 6, .int 125, .int 0, .int 0, .int 0, .int 0, .int 0, .int 0, .int (-1), .int (-1), .int (-1)])), (be, .inl (cJ, 128, .inr (.inl fb))), (aX, .inr (3, [.int ra, .ref le, .ref ri, .int 0, .int 17])), (aC, .inl (cC, 4, .inr (.inr (.inr (.inr gc))))), (c0, .inr (1, [.ref aB, .ref v0, .ref w0, .int 0, .int 0, .int 0, .int 0, .int 0, .int 0, .int 0, .int 0, .int 0, .int 0, .int 0, .int 0, .int 0, .long 0, .int 0, .int 0])), (c1, .inr (1, [.ref aB, .ref v1, .ref w1, .int 0, .int 0, .int 0, .int 0, .int 0, .int 0, .int 0, .int 0, .int 0, .int 0, .int 0, .int 0, .int 0, .long 0, .int 0, .int 0])), (c2, .inr (1, [.ref aB, .ref v2, .ref w2, .int 0, .int 0, .int 0, .int 0, .int 0, .int 0, .int 0, .int 0, .int 0, .int 0, .int 0, .int 0, .int 0, .long 0, .int 0, .int 0])), (c3, .inr (1, [.ref aB, .ref v3, .ref w3, .int 0, .int 0, .int 0, .int 0, .int 0, .int 0, .int 0, .int 0, .int 0, .int 0, .int 0, .int 0, .int 0, .long 0, .int 0, .int 0])), (v0, .inr (8, [.int 0, .int 0, .int 0, .int 0])), (v1, .inr (8, [.int 0, .int 0, .int 0, .int 0])), (v2, .inr (8, [.int 0, .int 0, .int 0, .int 0])), (v3, .inr (8, [.int 0, .int 0, .int 0, .int 0])), (w0, .inr (8, [.int 0, .int 0, .int 0, .int 0])), (w1, .inr (8, [.int 0, .int 0, .int 0, .int 0])), (w2, .inr (8, [.int 0, .int 0, .int 0, .int 0])), (w3, .inr (8, [.int 0, .int 0, .int 0, .int 0]))] s.heap.size = A at hD hZ ⊢
  have hA : ∀ q : Nat, s.heap.size ≤ q → A q := fun q h => by rw [← hAe]; exact Or.inr h
  have hl := lv_entry ([.ref h]) (n := 1) (Nat.le_of_ble_eq_true rfl)
  rw [lg_entry_eq]
  generalize (lg_sl ([.ref h]) ++ List.replicate (1 - (lg_sl ([.ref h])).length) Slot.unset).toArray = ls at hl ⊢
  have hl : lv_has ls 1 [(0, .ref h)] := hl
  refine g_start (A := A) hP (fun H locs hP hS => ?_)
  refine lv_aload_n hx hb dX10_start_0 rfl (lv_at hl 0 rfl) ?_
  refine g_callv (wr := []) (va_runV (As := []) (rest := []) ⟨hx, hb, hml, hown, hts⟩ (c_begin l dC dI H.size h aT aB aS aR aF aC aX be le ri c0 c1 c2 c3 v0 v1 v2 v3 w0 w1 w2 w3 cJ cC gc fb 6 125 0 0 0 0 0 0 (-1) (-1) (-1) ra 0 17 (hc0) (hc1) (hc2) (hc3)) (cwV 0 hts (gG_V kw_107 kw_108 kw_109 kw_2 kw_110) rfl rfl rfl (by decide +kernel) ⟨Nat.le_of_ble_eq_true rfl, Nat.le_of_ble_eq_true rfl⟩) (g_preV (C := RX10) (T := TX10) (N := 7) hP hD hK hS hA hN hZ (q0 := 0) rfl rfl [0, 1, 2, 3, 4, 5, 6, 7, 8, 9, 10, 11, 12, 13, 14, 15, 16] (by decide) rfl [0, 1] rfl) rfl rfl hl.1 rfl (lv_room (Nat.le_of_ble_eq_true rfl)) dX10_start_1 ⟨Nat.le_of_ble_eq_true rfl, Nat.le_of_ble_eq_true rfl⟩) hP hD hK hS hA [0, 1, 2, 3, 4, 5, 6, 7, 8, 9, 10, 11, 12, 13, 14, 15, 16] [] rfl rfl (by decide) (by decide) (fun w ty1 H locs hw_1 hP hD _ hS => ?_)
  rcases hw_1 with ⟨fb2_1, hu, hfb_1⟩
  cases hu
  have hP : va_P (dC, dI) vwCl [(h, .inr (9, [.ref aT, .ref aB, .ref aS, .ref aR, .ref aF, .ref aC, .ref aX])), (aF, .inr (2, [.ref aS, .ref be, .int 6, .int 125, .int 0, .int 0, .int 0, .int 0, .int 0, .int 0, .int (-1), .int (-1), .int (-1)])), (be, .inl (cJ, 128, .inr (.inl fb2_1))), (aX, .inr (3, [.int ra, .ref le, .ref ri, .int 0, .int 17])), (aC, .inl (cC, 4, .inr (.inr (.inr (.inr gc))))), (c0, .inr (1, [.ref aB, .ref v0, .ref w0, .int 0, .int 0, .int 0, .int 0, .int 0, .int 0, .int 0, .int 0, .int 0, .int 0, .int 0, .int 0, .int 0, .long 0, .int 0, .int 0])), (c1, .inr (1, [.ref aB, .ref v1, .ref w1, .int 0, .int 0, .int 0, .int 0, .int 0, .int 0, .int 0, .int 0, .int 0, .int 0, .int 0, .int 0, .int 0, .long 0, .int 0, .int 0])), (c2, .inr (1, [.ref aB, .ref v2, .ref w2, .int 0, .int 0, .int 0, .int 0, .int 0, .int 0, .int 0, .int 0, .int 0, .int 0, .int 0, .int 0, .int 0, .long 0, .int 0, .int 0])), (c3, .inr (1, [.ref aB, .ref v3, .ref w3, .int 0, .int 0, .int 0, .int 0, .int 0, .int 0, .int 0, .int 0, .int 0, .int 0, .int 0, .int 0, .int 0, .long 0, .int 0, .int 0])), (v0, .inr (8, [.int 0, .int 0, .int 0, .int 0])), (v1, .inr (8, [.int 0, .int 0, .int 0, .int 0])), (v2, .inr (8, [.int 0, .int 0, .int 0, .int 0])), (v3, .inr (8, [.int 0, .int 0, .int 0, .int 0])), (w0, .inr (8, [.int 0, .int 0, .int 0, .int 0])), (w1, .inr (8, [.int 0, .int 0, .int 0, .int 0])), (w2, .inr (8, [.int 0, .int 0, .int 0, .int 0])), (w3, .inr (8, [.int 0, .int 0, .int 0, .int 0]))] H := hP
  have hD : va_D A [(h, .inr (9, [.ref aT, .ref aB, .ref aS, .ref aR, .ref aF, .ref aC, .ref aX])), (aF, .inr (2, [.ref aS, .ref be, .int 6, .int 125, .int 0, .int 0, .int 0, .int 0, .int 0, .int 0, .int (-1), .int (-1), .int (-1)])), (be, .inl (cJ, 128, .inr (.inl fb2_1))), (aX, .inr (3, [.int ra, .ref le, .ref ri, .int 0, .int 17])), (aC, .inl (cC, 4, .inr (.inr (.inr (.inr gc))))), (c0, .inr (1, [.ref aB, .ref v0, .ref w0, .int 0, .int 0, .int 0, .int 0, .int 0, .int 0, .int 0, .int 0, .int 0, .int 0, .int 0, .int 0, .int 0, .long 0, .int 0, .int 0])), (c1, .inr (1, [.ref aB, .ref v1, .ref w1, .int 0, .int 0, .int 0, .int 0, .int 0, .int 0, .int 0, .int 0, .int 0, .int 0, .int 0, .int 0, .int 0, .long 0, .int 0, .int 0])), (c2, .inr (1, [.ref aB, .ref v2, .ref w2, .int 0, .int 0, .int 0, .int 0, .int 0, .int 0, .int 0, .int 0, .int 0, .int 0, .int 0, .int 0, .int 0, .long 0, .int 0, .int 0])), (c3, .inr (1, [.ref aB, .ref v3, .ref w3, .int 0, .int 0, .int 0, .int 0, .int 0, .int 0, .int 0, .int 0, .int 0, .int 0, .int 0, .int 0, .int 0, .long 0, .int 0, .int 0])), (v0, .inr (8, [.int 0, .int 0, .int 0, .int 0])), (v1, .inr (8, [.int 0, .int 0, .int 0, .int 0])), (v2, .inr (8, [.int 0, .int 0, .int 0, .int 0])), (v3, .inr (8, [.int 0, .int 0, .int 0, .int 0])), (w0, .inr (8, [.int 0, .int 0, .int 0, .int 0])), (w1, .inr (8, [.int 0, .int 0, .int 0, .int 0])), (w2, .inr (8, [.int 0, .int 0, .int 0, .int 0])), (w3, .inr (8, [.int 0, .int 0, .int 0, .int 0]))] := hD
  have hP9 := hP.sub (ws' := []) [] rfl
  have hD9 := hD.sub (ws' := []) [] (by decide) rfl
  have hK9 := hK.sub (tys' := []) [] rfl
  exact W.vret hx hb hr (fun t ht hW => ⟨⟨([], []), rfl, rfl, by rw [ht]; exact hP9, va_K.moved hW.alike hK9, hD9⟩, hS.F ht⟩) hS.2.2 dX10_start_4

set_option maxHeartbeats 400000 in
set_option maxRecDepth 100000 in
/-- mute, first -/
theorem f_mute (l : Launch) (dC : Nat → ClassId) (dI : Nat → Nat → Nat) (sz : Nat) (h aT aB aS aR aF aC aX c0 c1 c2 c3 v0 v1 v2 v3 w0 w1 w2 w3 : Nat) (cC : ClassId) (gc : Nat → Option Nat) (x1 z : Int32) (hc0 : gc 0 = some c0) (hc1 : gc 1 = some c1) (hc2 : gc 2 = some c2) (hc3 : gc 3 = some c3) (hz : z = 0 ∨ z = 1) : Met l yX10_mute (wsG (.code yX10_mute cX10_mute 4 (some .boolean))) ({ frames := 1, cells := 0, slots := 0, locals := 21 }) (va_Pc [.ref h, .int x1, .int z] (gP (dC, dI) [(cC, .object RX1)] [(h, .inr (9, [.ref aT, .ref aB, .ref aS, .ref aR, .ref aF, .ref aC, .ref aX])), (aC, .inl (cC, 4, .inr (.inr (.inr (.inr gc))))), (c0, .inr (1, [.ref aB, .ref v0, .ref w0, .int 0, .int 0, .int 0, .int 0, .int 0, .int 0, .int 0, .int 0, .int 0, .int 0, .int 0, .int 0, .int 0, .long 0, .int 0, .int 0])), (c1, .inr (1, [.ref aB, .ref v1, .ref w1, .int 0, .int 0, .int 0, .int 0, .int 0, .int 0, .int 0, .int 0, .int 0, .int 0, .int 0, .int 0, .int 0, .long 0, .int 0, .int 0])), (c2, .inr (1, [.ref aB, .ref v2, .ref w2, .int 0, .int 0, .int 0, .int 0, .int 0, .int 0, .int 0, .int 0, .int 0, .int 0, .int 0, .int 0, .int 0, .long 0, .int 0, .int 0])), (c3, .inr (1, [.ref aB, .ref v3, .ref w3, .int 0, .int 0, .int 0, .int 0, .int 0, .int 0, .int 0, .int 0, .int 0, .int 0, .int 0, .int 0, .int 0, .long 0, .int 0, .int 0])), (v0, .inr (8, [.int 0, .int 0, .int 0, .int 0])), (v1, .inr (8, [.int 0, .int 0, .int 0, .int 0])), (v2, .inr (8, [.int 0, .int 0, .int 0, .int 0])), (v3, .inr (8, [.int 0, .int 0, .int 0, .int 0])), (w0, .inr (8, [.int 0, .int 0, .int 0, .int 0])), (w1, .inr (8, [.int 0, .int 0, .int 0, .int 0])), (w2, .inr (8, [.int 0, .int 0, .int 0, .int 0])), (w3, .inr (8, [.int 0, .int 0, .int 0, .int 0]))] sz)) (va_Qi (fun (r : Int32) (u : va_W × gT) => u = ([], []) ∧ r = 0) (gB (dC, dI) (va_A [(h, .inr (9, [.ref aT, .ref aB, .ref aS, .ref aR, .ref aF, .ref aC, .ref aX])), (aC, .inl (cC, 4, .inr (.inr (.inr (.inr gc))))), (c0, .inr (1, [.ref aB, .ref v0, .ref w0, .int 0, .int 0, .int 0, .int 0, .int 0, .int 0, .int 0, .int 0, .int 0, .int 0, .int 0, .int 0, .int 0, .long 0, .int 0, .int 0])), (c1, .inr (1, [.ref aB, .ref v1, .ref w1, .int 0, .int 0, .int 0, .int 0, .int 0, .int 0, .int 0, .int 0, .int 0, .int 0, .int 0, .int 0, .int 0, .long 0, .int 0, .int 0])), (c2, .inr (1, [.ref aB, .ref v2, .ref w2, .int 0, .int 0, .int 0, .int 0, .int 0, .int 0, .int 0, .int 0, .int 0, .int 0, .int 0, .int 0, .int 0, .long 0, .int 0, .int 0])), (c3, .inr (1, [.ref aB, .ref v3, .ref w3, .int 0, .int 0, .int 0, .int 0, .int 0, .int 0, .int 0, .int 0, .int 0, .int 0, .int 0, .int 0, .int 0, .long 0, .int 0, .int 0])), (v0, .inr (8, [.int 0, .int 0, .int 0, .int 0])), (v1, .inr (8, [.int 0, .int 0, .int 0, .int 0])), (v2, .inr (8, [.int 0, .int 0, .int 0, .int 0])), (v3, .inr (8, [.int 0, .int 0, .int 0, .int 0])), (w0, .inr (8, [.int 0, .int 0, .int 0, .int 0])), (w1, .inr (8, [.int 0, .int 0, .int 0, .int 0])), (w2, .inr (8, [.int 0, .int 0, .int 0, .int 0])), (w3, .inr (8, [.int 0, .int 0, .int 0, .int 0]))] sz)) (va_A [(h, .inr (9, [.ref aT, .ref aB, .ref aS, .ref aR, .ref aF, .ref aC, .ref aX])), (aC, .inl (cC, 4, .inr (.inr (.inr (.inr gc))))), (c0, .inr (1, [.ref aB, .ref v0, .ref w0, .int 0, .int 0, .int 0, .int 0, .int 0, .int 0, .int 0, .int 0, .int 0, .int 0, .int 0, .int 0, .int 0, .long 0, .int 0, .int 0])), (c1, .inr (1, [.ref aB, .ref v1, .ref w1, .int 0, .int 0, .int 0, .int 0, .int 0, .int 0, .int 0, .int 0, .int 0, .int 0, .int 0, .int 0, .int 0, .long 0, .int 0, .int 0])), (c2, .inr (1, [.ref aB, .ref v2, .ref w2, .int 0, .int 0, .int 0, .int 0, .int 0, .int 0, .int 0, .int 0, .int 0, .int 0, .int 0, .int 0, .int 0, .long 0, .int 0, .int 0])), (c3, .inr (1, [.ref aB, .ref v3, .ref w3, .int 0, .int 0, .int 0, .int 0, .int 0, .int 0, .int 0, .int 0, .int 0, .int 0, .int 0, .int 0, .int 0, .long 0, .int 0, .int 0])), (v0, .inr (8, [.int 0, .int 0, .int 0, .int 0])), (v1, .inr (8, [.int 0, .int 0, .int 0, .int 0])), (v2, .inr (8, [.int 0, .int 0, .int 0, .int 0])), (v3, .inr (8, [.int 0, .int 0, .int 0, .int 0])), (w0, .inr (8, [.int 0, .int 0, .int 0, .int 0])), (w1, .inr (8, [.int 0, .int 0, .int 0, .int 0])), (w2, .inr (8, [.int 0, .int 0, .int 0, .int 0])), (w3, .inr (8, [.int 0, .int 0, .int 0, .int 0]))] sz)) 0 0 (va_A [(h, .inr (9, [.ref aT, .ref aB, .ref aS, .ref aR, .ref aF, .ref aC, .ref aX])), (aC, .inl (cC, 4, .inr (.inr (.inr (.inr gc))))), (c0, .inr (1, [.ref aB, .ref v0, .ref w0, .int 0, .int 0, .int 0, .int 0, .int 0, .int 0, .int 0, .int 0, .int 0, .int 0, .int 0, .int 0, .int 0, .long 0, .int 0, .int 0])), (c1, .inr (1, [.ref aB, .ref v1, .ref w1, .int 0, .int 0, .int 0, .int 0, .int 0, .int 0, .int 0, .int 0, .int 0, .int 0, .int 0, .int 0, .int 0, .long 0, .int 0, .int 0])), (c2, .inr (1, [.ref aB, .ref v2, .ref w2, .int 0, .int 0, .int 0, .int 0, .int 0, .int 0, .int 0, .int 0, .int 0, .int 0, .int 0, .int 0, .int 0, .long 0, .int 0, .int 0])), (c3, .inr (1, [.ref aB, .ref v3, .ref w3, .int 0, .int 0, .int 0, .int 0, .int 0, .int 0, .int 0, .int 0, .int 0, .int 0, .int 0, .int 0, .int 0, .long 0, .int 0, .int 0])), (v0, .inr (8, [.int 0, .int 0, .int 0, .int 0])), (v1, .inr (8, [.int 0, .int 0, .int 0, .int 0])), (v2, .inr (8, [.int 0, .int 0, .int 0, .int 0])), (v3, .inr (8, [.int 0, .int 0, .int 0, .int 0])), (w0, .inr (8, [.int 0, .int 0, .int 0, .int 0])), (w1, .inr (8, [.int 0, .int 0, .int 0, .int 0])), (w2, .inr (8, [.int 0, .int 0, .int 0, .int 0])), (w3, .inr (8, [.int 0, .int 0, .int 0, .int 0]))] sz) := by
  refine Met.ofW (cc := cX10_mute) (maxL := 4) (ret := (some .boolean)) (by decide) rfl ?_
  intro p e s m args below meth c s₁ B hml hv
  obtain ⟨rfl, hsz, hP, hK, hD0, hN, hZ⟩ := hv
  have hx := B.exec
  have hb := B.bytes
  have hr := B.returns
  have hts := atoms_spec (ws := (wsG (.code yX10_mute cX10_mute 4 (some .boolean)))) B.pre
  have hown : s.vm.findClass RX10 = some m.cls := findClass_of_methodNamed B.named
  have hlocks := B.notSynchronized
  subst hsz
  have hD := hD0.self (sz := s.heap.size)
  generalize hAe : va_A [(h, .inr (9, [.ref aT, .ref aB, .ref aS, .ref aR, .ref aF, .ref aC, .ref aX])), (aC, .inl (cC, 4, .inr (.inr (.inr (.inr gc))))), (c0, .inr (1, [.ref aB, .ref v0, .ref w0, .int 0, .int 0, .int 0, .int 0, .int 0, .int 0, .int 0, .int 0, .int 0, .int 0, .int 0, .int 0, .int 0, .long 0, .int 0, .int 0])), (c1, .inr (1, [.ref aB, .ref v1, .ref w1, .int 0, .int 0, .int 0, .int 0, .int 0, .int 0, .int 0, .int 0, .int 0, .int 0, .int 0, .int 0, .int 0, .long 0, .int 0, .int 0])), (c2, .inr (1, [.ref aB, .ref v2, .ref w2, .int 0, .int 0, .int 0, .int 0, .int 0, .int 0, .int 0, .int 0, .int 0, .int 0, .int 0, .int 0, .int 0, .long 0, .int 0, .int 0])), (c3, .inr (1, [.ref aB, .ref v3, .ref w3, .int 0, .int 0, .int 0, .int 0, .int 0, .int 0, .int 0, .int 0, .int 0, .int 0, .int 0, .int 0, .int 0, .long 0, .int 0, .int 0])), (v0, .inr (8, [.int 0, .int 0, .int 0, .int 0])), (v1, .inr (8, [.int 0, .int 0, .int 0, .int 0])), (v2, .inr (8, [.int 0, .int 0, .int 0, .int 0])), (v3, .inr (8, [.int 0, .int 0, .int 0, .int 0])), (w0, .inr (8, [.int 0, .int 0, .int 0, .int 0])), (w1, .inr (8, [.int 0, .int 0, .int 0, .int 0])), (w2, .inr (8, [.int 0, .int 0, .int 0, .int 0])), (w3, .inr (8, [.int 0, .int 0, .int 0, .int 0]))] s.heap.size = A at hD hZ ⊢
  have hA : ∀ q : Nat, s.heap.size ≤ q → A q := fun q h => by rw [← hAe]; exact Or.inr h
  have hl := lv_entry ([.ref h, .int x1, .int z]) (n := 4) (Nat.le_of_ble_eq_true rfl)
  rw [lg_entry_eq]
  generalize (lg_sl ([.ref h, .int x1, .int z]) ++ List.replicate (4 - (lg_sl ([.ref h, .int x1, .int z])).length) Slot.unset).toArray = ls at hl ⊢
  have hl : lv_has ls 4 [(0, .ref h), (1, .int x1), (2, .int z)] := hl
  refine g_start (A := A) hP (fun H locs hP hS => ?_)
  refine lv_iload_n hx hb dX10_mute_0 rfl (lv_at hl 1 rfl) ?_
  refine lv_iconst (v := 4) hx hb dX10_mute_1 (by decide) ?_
  refine g_calli (wr := [(h, .inr (9, [.ref aT, .ref aB, .ref aS, .ref aR, .ref aF, .ref aC, .ref aX])), (aC, .inl (cC, 4, .inr (.inr (.inr (.inr gc))))), (c0, .inr (1, [.ref aB, .ref v0, .ref w0, .int 0, .int 0, .int 0, .int 0, .int 0, .int 0, .int 0, .int 0, .int 0, .int 0, .int 0, .int 0, .int 0, .long 0, .int 0, .int 0])), (c1, .inr (1, [.ref aB, .ref v1, .ref w1, .int 0, .int 0, .int 0, .int 0, .int 0, .int 0, .int 0, .int 0, .int 0, .int 0, .int 0, .int 0, .int 0, .long 0, .int 0, .int 0])), (c2, .inr (1, [.ref aB, .ref v2, .ref w2, .int 0, .int 0, .int 0, .int 0, .int 0, .int 0, .int 0, .int 0, .int 0, .int 0, .int 0, .int 0, .int 0, .long 0, .int 0, .int 0])), (c3, .inr (1, [.ref aB, .ref v3, .ref w3, .int 0, .int 0, .int 0, .int 0, .int 0, .int 0, .int 0, .int 0, .int 0, .int 0, .int 0, .int 0, .int 0, .long 0, .int 0, .int 0])), (v0, .inr (8, [.int 0, .int 0, .int 0, .int 0])), (v1, .inr (8, [.int 0, .int 0, .int 0, .int 0])), (v2, .inr (8, [.int 0, .int 0, .int 0, .int 0])), (v3, .inr (8, [.int 0, .int 0, .int 0, .int 0])), (w0, .inr (8, [.int 0, .int 0, .int 0, .int 0])), (w1, .inr (8, [.int 0, .int 0, .int 0, .int 0])), (w2, .inr (8, [.int 0, .int 0, .int 0, .int 0])), (w3, .inr (8, [.int 0, .int 0, .int 0, .int 0]))]) (va_runS (As := [.int x1, .int 4]) (rest := []) ⟨hx, hb, hml, hown, hts⟩ (c_isIn l dC dI H.size x1 4 ) (va_cwS 2 hts (gG_S kw_273 kw_247 kw_2 kw_248) rfl rfl rfl (by decide +kernel) ⟨Nat.le_of_ble_eq_true rfl, Nat.le_of_ble_eq_true rfl⟩) (g_preS hP hD hK hS hA hN hZ [] (by decide) rfl [] rfl) rfl rfl hl.1 rfl (lv_room (Nat.le_of_ble_eq_true rfl)) dX10_mute_2 ⟨Nat.le_of_ble_eq_true rfl, Nat.le_of_ble_eq_true rfl⟩) hP hD hK hS hA [] [0, 1, 2, 3, 4, 5, 6, 7, 8, 9, 10, 11, 12, 13] rfl rfl (by decide) (by decide) (fun r_2 w ty1 H locs hw_2 hP hD _ hS => ?_)
  rcases hw_2 with ⟨hu, hr_2, h_2⟩ | ⟨hu, hr_2, h_2⟩
  · cases hu
    have hP : va_P (dC, dI) vwCl [(h, .inr (9, [.ref aT, .ref aB, .ref aS, .ref aR, .ref aF, .ref aC, .ref aX])), (aC, .inl (cC, 4, .inr (.inr (.inr (.inr gc))))), (c0, .inr (1, [.ref aB, .ref v0, .ref w0, .int 0, .int 0, .int 0, .int 0, .int 0, .int 0, .int 0, .int 0, .int 0, .int 0, .int 0, .int 0, .int 0, .long 0, .int 0, .int 0])), (c1, .inr (1, [.ref aB, .ref v1, .ref w1, .int 0, .int 0, .int 0, .int 0, .int 0, .int 0, .int 0, .int 0, .int 0, .int 0, .int 0, .int 0, .int 0, .long 0, .int 0, .int 0])), (c2, .inr (1, [.ref aB, .ref v2, .ref w2, .int 0, .int 0, .int 0, .int 0, .int 0, .int 0, .int 0, .int 0, .int 0, .int 0, .int 0, .int 0, .int 0, .long 0, .int 0, .int 0])), (c3, .inr (1, [.ref aB, .ref v3, .ref w3, .int 0, .int 0, .int 0, .int 0, .int 0, .int 0, .int 0, .int 0, .int 0, .int 0, .int 0, .int 0, .int 0, .long 0, .int 0, .int 0])), (v0, .inr (8, [.int 0, .int 0, .int 0, .int 0])), (v1, .inr (8, [.int 0, .int 0, .int 0, .int 0])), (v2, .inr (8, [.int 0, .int 0, .int 0, .int 0])), (v3, .inr (8, [.int 0, .int 0, .int 0, .int 0])), (w0, .inr (8, [.int 0, .int 0, .int 0, .int 0])), (w1, .inr (8, [.int 0, .int 0, .int 0, .int 0])), (w2, .inr (8, [.int 0, .int 0, .int 0, .int 0])), (w3, .inr (8, [.int 0, .int 0, .int 0, .int 0]))] H := hP
    have hD : va_D A [(h, .inr (9, [.ref aT, .ref aB, .ref aS, .ref aR, .ref aF, .ref aC, .ref aX])), (aC, .inl (cC, 4, .inr (.inr (.inr (.inr gc))))), (c0, .inr (1, [.ref aB, .ref v0, .ref w0, .int 0, .int 0, .int 0, .int 0, .int 0, .int 0, .int 0, .int 0, .int 0, .int 0, .int 0, .int 0, .int 0, .long 0, .int 0, .int 0])), (c1, .inr (1, [.ref aB, .ref v1, .ref w1, .int 0, .int 0, .int 0, .int 0, .int 0, .int 0, .int 0, .int 0, .int 0, .int 0, .int 0, .int 0, .int 0, .long 0, .int 0, .int 0])), (c2, .inr (1, [.ref aB, .ref v2, .ref w2, .int 0, .int 0, .int 0, .int 0, .int 0, .int 0, .int 0, .int 0, .int 0, .int 0, .int 0, .int 0, .int 0, .long 0, .int 0, .int 0])), (c3, .inr (1, [.ref aB, .ref v3, .ref w3, .int 0, .int 0, .int 0, .int 0, .int 0, .int 0, .int 0, .int 0, .int 0, .int 0, .int 0, .int 0, .int 0, .long 0, .int 0, .int 0])), (v0, .inr (8, [.int 0, .int 0, .int 0, .int 0])), (v1, .inr (8, [.int 0, .int 0, .int 0, .int 0])), (v2, .inr (8, [.int 0, .int 0, .int 0, .int 0])), (v3, .inr (8, [.int 0, .int 0, .int 0, .int 0])), (w0, .inr (8, [.int 0, .int 0, .int 0, .int 0])), (w1, .inr (8, [.int 0, .int 0, .int 0, .int 0])), (w2, .inr (8, [.int 0, .int 0, .int 0, .int 0])), (w3, .inr (8, [.int 0, .int 0, .int 0, .int 0]))] := hD
    refine g_topi (y := 1) hr_2 ?_
    obtain ⟨j, hj, hij⟩ := i_in (n := 4) (by decide) h_2.1 h_2.2
    subst hij
    rcases (show j = 0 ∨ j = 1 ∨ j = 2 ∨ j = 3 by omega) with rfl | rfl | rfl | rfl
    · skip
      refine lv_if_ne (tgt := 10) hx hb dX10_mute_5 (by decide) (fun c_5 => ?_) (fun c_5 => absurd c_5 (by decide))
      refine lv_aload_n hx hb dX10_mute_10 rfl (lv_at hl 0 rfl) ?_
      refine va_get (D := (dC, dI)) (ci := 9) (v := .ref aC) (C := RX10) (T := TX10) (N := 7) hx hb hts iwX10 hown hK hP 0 rfl rfl 5 (by decide) (hts (.fieldLink RX10 48 "ModulePlayer" "channels" "[LModulePlayer$Channel;") (List.mem_cons_of_mem _ kw_37)) (fun _ h9 => h9) rfl dX10_mute_11 ?_
      refine lv_iload_n hx hb dX10_mute_14 rfl (lv_at hl 1 rfl) ?_
      refine g_aald hx hb hK hP 1 0 rfl rfl 0 (by decide) (y := c0) (hc0) (by unfold vp_in; decide) dX10_mute_15 ?_
      refine va_get (D := (dC, dI)) (ci := 1) (v := .int 0) (C := RX1) (T := TX1) (N := 19) hx hb hts iwX1 hown hK hP 2 rfl rfl 18 (by decide) (hts (.fieldLink RX10 176 "ModulePlayer$Channel" "muted" "Z") (List.mem_cons_of_mem _ kw_619)) (fun _ h9 => h9) rfl dX10_mute_16 ?_
      refine lv_istore_n (lv' := [(3, .int 0), (0, .ref h), (1, .int 0), (2, .int z)]) hx hb dX10_mute_19 rfl hl (by decide) rfl (fun ls hl => ?_)
      refine lv_aload_n hx hb dX10_mute_20 rfl (lv_at hl 1 rfl) ?_
      refine va_get (D := (dC, dI)) (ci := 9) (v := .ref aC) (C := RX10) (T := TX10) (N := 7) hx hb hts iwX10 hown hK hP 0 rfl rfl 5 (by decide) (hts (.fieldLink RX10 48 "ModulePlayer" "channels" "[LModulePlayer$Channel;") (List.mem_cons_of_mem _ kw_37)) (fun _ h9 => h9) rfl dX10_mute_21 ?_
      refine lv_iload_n hx hb dX10_mute_24 rfl (lv_at hl 2 rfl) ?_
      refine g_aald hx hb hK hP 1 0 rfl rfl 0 (by decide) (y := c0) (hc0) (by unfold vp_in; decide) dX10_mute_25 ?_
      refine lv_iload_n hx hb dX10_mute_26 rfl (lv_at hl 3 rfl) ?_
      refine va_put (D := (dC, dI)) (ci := 1) (v := .int z) (ty := tyX1 18) (C := RX1) (T := TX1) (N := 19) hx hb hts iwX1 tyX1 tyX1_ok nmX1 hown hK hP hD hS 2 rfl rfl 18 (by decide) (hts (.fieldLink RX10 176 "ModulePlayer$Channel" "muted" "Z") (List.mem_cons_of_mem _ kw_619)) (fun _ h9 => h9) rfl (by decide +kernel) (by rcases hz with rfl | rfl <;> rfl) (by rcases hz with rfl | rfl <;> rfl) (Nat.le_of_ble_eq_true rfl) dX10_mute_27 (fun H locs hP hD hS => ?_)
      have hP : va_P (dC, dI) vwCl [(h, .inr (9, [.ref aT, .ref aB, .ref aS, .ref aR, .ref aF, .ref aC, .ref aX])), (aC, .inl (cC, 4, .inr (.inr (.inr (.inr gc))))), (c0, .inr (1, [.ref aB, .ref v0, .ref w0, .int 0, .int 0, .int 0, .int 0, .int 0, .int 0, .int 0, .int 0, .int 0, .int 0, .int 0, .int 0, .int 0, .long 0, .int 0, .int z])), (c1, .inr (1, [.ref aB, .ref v1, .ref w1, .int 0, .int 0, .int 0, .int 0, .int 0, .int 0, .int 0, .int 0, .int 0, .int 0, .int 0, .int 0, .int 0, .long 0, .int 0, .int 0])), (c2, .inr (1, [.ref aB, .ref v2, .ref w2, .int 0, .int 0, .int 0, .int 0, .int 0, .int 0, .int 0, .int 0, .int 0, .int 0, .int 0, .int 0, .int 0, .long 0, .int 0, .int 0])), (c3, .inr (1, [.ref aB, .ref v3, .ref w3, .int 0, .int 0, .int 0, .int 0, .int 0, .int 0, .int 0, .int 0, .int 0, .int 0, .int 0, .int 0, .int 0, .long 0, .int 0, .int 0])), (v0, .inr (8, [.int 0, .int 0, .int 0, .int 0])), (v1, .inr (8, [.int 0, .int 0, .int 0, .int 0])), (v2, .inr (8, [.int 0, .int 0, .int 0, .int 0])), (v3, .inr (8, [.int 0, .int 0, .int 0, .int 0])), (w0, .inr (8, [.int 0, .int 0, .int 0, .int 0])), (w1, .inr (8, [.int 0, .int 0, .int 0, .int 0])), (w2, .inr (8, [.int 0, .int 0, .int 0, .int 0])), (w3, .inr (8, [.int 0, .int 0, .int 0, .int 0]))] H := hP
      have hD : va_D A [(h, .inr (9, [.ref aT, .ref aB, .ref aS, .ref aR, .ref aF, .ref aC, .ref aX])), (aC, .inl (cC, 4, .inr (.inr (.inr (.inr gc))))), (c0, .inr (1, [.ref aB, .ref v0, .ref w0, .int 0, .int 0, .int 0, .int 0, .int 0, .int 0, .int 0, .int 0, .int 0, .int 0, .int 0, .int 0, .int 0, .long 0, .int 0, .int z])), (c1, .inr (1, [.ref aB, .ref v1, .ref w1, .int 0, .int 0, .int 0, .int 0, .int 0, .int 0, .int 0, .int 0, .int 0, .int 0, .int 0, .int 0, .int 0, .long 0, .int 0, .int 0])), (c2, .inr (1, [.ref aB, .ref v2, .ref w2, .int 0, .int 0, .int 0, .int 0, .int 0, .int 0, .int 0, .int 0, .int 0, .int 0, .int 0, .int 0, .int 0, .long 0, .int 0, .int 0])), (c3, .inr (1, [.ref aB, .ref v3, .ref w3, .int 0, .int 0, .int 0, .int 0, .int 0, .int 0, .int 0, .int 0, .int 0, .int 0, .int 0, .int 0, .int 0, .long 0, .int 0, .int 0])), (v0, .inr (8, [.int 0, .int 0, .int 0, .int 0])), (v1, .inr (8, [.int 0, .int 0, .int 0, .int 0])), (v2, .inr (8, [.int 0, .int 0, .int 0, .int 0])), (v3, .inr (8, [.int 0, .int 0, .int 0, .int 0])), (w0, .inr (8, [.int 0, .int 0, .int 0, .int 0])), (w1, .inr (8, [.int 0, .int 0, .int 0, .int 0])), (w2, .inr (8, [.int 0, .int 0, .int 0, .int 0])), (w3, .inr (8, [.int 0, .int 0, .int 0, .int 0]))] := hD
      refine lv_iload_n hx hb dX10_mute_30 rfl (lv_at hl 0 rfl) ?_
      have hP9 := hP.sub (ws' := []) [] rfl
      have hD9 := hD.sub (ws' := []) [] (by decide) rfl
      have hK9 := hK.sub (tys' := []) [] rfl
      exact W.zret (v := 0) hx hb hr (by decide) (fun t ht hW => ⟨⟨0, ([], []), rfl, ⟨rfl, rfl⟩, by rw [ht]; exact hP9, va_K.moved hW.alike hK9, hD9⟩, hS.F ht⟩) hS.2.2 dX10_mute_31
    · skip
      refine lv_if_ne (tgt := 10) hx hb dX10_mute_5 (by decide) (fun c_5 => ?_) (fun c_5 => absurd c_5 (by decide))
      refine lv_aload_n hx hb dX10_mute_10 rfl (lv_at hl 0 rfl) ?_
      refine va_get (D := (dC, dI)) (ci := 9) (v := .ref aC) (C := RX10) (T := TX10) (N := 7) hx hb hts iwX10 hown hK hP 0 rfl rfl 5 (by decide) (hts (.fieldLink RX10 48 "ModulePlayer" "channels" "[LModulePlayer$Channel;") (List.mem_cons_of_mem _ kw_37)) (fun _ h9 => h9) rfl dX10_mute_11 ?_
      refine lv_iload_n hx hb dX10_mute_14 rfl (lv_at hl 1 rfl) ?_
      refine g_aald hx hb hK hP 1 0 rfl rfl 1 (by decide) (y := c1) (hc1) (by unfold vp_in; decide) dX10_mute_15 ?_
      refine va_get (D := (dC, dI)) (ci := 1) (v := .int 0) (C := RX1) (T := TX1) (N := 19) hx hb hts iwX1 hown hK hP 3 rfl rfl 18 (by decide) (hts (.fieldLink RX10 176 "ModulePlayer$Channel" "muted" "Z") (List.mem_cons_of_mem _ kw_619)) (fun _ h9 => h9) rfl dX10_mute_16 ?_
      refine lv_istore_n (lv' := [(3, .int 0), (0, .ref h), (1, .int 1), (2, .int z)]) hx hb dX10_mute_19 rfl hl (by decide) rfl (fun ls hl => ?_)
      refine lv_aload_n hx hb dX10_mute_20 rfl (lv_at hl 1 rfl) ?_
      refine va_get (D := (dC, dI)) (ci := 9) (v := .ref aC) (C := RX10) (T := TX10) (N := 7) hx hb hts iwX10 hown hK hP 0 rfl rfl 5 (by decide) (hts (.fieldLink RX10 48 "ModulePlayer" "channels" "[LModulePlayer$Channel;") (List.mem_cons_of_mem _ kw_37)) (fun _ h9 => h9) rfl dX10_mute_21 ?_
      refine lv_iload_n hx hb dX10_mute_24 rfl (lv_at hl 2 rfl) ?_
      refine g_aald hx hb hK hP 1 0 rfl rfl 1 (by decide) (y := c1) (hc1) (by unfold vp_in; decide) dX10_mute_25 ?_
      refine lv_iload_n hx hb dX10_mute_26 rfl (lv_at hl 3 rfl) ?_
      refine va_put (D := (dC, dI)) (ci := 1) (v := .int z) (ty := tyX1 18) (C := RX1) (T := TX1) (N := 19) hx hb hts iwX1 tyX1 tyX1_ok nmX1 hown hK hP hD hS 3 rfl rfl 18 (by decide) (hts (.fieldLink RX10 176 "ModulePlayer$Channel" "muted" "Z") (List.mem_cons_of_mem _ kw_619)) (fun _ h9 => h9) rfl (by decide +kernel) (by rcases hz with rfl | rfl <;> rfl) (by rcases hz with rfl | rfl <;> rfl) (Nat.le_of_ble_eq_true rfl) dX10_mute_27 (fun H locs hP hD hS => ?_)
      have hP : va_P (dC, dI) vwCl [(h, .inr (9, [.ref aT, .ref aB, .ref aS, .ref aR, .ref aF, .ref aC, .ref aX])), (aC, .inl (cC, 4, .inr (.inr (.inr (.inr gc))))), (c0, .inr (1, [.ref aB, .ref v0, .ref w0, .int 0, .int 0, .int 0, .int 0, .int 0, .int 0, .int 0, .int 0, .int 0, .int 0, .int 0, .int 0, .int 0, .long 0, .int 0, .int 0])), (c1, .inr (1, [.ref aB, .ref v1, .ref w1, .int 0, .int 0, .int 0, .int 0, .int 0, .int 0, .int 0, .int 0, .int 0, .int 0, .int 0, .int 0, .int 0, .long 0, .int 0, .int z])), (c2, .inr (1, [.ref aB, .ref v2, .ref w2, .int 0, .int 0, .int 0, .int 0, .int 0, .int 0, .int 0, .int 0, .int 0, .int 0, .int 0, .int 0, .int 0, .long 0, .int 0, .int 0])), (c3, .inr (1, [.ref aB, .ref v3, .ref w3, .int 0, .int 0, .int 0, .int 0, .int 0, .int 0, .int 0, .int 0, .int 0, .int 0, .int 0, .int 0, .int 0, .long 0, .int 0, .int 0])), (v0, .inr (8, [.int 0, .int 0, .int 0, .int 0])), (v1, .inr (8, [.int 0, .int 0, .int 0, .int 0])), (v2, .inr (8, [.int 0, .int 0, .int 0, .int 0])), (v3, .inr (8, [.int 0, .int 0, .int 0, .int 0])), (w0, .inr (8, [.int 0, .int 0, .int 0, .int 0])), (w1, .inr (8, [.int 0, .int 0, .int 0, .int 0])), (w2, .inr (8, [.int 0, .int 0, .int 0, .int 0])), (w3, .inr (8, [.int 0, .int 0, .int 0, .int 0]))] H := hP
      have hD : va_D A [(h, .inr (9, [.ref aT, .ref aB, .ref aS, .ref aR, .ref aF, .ref aC, .ref aX])), (aC, .inl (cC, 4, .inr (.inr (.inr (.inr gc))))), (c0, .inr (1, [.ref aB, .ref v0, .ref w0, .int 0, .int 0, .int 0, .int 0, .int 0, .int 0, .int 0, .int 0, .int 0, .int 0, .int 0, .int 0, .int 0, .long 0, .int 0, .int 0])), (c1, .inr (1, [.ref aB, .ref v1, .ref w1, .int 0, .int 0, .int 0, .int 0, .int 0, .int 0, .int 0, .int 0, .int 0, .int 0, .int 0, .int 0, .int 0, .long 0, .int 0, .int z])), (c2, .inr (1, [.ref aB, .ref v2, .ref w2, .int 0, .int 0, .int 0, .int 0, .int 0, .int 0, .int 0, .int 0, .int 0, .int 0, .int 0, .int 0, .int 0, .long 0, .int 0, .int 0])), (c3, .inr (1, [.ref aB, .ref v3, .ref w3, .int 0, .int 0, .int 0, .int 0, .int 0, .int 0, .int 0, .int 0, .int 0, .int 0, .int 0, .int 0, .int 0, .long 0, .int 0, .int 0])), (v0, .inr (8, [.int 0, .int 0, .int 0, .int 0])), (v1, .inr (8, [.int 0, .int 0, .int 0, .int 0])), (v2, .inr (8, [.int 0, .int 0, .int 0, .int 0])), (v3, .inr (8, [.int 0, .int 0, .int 0, .int 0])), (w0, .inr (8, [.int 0, .int 0, .int 0, .int 0])), (w1, .inr (8, [.int 0, .int 0, .int 0, .int 0])), (w2, .inr (8, [.int 0, .int 0, .int 0, .int 0])), (w3, .inr (8, [.int 0, .int 0, .int 0, .int 0]))] := hD
      refine lv_iload_n hx hb dX10_mute_30 rfl (lv_at hl 0 rfl) ?_
      have hP9 := hP.sub (ws' := []) [] rfl
      have hD9 := hD.sub (ws' := []) [] (by decide) rfl
      have hK9 := hK.sub (tys' := []) [] rfl
      exact W.zret (v := 0) hx hb hr (by decide) (fun t ht hW => ⟨⟨0, ([], []), rfl, ⟨rfl, rfl⟩, by rw [ht]; exact hP9, va_K.moved hW.alike hK9, hD9⟩, hS.F ht⟩) hS.2.2 dX10_mute_31
    · skip
      refine lv_if_ne (tgt := 10) hx hb dX10_mute_5 (by decide) (fun c_5 => ?_) (fun c_5 => absurd c_5 (by decide))
      refine lv_aload_n hx hb dX10_mute_10 rfl (lv_at hl 0 rfl) ?_
      refine va_get (D := (dC, dI)) (ci := 9) (v := .ref aC) (C := RX10) (T := TX10) (N := 7) hx hb hts iwX10 hown hK hP 0 rfl rfl 5 (by decide) (hts (.fieldLink RX10 48 "ModulePlayer" "channels" "[LModulePlayer$Channel;") (List.mem_cons_of_mem _ kw_37)) (fun _ h9 => h9) rfl dX10_mute_11 ?_
      refine lv_iload_n hx hb dX10_mute_14 rfl (lv_at hl 1 rfl) ?_
      refine g_aald hx hb hK hP 1 0 rfl rfl 2 (by decide) (y := c2) (hc2) (by unfold vp_in; decide) dX10_mute_15 ?_
      refine va_get (D := (dC, dI)) (ci := 1) (v := .int 0) (C := RX1) (T := TX1) (N := 19) hx hb hts iwX1 hown hK hP 4 rfl rfl 18 (by decide) (hts (.fieldLink RX10 176 "ModulePlayer$Channel" "muted" "Z") (List.mem_cons_of_mem _ kw_619)) (fun _ h9 => h9) rfl dX10_mute_16 ?_
      refine lv_istore_n (lv' := [(3, .int 0), (0, .ref h), (1, .int 2), (2, .int z)]) hx hb dX10_mute_19 rfl hl (by decide) rfl (fun ls hl => ?_)
      refine lv_aload_n hx hb dX10_mute_20 rfl (lv_at hl 1 rfl) ?_
      refine va_get (D := (dC, dI)) (ci := 9) (v := .ref aC) (C := RX10) (T := TX10) (N := 7) hx hb hts iwX10 hown hK hP 0 rfl rfl 5 (by decide) (hts (.fieldLink RX10 48 "ModulePlayer" "channels" "[LModulePlayer$Channel;") (List.mem_cons_of_mem _ kw_37)) (fun _ h9 => h9) rfl dX10_mute_21 ?_
      refine lv_iload_n hx hb dX10_mute_24 rfl (lv_at hl 2 rfl) ?_
      refine g_aald hx hb hK hP 1 0 rfl rfl 2 (by decide) (y := c2) (hc2) (by unfold vp_in; decide) dX10_mute_25 ?_
      refine lv_iload_n hx hb dX10_mute_26 rfl (lv_at hl 3 rfl) ?_
      refine va_put (D := (dC, dI)) (ci := 1) (v := .int z) (ty := tyX1 18) (C := RX1) (T := TX1) (N := 19) hx hb hts iwX1 tyX1 tyX1_ok nmX1 hown hK hP hD hS 4 rfl rfl 18 (by decide) (hts (.fieldLink RX10 176 "ModulePlayer$Channel" "muted" "Z") (List.mem_cons_of_mem _ kw_619)) (fun _ h9 => h9) rfl (by decide +kernel) (by rcases hz with rfl | rfl <;> rfl) (by rcases hz with rfl | rfl <;> rfl) (Nat.le_of_ble_eq_true rfl) dX10_mute_27 (fun H locs hP hD hS => ?_)
      have hP : va_P (dC, dI) vwCl [(h, .inr (9, [.ref aT, .ref aB, .ref aS, .ref aR, .ref aF, .ref aC, .ref aX])), (aC, .inl (cC, 4, .inr (.inr (.inr (.inr gc))))), (c0, .inr (1, [.ref aB, .ref v0, .ref w0, .int 0, .int 0, .int 0, .int 0, .int 0, .int 0, .int 0, .int 0, .int 0, .int 0, .int 0, .int 0, .int 0, .long 0, .int 0, .int 0])), (c1, .inr (1, [.ref aB, .ref v1, .ref w1, .int 0, .int 0, .int 0, .int 0, .int 0, .int 0, .int 0, .int 0, .int 0, .int 0, .int 0, .int 0, .int 0, .long 0, .int 0, .int 0])), (c2, .inr (1, [.ref aB, .ref v2, .ref w2, .int 0, .int 0, .int 0, .int 0, .int 0, .int 0, .int 0, .int 0, .int 0, .int 0, .int 0, .int 0, .int 0, .long 0, .int 0, .int z])), (c3, .inr (1, [.ref aB, .ref v3, .ref w3, .int 0, .int 0, .int 0, .int 0, .int 0, .int 0, .int 0, .int 0, .int 0, .int 0, .int 0, .int 0, .int 0, .long 0, .int 0, .int 0])), (v0, .inr (8, [.int 0, .int 0, .int 0, .int 0])), (v1, .inr (8, [.int 0, .int 0, .int 0, .int 0])), (v2, .inr (8, [.int 0, .int 0, .int 0, .int 0])), (v3, .inr (8, [.int 0, .int 0, .int 0, .int 0])), (w0, .inr (8, [.int 0, .int 0, .int 0, .int 0])), (w1, .inr (8, [.int 0, .int 0, .int 0, .int 0])), (w2, .inr (8, [.int 0, .int 0, .int 0, .int 0])), (w3, .inr (8, [.int 0, .int 0, .int 0, .int 0]))] H := hP
      have hD : va_D A [(h, .inr (9, [.ref aT, .ref aB, .ref aS, .ref aR, .ref aF, .ref aC, .ref aX])), (aC, .inl (cC, 4, .inr (.inr (.inr (.inr gc))))), (c0, .inr (1, [.ref aB, .ref v0, .ref w0, .int 0, .int 0, .int 0, .int 0, .int 0, .int 0, .int 0, .int 0, .int 0, .int 0, .int 0, .int 0, .int 0, .long 0, .int 0, .int 0])), (c1, .inr (1, [.ref aB, .ref v1, .ref w1, .int 0, .int 0, .int 0, .int 0, .int 0, .int 0, .int 0, .int 0, .int 0, .int 0, .int 0, .int 0, .int 0, .long 0, .int 0, .int 0])), (c2, .inr (1, [.ref aB, .ref v2, .ref w2, .int 0, .int 0, .int 0, .int 0, .int 0, .int 0, .int 0, .int 0, .int 0, .int 0, .int 0, .int 0, .int 0, .long 0, .int 0, .int z])), (c3, .inr (1, [.ref aB, .ref v3, .ref w3, .int 0, .int 0, .int 0, .int 0, .int 0, .int 0, .int 0, .int 0, .int 0, .int 0, .int 0, .int 0, .int 0, .long 0, .int 0, .int 0])), (v0, .inr (8, [.int 0, .int 0, .int 0, .int 0])), (v1, .inr (8, [.int 0, .int 0, .int 0, .int 0])), (v2, .inr (8, [.int 0, .int 0, .int 0, .int 0])), (v3, .inr (8, [.int 0, .int 0, .int 0, .int 0])), (w0, .inr (8, [.int 0, .int 0, .int 0, .int 0])), (w1, .inr (8, [.int 0, .int 0, .int 0, .int 0])), (w2, .inr (8, [.int 0, .int 0, .int 0, .int 0])), (w3, .inr (8, [.int 0, .int 0, .int 0, .int 0]))] := hD
      refine lv_iload_n hx hb dX10_mute_30 rfl (lv_at hl 0 rfl) ?_
      have hP9 := hP.sub (ws' := []) [] rfl
      have hD9 := hD.sub (ws' := []) [] (by decide) rfl
      have hK9 := hK.sub (tys' := []) [] rfl
      exact W.zret (v := 0) hx hb hr (by decide) (fun t ht hW => ⟨⟨0, ([], []), rfl, ⟨rfl, rfl⟩, by rw [ht]; exact hP9, va_K.moved hW.alike hK9, hD9⟩, hS.F ht⟩) hS.2.2 dX10_mute_31
    · skip
      refine lv_if_ne (tgt := 10) hx hb dX10_mute_5 (by decide) (fun c_5 => ?_) (fun c_5 => absurd c_5 (by decide))
      refine lv_aload_n hx hb dX10_mute_10 rfl (lv_at hl 0 rfl) ?_
      refine va_get (D := (dC, dI)) (ci := 9) (v := .ref aC) (C := RX10) (T := TX10) (N := 7) hx hb hts iwX10 hown hK hP 0 rfl rfl 5 (by decide) (hts (.fieldLink RX10 48 "ModulePlayer" "channels" "[LModulePlayer$Channel;") (List.mem_cons_of_mem _ kw_37)) (fun _ h9 => h9) rfl dX10_mute_11 ?_
      refine lv_iload_n hx hb dX10_mute_14 rfl (lv_at hl 1 rfl) ?_
      refine g_aald hx hb hK hP 1 0 rfl rfl 3 (by decide) (y := c3) (hc3) (by unfold vp_in; decide) dX10_mute_15 ?_
      refine va_get (D := (dC, dI)) (ci := 1) (v := .int 0) (C := RX1) (T := TX1) (N := 19) hx hb hts iwX1 hown hK hP 5 rfl rfl 18 (by decide) (hts (.fieldLink RX10 176 "ModulePlayer$Channel" "muted" "Z") (List.mem_cons_of_mem _ kw_619)) (fun _ h9 => h9) rfl dX10_mute_16 ?_
      refine lv_istore_n (lv' := [(3, .int 0), (0, .ref h), (1, .int 3), (2, .int z)]) hx hb dX10_mute_19 rfl hl (by decide) rfl (fun ls hl => ?_)
      refine lv_aload_n hx hb dX10_mute_20 rfl (lv_at hl 1 rfl) ?_
      refine va_get (D := (dC, dI)) (ci := 9) (v := .ref aC) (C := RX10) (T := TX10) (N := 7) hx hb hts iwX10 hown hK hP 0 rfl rfl 5 (by decide) (hts (.fieldLink RX10 48 "ModulePlayer" "channels" "[LModulePlayer$Channel;") (List.mem_cons_of_mem _ kw_37)) (fun _ h9 => h9) rfl dX10_mute_21 ?_
      refine lv_iload_n hx hb dX10_mute_24 rfl (lv_at hl 2 rfl) ?_
      refine g_aald hx hb hK hP 1 0 rfl rfl 3 (by decide) (y := c3) (hc3) (by unfold vp_in; decide) dX10_mute_25 ?_
      refine lv_iload_n hx hb dX10_mute_26 rfl (lv_at hl 3 rfl) ?_
      refine va_put (D := (dC, dI)) (ci := 1) (v := .int z) (ty := tyX1 18) (C := RX1) (T := TX1) (N := 19) hx hb hts iwX1 tyX1 tyX1_ok nmX1 hown hK hP hD hS 5 rfl rfl 18 (by decide) (hts (.fieldLink RX10 176 "ModulePlayer$Channel" "muted" "Z") (List.mem_cons_of_mem _ kw_619)) (fun _ h9 => h9) rfl (by decide +kernel) (by rcases hz with rfl | rfl <;> rfl) (by rcases hz with rfl | rfl <;> rfl) (Nat.le_of_ble_eq_true rfl) dX10_mute_27 (fun H locs hP hD hS => ?_)
      have hP : va_P (dC, dI) vwCl [(h, .inr (9, [.ref aT, .ref aB, .ref aS, .ref aR, .ref aF, .ref aC, .ref aX])), (aC, .inl (cC, 4, .inr (.inr (.inr (.inr gc))))), (c0, .inr (1, [.ref aB, .ref v0, .ref w0, .int 0, .int 0, .int 0, .int 0, .int 0, .int 0, .int 0, .int 0, .int 0, .int 0, .int 0, .int 0, .int 0, .long 0, .int 0, .int 0])), (c1, .inr (1, [.ref aB, .ref v1, .ref w1, .int 0, .int 0, .int 0, .int 0, .int 0, .int 0, .int 0, .int 0, .int 0, .int 0, .int 0, .int 0, .int 0, .long 0, .int 0, .int 0])), (c2, .inr (1, [.ref aB, .ref v2, .ref w2, .int 0, .int 0, .int 0, .int 0, .int 0, .int 0, .int 0, .int 0, .int 0, .int 0, .int 0, .int 0, .int 0, .long 0, .int 0, .int 0])), (c3, .inr (1, [.ref aB, .ref v3, .ref w3, .int 0, .int 0, .int 0, .int 0, .int 0, .int 0, .int 0, .int 0, .int 0, .int 0, .int 0, .int 0, .int 0, .long 0, .int 0, .int z])), (v0, .inr (8, [.int 0, .int 0, .int 0, .int 0])), (v1, .inr (8, [.int 0, .int 0, .int 0, .int 0])), (v2, .inr (8, [.int 0, .int 0, .int 0, .int 0])), (v3, .inr (8, [.int 0, .int 0, .int 0, .int 0])), (w0, .inr (8, [.int 0, .int 0, .int 0, .int 0])), (w1, .inr (8, [.int 0, .int 0, .int 0, .int 0])), (w2, .inr (8, [.int 0, .int 0, .int 0, .int 0])), (w3, .inr (8, [.int 0, .int 0, .int 0, .int 0]))] H := hP
      have hD : va_D A [(h, .inr (9, [.ref aT, .ref aB, .ref aS, .ref aR, .ref aF, .ref aC, .ref aX])), (aC, .inl (cC, 4, .inr (.inr (.inr (.inr gc))))), (c0, .inr (1, [.ref aB, .ref v0, .ref w0, .int 0, .int 0, .int 0, .int 0, .int 0, .int 0, .int 0, .int 0, .int 0, .int 0, .int 0, .int 0, .int 0, .long 0, .int 0, .int 0])), (c1, .inr (1, [.ref aB, .ref v1, .ref w1, .int 0, .int 0, .int 0, .int 0, .int 0, .int 0, .int 0, .int 0, .int 0, .int 0, .int 0, .int 0, .int 0, .long 0, .int 0, .int 0])), (c2, .inr (1, [.ref aB, .ref v2, .ref w2, .int 0, .int 0, .int 0, .int 0, .int 0, .int 0, .int 0, .int 0, .int 0, .int 0, .int 0, .int 0, .int 0, .long 0, .int 0, .int 0])), (c3, .inr (1, [.ref aB, .ref v3, .ref w3, .int 0, .int 0, .int 0, .int 0, .int 0, .int 0, .int 0, .int 0, .int 0, .int 0, .int 0, .int 0, .int 0, .long 0, .int 0, .int z])), (v0, .inr (8, [.int 0, .int 0, .int 0, .int 0])), (v1, .inr (8, [.int 0, .int 0, .int 0, .int 0])), (v2, .inr (8, [.int 0, .int 0, .int 0, .int 0])), (v3, .inr (8, [.int 0, .int 0, .int 0, .int 0])), (w0, .inr (8, [.int 0, .int 0, .int 0, .int 0])), (w1, .inr (8, [.int 0, .int 0, .int 0, .int 0])), (w2, .inr (8, [.int 0, .int 0, .int 0, .int 0])), (w3, .inr (8, [.int 0, .int 0, .int 0, .int 0]))] := hD
      refine lv_iload_n hx hb dX10_mute_30 rfl (lv_at hl 0 rfl) ?_
      have hP9 := hP.sub (ws' := []) [] rfl
      have hD9 := hD.sub (ws' := []) [] (by decide) rfl
      have hK9 := hK.sub (tys' := []) [] rfl
      exact W.zret (v := 0) hx hb hr (by decide) (fun t ht hW => ⟨⟨0, ([], []), rfl, ⟨rfl, rfl⟩, by rw [ht]; exact hP9, va_K.moved hW.alike hK9, hD9⟩, hS.F ht⟩) hS.2.2 dX10_mute_31
  cases hu
  have hP : va_P (dC, dI) vwCl [(h, .inr (9, [.ref aT, .ref aB, .ref aS, .ref aR, .ref aF, .ref aC, .ref aX])), (aC, .inl (cC, 4, .inr (.inr (.inr (.inr gc))))), (c0, .inr (1, [.ref aB, .ref v0, .ref w0, .int 0, .int 0, .int 0, .int 0, .int 0, .int 0, .int 0, .int 0, .int 0, .int 0, .int 0, .int 0, .int 0, .long 0, .int 0, .int 0])), (c1, .inr (1, [.ref aB, .ref v1, .ref w1, .int 0, .int 0, .int 0, .int 0, .int 0, .int 0, .int 0, .int 0, .int 0, .int 0, .int 0, .int 0, .int 0, .long 0, .int 0, .int 0])), (c2, .inr (1, [.ref aB, .ref v2, .ref w2, .int 0, .int 0, .int 0, .int 0, .int 0, .int 0, .int 0, .int 0, .int 0, .int 0, .int 0, .int 0, .int 0, .long 0, .int 0, .int 0])), (c3, .inr (1, [.ref aB, .ref v3, .ref w3, .int 0, .int 0, .int 0, .int 0, .int 0, .int 0, .int 0, .int 0, .int 0, .int 0, .int 0, .int 0, .int 0, .long 0, .int 0, .int 0])), (v0, .inr (8, [.int 0, .int 0, .int 0, .int 0])), (v1, .inr (8, [.int 0, .int 0, .int 0, .int 0])), (v2, .inr (8, [.int 0, .int 0, .int 0, .int 0])), (v3, .inr (8, [.int 0, .int 0, .int 0, .int 0])), (w0, .inr (8, [.int 0, .int 0, .int 0, .int 0])), (w1, .inr (8, [.int 0, .int 0, .int 0, .int 0])), (w2, .inr (8, [.int 0, .int 0, .int 0, .int 0])), (w3, .inr (8, [.int 0, .int 0, .int 0, .int 0]))] H := hP
  have hD : va_D A [(h, .inr (9, [.ref aT, .ref aB, .ref aS, .ref aR, .ref aF, .ref aC, .ref aX])), (aC, .inl (cC, 4, .inr (.inr (.inr (.inr gc))))), (c0, .inr (1, [.ref aB, .ref v0, .ref w0, .int 0, .int 0, .int 0, .int 0, .int 0, .int 0, .int 0, .int 0, .int 0, .int 0, .int 0, .int 0, .int 0, .long 0, .int 0, .int 0])), (c1, .inr (1, [.ref aB, .ref v1, .ref w1, .int 0, .int 0, .int 0, .int 0, .int 0, .int 0, .int 0, .int 0, .int 0, .int 0, .int 0, .int 0, .int 0, .long 0, .int 0, .int 0])), (c2, .inr (1, [.ref aB, .ref v2, .ref w2, .int 0, .int 0, .int 0, .int 0, .int 0, .int 0, .int 0, .int 0, .int 0, .int 0, .int 0, .int 0, .int 0, .long 0, .int 0, .int 0])), (c3, .inr (1, [.ref aB, .ref v3, .ref w3, .int 0, .int 0, .int 0, .int 0, .int 0, .int 0, .int 0, .int 0, .int 0, .int 0, .int 0, .int 0, .int 0, .long 0, .int 0, .int 0])), (v0, .inr (8, [.int 0, .int 0, .int 0, .int 0])), (v1, .inr (8, [.int 0, .int 0, .int 0, .int 0])), (v2, .inr (8, [.int 0, .int 0, .int 0, .int 0])), (v3, .inr (8, [.int 0, .int 0, .int 0, .int 0])), (w0, .inr (8, [.int 0, .int 0, .int 0, .int 0])), (w1, .inr (8, [.int 0, .int 0, .int 0, .int 0])), (w2, .inr (8, [.int 0, .int 0, .int 0, .int 0])), (w3, .inr (8, [.int 0, .int 0, .int 0, .int 0]))] := hD
  refine g_topi (y := 0) hr_2 ?_
  refine lv_if_ne (tgt := 10) hx hb dX10_mute_5 (by decide) (fun c_5 => absurd c_5 (by decide)) (fun c_5 => ?_)
  refine lv_iconst (v := 0) hx hb dX10_mute_8 (by decide) ?_
  have hP9 := hP.sub (ws' := []) [] rfl
  have hD9 := hD.sub (ws' := []) [] (by decide) rfl
  have hK9 := hK.sub (tys' := []) [] rfl
  exact W.zret (v := 0) hx hb hr (by decide) (fun t ht hW => ⟨⟨0, ([], []), rfl, ⟨rfl, rfl⟩, by rw [ht]; exact hP9, va_K.moved hW.alike hK9, hD9⟩, hS.F ht⟩) hS.2.2 dX10_mute_9

set_option maxHeartbeats 400000 in
set_option maxRecDepth 100000 in
/-- now, first -/
theorem f_now (l : Launch) (dC : Nat → ClassId) (dI : Nat → Nat → Nat) (sz : Nat) (h aT aB aS aR aF aC aX : Nat) (be le ri : Nat) (ra : Int32) (x : Int32) : Met l yX10_now (wsG (.code yX10_now cX10_now 2 (some .int))) ({ frames := 0, cells := 0, slots := 0, locals := 0 }) (va_Pc [.ref h, .int x] (gP (dC, dI) [] [(h, .inr (9, [.ref aT, .ref aB, .ref aS, .ref aR, .ref aF, .ref aC, .ref aX])), (aF, .inr (2, [.ref aS, .ref be, .int 6, .int 125, .int 0, .int 0, .int 0, .int 0, .int 0, .int 0, .int (-1), .int (-1), .int (-1)])), (aX, .inr (3, [.int ra, .ref le, .ref ri, .int 0, .int 17]))] sz)) (va_Qi (fun (r : Int32) (u : va_W × gT) => u = ([], []) ∧ r = nowF x) (gB (dC, dI) (va_A [(h, .inr (9, [.ref aT, .ref aB, .ref aS, .ref aR, .ref aF, .ref aC, .ref aX])), (aF, .inr (2, [.ref aS, .ref be, .int 6, .int 125, .int 0, .int 0, .int 0, .int 0, .int 0, .int 0, .int (-1), .int (-1), .int (-1)])), (aX, .inr (3, [.int ra, .ref le, .ref ri, .int 0, .int 17]))] sz)) (va_A [(h, .inr (9, [.ref aT, .ref aB, .ref aS, .ref aR, .ref aF, .ref aC, .ref aX])), (aF, .inr (2, [.ref aS, .ref be, .int 6, .int 125, .int 0, .int 0, .int 0, .int 0, .int 0, .int 0, .int (-1), .int (-1), .int (-1)])), (aX, .inr (3, [.int ra, .ref le, .ref ri, .int 0, .int 17]))] sz)) 0 0 (va_A [(h, .inr (9, [.ref aT, .ref aB, .ref aS, .ref aR, .ref aF, .ref aC, .ref aX])), (aF, .inr (2, [.ref aS, .ref be, .int 6, .int 125, .int 0, .int 0, .int 0, .int 0, .int 0, .int 0, .int (-1), .int (-1), .int (-1)])), (aX, .inr (3, [.int ra, .ref le, .ref ri, .int 0, .int 17]))] sz) := by
  refine Met.ofW (cc := cX10_now) (maxL := 2) (ret := (some .int)) (by decide) rfl ?_
  intro p e s m args below meth c s₁ B hml hv
  obtain ⟨rfl, hsz, hP, hK, hD0, hN, hZ⟩ := hv
  have hx := B.exec
  have hb := B.bytes
  have hr := B.returns
  have hts := atoms_spec (ws := (wsG (.code yX10_now cX10_now 2 (some .int)))) B.pre
  have hown : s.vm.findClass RX10 = some m.cls := findClass_of_methodNamed B.named
  have hlocks := B.notSynchronized
  subst hsz
  have hD := hD0.self (sz := s.heap.size)
  generalize hAe : va_A [(h, .inr (9, [.ref aT, .ref aB, .ref aS, .ref aR, .ref aF, .ref aC, .ref aX])), (aF, .inr (2, [.ref aS, .ref be, .int 6, .int 125, .int 0, .int 0, .int 0, .int 0, .int 0, .int 0, .int (-1), .int (-1), .int (-1)])), (aX, .inr (3, [.int ra, .ref le, .ref ri, .int 0, .int 17]))] s.heap.size = A at hD hZ ⊢
  have hA : ∀ q : Nat, s.heap.size ≤ q → A q := fun q h => by rw [← hAe]; exact Or.inr h
  have hl := lv_entry ([.ref h, .int x]) (n := 2) (Nat.le_of_ble_eq_true rfl)
  rw [lg_entry_eq]
  generalize (lg_sl ([.ref h, .int x]) ++ List.replicate (2 - (lg_sl ([.ref h, .int x])).length) Slot.unset).toArray = ls at hl ⊢
  have hl : lv_has ls 2 [(0, .ref h), (1, .int x)] := hl
  refine g_start (A := A) hP (fun H locs hP hS => ?_)
  refine lv_aload_n hx hb dX10_now_0 rfl (lv_at hl 0 rfl) ?_
  refine va_get (D := (dC, dI)) (ci := 9) (v := .ref aF) (C := RX10) (T := TX10) (N := 7) hx hb hts iwX10 hown hK hP 0 rfl rfl 4 (by decide) (hts (.fieldLink RX10 42 "ModulePlayer" "flow" "LModulePlayer$Flow;") (List.mem_cons_of_mem _ kw_35)) (fun _ h9 => h9) rfl dX10_now_1 ?_
  refine va_get (D := (dC, dI)) (ci := 2) (v := .int 0) (C := RX2) (T := TX2) (N := 13) hx hb hts iwX2 hown hK hP 1 rfl rfl 7 (by decide) (hts (.fieldLink RX10 183 "ModulePlayer$Flow" "ticks" "I") (List.mem_cons_of_mem _ kw_628)) (fun _ h9 => h9) rfl dX10_now_4 ?_
  refine lv_if_ne (tgt := 21) hx hb dX10_now_7 (by decide) (fun c_7 => absurd c_7 (by decide)) (fun c_7 => ?_)
  refine lv_iload_n hx hb dX10_now_10 rfl (lv_at hl 1 rfl) ?_
  refine lv_if_lt (tgt := 21) hx hb dX10_now_11 (by decide) (fun c_11 => ?_) (fun c_11 => ?_)
  · refine lv_iload_n hx hb dX10_now_21 rfl (lv_at hl 1 rfl) ?_
    by_cases hlo_22 : x.toInt < 0
    · refine lv_tableOut (tgt := 144) hx hb dX10_now_22 (Or.inl hlo_22) (by decide) ?_
      refine lv_iconst (v := (-1)) hx hb dX10_now_144 (by decide) ?_
      have hP9 := hP.sub (ws' := []) [] rfl
      have hD9 := hD.sub (ws' := []) [] (by decide) rfl
      have hK9 := hK.sub (tys' := []) [] rfl
      exact W.iret (v := (-1)) hx hb hr (fun t ht hW => ⟨⟨(-1), ([], []), rfl, ⟨rfl, nowF_out (by first | exact Or.inl (by omega) | exact Or.inr hhi_22)⟩, by rw [ht]; exact hP9, va_K.moved hW.alike hK9, hD9⟩, hS.F ht⟩) hS.2.2 dX10_now_145
    by_cases hhi_22 : 8 < x.toInt
    · refine lv_tableOut (tgt := 144) hx hb dX10_now_22 (Or.inr hhi_22) (by decide) ?_
      refine lv_iconst (v := (-1)) hx hb dX10_now_144 (by decide) ?_
      have hP9 := hP.sub (ws' := []) [] rfl
      have hD9 := hD.sub (ws' := []) [] (by decide) rfl
      have hK9 := hK.sub (tys' := []) [] rfl
      exact W.iret (v := (-1)) hx hb hr (fun t ht hW => ⟨⟨(-1), ([], []), rfl, ⟨rfl, nowF_out (by first | exact Or.inl (by omega) | exact Or.inr hhi_22)⟩, by rw [ht]; exact hP9, va_K.moved hW.alike hK9, hD9⟩, hS.F ht⟩) hS.2.2 dX10_now_145
    have hsw_22 : x = 0 ∨ x = 1 ∨ x = 2 ∨ x = 3 ∨ x = 4 ∨ x = 5 ∨ x = 6 ∨ x = 7 ∨ x = 8 := by
      have h1 : x.toInt = 0 ∨ x.toInt = 1 ∨ x.toInt = 2 ∨ x.toInt = 3 ∨ x.toInt = 4 ∨ x.toInt = 5 ∨ x.toInt = 6 ∨ x.toInt = 7 ∨ x.toInt = 8 := by omega
      rcases h1 with h1 | h1 | h1 | h1 | h1 | h1 | h1 | h1 | h1 <;> simp only [i_eq, h1] <;> decide
    rcases hsw_22 with hq | hq | hq | hq | hq | hq | hq | hq | hq
    · refine lv_tableIn (off := 50) (tgt := 72) hx hb dX10_now_22 (by rw [hq]; decide) (by rw [hq]; decide) (by rw [hq]; decide) (by decide) ?_
      refine lv_aload_n hx hb dX10_now_72 rfl (lv_at hl 0 rfl) ?_
      refine va_get (D := (dC, dI)) (ci := 9) (v := .ref aF) (C := RX10) (T := TX10) (N := 7) hx hb hts iwX10 hown hK hP 0 rfl rfl 4 (by decide) (hts (.fieldLink RX10 42 "ModulePlayer" "flow" "LModulePlayer$Flow;") (List.mem_cons_of_mem _ kw_35)) (fun _ h9 => h9) rfl dX10_now_73 ?_
      refine va_get (D := (dC, dI)) (ci := 2) (v := .int 0) (C := RX2) (T := TX2) (N := 13) hx hb hts iwX2 hown hK hP 1 rfl rfl 4 (by decide) (hts (.fieldLink RX10 186 "ModulePlayer$Flow" "place" "I") (List.mem_cons_of_mem _ kw_928)) (fun _ h9 => h9) rfl dX10_now_76 ?_
      have hP9 := hP.sub (ws' := []) [] rfl
      have hD9 := hD.sub (ws' := []) [] (by decide) rfl
      have hK9 := hK.sub (tys' := []) [] rfl
      exact W.iret (v := 0) hx hb hr (fun t ht hW => ⟨⟨0, ([], []), rfl, ⟨rfl, by subst hq; revert c_11; decide⟩, by rw [ht]; exact hP9, va_K.moved hW.alike hK9, hD9⟩, hS.F ht⟩) hS.2.2 dX10_now_79
    · refine lv_tableIn (off := 58) (tgt := 80) hx hb dX10_now_22 (by rw [hq]; decide) (by rw [hq]; decide) (by rw [hq]; decide) (by decide) ?_
      refine lv_aload_n hx hb dX10_now_80 rfl (lv_at hl 0 rfl) ?_
      refine va_get (D := (dC, dI)) (ci := 9) (v := .ref aF) (C := RX10) (T := TX10) (N := 7) hx hb hts iwX10 hown hK hP 0 rfl rfl 4 (by decide) (hts (.fieldLink RX10 42 "ModulePlayer" "flow" "LModulePlayer$Flow;") (List.mem_cons_of_mem _ kw_35)) (fun _ h9 => h9) rfl dX10_now_81 ?_
      refine va_get (D := (dC, dI)) (ci := 2) (v := .int 0) (C := RX2) (T := TX2) (N := 13) hx hb hts iwX2 hown hK hP 1 rfl rfl 5 (by decide) (hts (.fieldLink RX10 189 "ModulePlayer$Flow" "row" "I") (List.mem_cons_of_mem _ kw_929)) (fun _ h9 => h9) rfl dX10_now_84 ?_
      have hP9 := hP.sub (ws' := []) [] rfl
      have hD9 := hD.sub (ws' := []) [] (by decide) rfl
      have hK9 := hK.sub (tys' := []) [] rfl
      exact W.iret (v := 0) hx hb hr (fun t ht hW => ⟨⟨0, ([], []), rfl, ⟨rfl, by subst hq; revert c_11; decide⟩, by rw [ht]; exact hP9, va_K.moved hW.alike hK9, hD9⟩, hS.F ht⟩) hS.2.2 dX10_now_87
    · refine lv_tableIn (off := 66) (tgt := 88) hx hb dX10_now_22 (by rw [hq]; decide) (by rw [hq]; decide) (by rw [hq]; decide) (by decide) ?_
      refine lv_aload_n hx hb dX10_now_88 rfl (lv_at hl 0 rfl) ?_
      refine va_get (D := (dC, dI)) (ci := 9) (v := .ref aF) (C := RX10) (T := TX10) (N := 7) hx hb hts iwX10 hown hK hP 0 rfl rfl 4 (by decide) (hts (.fieldLink RX10 42 "ModulePlayer" "flow" "LModulePlayer$Flow;") (List.mem_cons_of_mem _ kw_35)) (fun _ h9 => h9) rfl dX10_now_89 ?_
      refine va_get (D := (dC, dI)) (ci := 2) (v := .int 0) (C := RX2) (T := TX2) (N := 13) hx hb hts iwX2 hown hK hP 1 rfl rfl 6 (by decide) (hts (.fieldLink RX10 192 "ModulePlayer$Flow" "tick" "I") (List.mem_cons_of_mem _ kw_930)) (fun _ h9 => h9) rfl dX10_now_92 ?_
      have hP9 := hP.sub (ws' := []) [] rfl
      have hD9 := hD.sub (ws' := []) [] (by decide) rfl
      have hK9 := hK.sub (tys' := []) [] rfl
      exact W.iret (v := 0) hx hb hr (fun t ht hW => ⟨⟨0, ([], []), rfl, ⟨rfl, by subst hq; revert c_11; decide⟩, by rw [ht]; exact hP9, va_K.moved hW.alike hK9, hD9⟩, hS.F ht⟩) hS.2.2 dX10_now_95
    · refine lv_tableIn (off := 74) (tgt := 96) hx hb dX10_now_22 (by rw [hq]; decide) (by rw [hq]; decide) (by rw [hq]; decide) (by decide) ?_
      refine lv_aload_n hx hb dX10_now_96 rfl (lv_at hl 0 rfl) ?_
      refine va_get (D := (dC, dI)) (ci := 9) (v := .ref aX) (C := RX10) (T := TX10) (N := 7) hx hb hts iwX10 hown hK hP 0 rfl rfl 6 (by decide) (hts (.fieldLink RX10 64 "ModulePlayer" "mixer" "LModulePlayer$Mixer;") (List.mem_cons_of_mem _ kw_43)) (fun _ h9 => h9) rfl dX10_now_97 ?_
      refine va_get (D := (dC, dI)) (ci := 3) (v := .int 0) (C := RX3) (T := TX3) (N := 5) hx hb hts iwX3 hown hK hP 2 rfl rfl 3 (by decide) (hts (.fieldLink RX10 195 "ModulePlayer$Mixer" "frames" "I") (List.mem_cons_of_mem _ kw_931)) (fun _ h9 => h9) rfl dX10_now_100 ?_
      have hP9 := hP.sub (ws' := []) [] rfl
      have hD9 := hD.sub (ws' := []) [] (by decide) rfl
      have hK9 := hK.sub (tys' := []) [] rfl
      exact W.iret (v := 0) hx hb hr (fun t ht hW => ⟨⟨0, ([], []), rfl, ⟨rfl, by subst hq; revert c_11; decide⟩, by rw [ht]; exact hP9, va_K.moved hW.alike hK9, hD9⟩, hS.F ht⟩) hS.2.2 dX10_now_103
    · refine lv_tableIn (off := 82) (tgt := 104) hx hb dX10_now_22 (by rw [hq]; decide) (by rw [hq]; decide) (by rw [hq]; decide) (by decide) ?_
      refine lv_aload_n hx hb dX10_now_104 rfl (lv_at hl 0 rfl) ?_
      refine va_get (D := (dC, dI)) (ci := 9) (v := .ref aF) (C := RX10) (T := TX10) (N := 7) hx hb hts iwX10 hown hK hP 0 rfl rfl 4 (by decide) (hts (.fieldLink RX10 42 "ModulePlayer" "flow" "LModulePlayer$Flow;") (List.mem_cons_of_mem _ kw_35)) (fun _ h9 => h9) rfl dX10_now_105 ?_
      refine va_get (D := (dC, dI)) (ci := 2) (v := .int 6) (C := RX2) (T := TX2) (N := 13) hx hb hts iwX2 hown hK hP 1 rfl rfl 2 (by decide) (hts (.fieldLink RX10 198 "ModulePlayer$Flow" "speed" "I") (List.mem_cons_of_mem _ kw_932)) (fun _ h9 => h9) rfl dX10_now_108 ?_
      have hP9 := hP.sub (ws' := []) [] rfl
      have hD9 := hD.sub (ws' := []) [] (by decide) rfl
      have hK9 := hK.sub (tys' := []) [] rfl
      exact W.iret (v := 6) hx hb hr (fun t ht hW => ⟨⟨6, ([], []), rfl, ⟨rfl, by subst hq; revert c_11; decide⟩, by rw [ht]; exact hP9, va_K.moved hW.alike hK9, hD9⟩, hS.F ht⟩) hS.2.2 dX10_now_111
    · refine lv_tableIn (off := 90) (tgt := 112) hx hb dX10_now_22 (by rw [hq]; decide) (by rw [hq]; decide) (by rw [hq]; decide) (by decide) ?_
      refine lv_aload_n hx hb dX10_now_112 rfl (lv_at hl 0 rfl) ?_
      refine va_get (D := (dC, dI)) (ci := 9) (v := .ref aF) (C := RX10) (T := TX10) (N := 7) hx hb hts iwX10 hown hK hP 0 rfl rfl 4 (by decide) (hts (.fieldLink RX10 42 "ModulePlayer" "flow" "LModulePlayer$Flow;") (List.mem_cons_of_mem _ kw_35)) (fun _ h9 => h9) rfl dX10_now_113 ?_
      refine va_get (D := (dC, dI)) (ci := 2) (v := .int 125) (C := RX2) (T := TX2) (N := 13) hx hb hts iwX2 hown hK hP 1 rfl rfl 3 (by decide) (hts (.fieldLink RX10 201 "ModulePlayer$Flow" "tempo" "I") (List.mem_cons_of_mem _ kw_633)) (fun _ h9 => h9) rfl dX10_now_116 ?_
      have hP9 := hP.sub (ws' := []) [] rfl
      have hD9 := hD.sub (ws' := []) [] (by decide) rfl
      have hK9 := hK.sub (tys' := []) [] rfl
      exact W.iret (v := 125) hx hb hr (fun t ht hW => ⟨⟨125, ([], []), rfl, ⟨rfl, by subst hq; revert c_11; decide⟩, by rw [ht]; exact hP9, va_K.moved hW.alike hK9, hD9⟩, hS.F ht⟩) hS.2.2 dX10_now_119
    · refine lv_tableIn (off := 98) (tgt := 120) hx hb dX10_now_22 (by rw [hq]; decide) (by rw [hq]; decide) (by rw [hq]; decide) (by decide) ?_
      refine lv_aload_n hx hb dX10_now_120 rfl (lv_at hl 0 rfl) ?_
      refine va_get (D := (dC, dI)) (ci := 9) (v := .ref aF) (C := RX10) (T := TX10) (N := 7) hx hb hts iwX10 hown hK hP 0 rfl rfl 4 (by decide) (hts (.fieldLink RX10 42 "ModulePlayer" "flow" "LModulePlayer$Flow;") (List.mem_cons_of_mem _ kw_35)) (fun _ h9 => h9) rfl dX10_now_121 ?_
      refine va_get (D := (dC, dI)) (ci := 2) (v := .int 0) (C := RX2) (T := TX2) (N := 13) hx hb hts iwX2 hown hK hP 1 rfl rfl 8 (by decide) (hts (.fieldLink RX10 204 "ModulePlayer$Flow" "again" "I") (List.mem_cons_of_mem _ kw_933)) (fun _ h9 => h9) rfl dX10_now_124 ?_
      have hP9 := hP.sub (ws' := []) [] rfl
      have hD9 := hD.sub (ws' := []) [] (by decide) rfl
      have hK9 := hK.sub (tys' := []) [] rfl
      exact W.iret (v := 0) hx hb hr (fun t ht hW => ⟨⟨0, ([], []), rfl, ⟨rfl, by subst hq; revert c_11; decide⟩, by rw [ht]; exact hP9, va_K.moved hW.alike hK9, hD9⟩, hS.F ht⟩) hS.2.2 dX10_now_127
    · refine lv_tableIn (off := 106) (tgt := 128) hx hb dX10_now_22 (by rw [hq]; decide) (by rw [hq]; decide) (by rw [hq]; decide) (by decide) ?_
      refine lv_aload_n hx hb dX10_now_128 rfl (lv_at hl 0 rfl) ?_
      refine va_get (D := (dC, dI)) (ci := 9) (v := .ref aX) (C := RX10) (T := TX10) (N := 7) hx hb hts iwX10 hown hK hP 0 rfl rfl 6 (by decide) (hts (.fieldLink RX10 64 "ModulePlayer" "mixer" "LModulePlayer$Mixer;") (List.mem_cons_of_mem _ kw_43)) (fun _ h9 => h9) rfl dX10_now_129 ?_
      refine va_get (D := (dC, dI)) (ci := 3) (v := .int 17) (C := RX3) (T := TX3) (N := 5) hx hb hts iwX3 hown hK hP 2 rfl rfl 4 (by decide) (hts (.fieldLink RX10 207 "ModulePlayer$Mixer" "sum" "I") (List.mem_cons_of_mem _ kw_934)) (fun _ h9 => h9) rfl dX10_now_132 ?_
      have hP9 := hP.sub (ws' := []) [] rfl
      have hD9 := hD.sub (ws' := []) [] (by decide) rfl
      have hK9 := hK.sub (tys' := []) [] rfl
      exact W.iret (v := 17) hx hb hr (fun t ht hW => ⟨⟨17, ([], []), rfl, ⟨rfl, by subst hq; revert c_11; decide⟩, by rw [ht]; exact hP9, va_K.moved hW.alike hK9, hD9⟩, hS.F ht⟩) hS.2.2 dX10_now_135
    · refine lv_tableIn (off := 114) (tgt := 136) hx hb dX10_now_22 (by rw [hq]; decide) (by rw [hq]; decide) (by rw [hq]; decide) (by decide) ?_
      refine lv_aload_n hx hb dX10_now_136 rfl (lv_at hl 0 rfl) ?_
      refine va_get (D := (dC, dI)) (ci := 9) (v := .ref aF) (C := RX10) (T := TX10) (N := 7) hx hb hts iwX10 hown hK hP 0 rfl rfl 4 (by decide) (hts (.fieldLink RX10 42 "ModulePlayer" "flow" "LModulePlayer$Flow;") (List.mem_cons_of_mem _ kw_35)) (fun _ h9 => h9) rfl dX10_now_137 ?_
      refine va_get (D := (dC, dI)) (ci := 2) (v := .int 0) (C := RX2) (T := TX2) (N := 13) hx hb hts iwX2 hown hK hP 1 rfl rfl 7 (by decide) (hts (.fieldLink RX10 183 "ModulePlayer$Flow" "ticks" "I") (List.mem_cons_of_mem _ kw_628)) (fun _ h9 => h9) rfl dX10_now_140 ?_
      have hP9 := hP.sub (ws' := []) [] rfl
      have hD9 := hD.sub (ws' := []) [] (by decide) rfl
      have hK9 := hK.sub (tys' := []) [] rfl
      exact W.iret (v := 0) hx hb hr (fun t ht hW => ⟨⟨0, ([], []), rfl, ⟨rfl, by subst hq; revert c_11; decide⟩, by rw [ht]; exact hP9, va_K.moved hW.alike hK9, hD9⟩, hS.F ht⟩) hS.2.2 dX10_now_143
  refine lv_iload_n hx hb dX10_now_14 rfl (lv_at hl 1 rfl) ?_
  refine lv_iconst (v := 3) hx hb dX10_now_15 (by decide) ?_
  refine lv_icmp_gt (tgt := 21) hx hb dX10_now_16 (by decide) (fun c_16 => ?_) (fun c_16 => ?_)
  · refine lv_iload_n hx hb dX10_now_21 rfl (lv_at hl 1 rfl) ?_
    by_cases hlo_22 : x.toInt < 0
    · refine lv_tableOut (tgt := 144) hx hb dX10_now_22 (Or.inl hlo_22) (by decide) ?_
      refine lv_iconst (v := (-1)) hx hb dX10_now_144 (by decide) ?_
      have hP9 := hP.sub (ws' := []) [] rfl
      have hD9 := hD.sub (ws' := []) [] (by decide) rfl
      have hK9 := hK.sub (tys' := []) [] rfl
      exact W.iret (v := (-1)) hx hb hr (fun t ht hW => ⟨⟨(-1), ([], []), rfl, ⟨rfl, nowF_out (by first | exact Or.inl (by omega) | exact Or.inr hhi_22)⟩, by rw [ht]; exact hP9, va_K.moved hW.alike hK9, hD9⟩, hS.F ht⟩) hS.2.2 dX10_now_145
    by_cases hhi_22 : 8 < x.toInt
    · refine lv_tableOut (tgt := 144) hx hb dX10_now_22 (Or.inr hhi_22) (by decide) ?_
      refine lv_iconst (v := (-1)) hx hb dX10_now_144 (by decide) ?_
      have hP9 := hP.sub (ws' := []) [] rfl
      have hD9 := hD.sub (ws' := []) [] (by decide) rfl
      have hK9 := hK.sub (tys' := []) [] rfl
      exact W.iret (v := (-1)) hx hb hr (fun t ht hW => ⟨⟨(-1), ([], []), rfl, ⟨rfl, nowF_out (by first | exact Or.inl (by omega) | exact Or.inr hhi_22)⟩, by rw [ht]; exact hP9, va_K.moved hW.alike hK9, hD9⟩, hS.F ht⟩) hS.2.2 dX10_now_145
    have hsw_22 : x = 0 ∨ x = 1 ∨ x = 2 ∨ x = 3 ∨ x = 4 ∨ x = 5 ∨ x = 6 ∨ x = 7 ∨ x = 8 := by
      have h1 : x.toInt = 0 ∨ x.toInt = 1 ∨ x.toInt = 2 ∨ x.toInt = 3 ∨ x.toInt = 4 ∨ x.toInt = 5 ∨ x.toInt = 6 ∨ x.toInt = 7 ∨ x.toInt = 8 := by omega
      rcases h1 with h1 | h1 | h1 | h1 | h1 | h1 | h1 | h1 | h1 <;> simp only [i_eq, h1] <;> decide
    rcases hsw_22 with hq | hq | hq | hq | hq | hq | hq | hq | hq
    · refine lv_tableIn (off := 50) (tgt := 72) hx hb dX10_now_22 (by rw [hq]; decide) (by rw [hq]; decide) (by rw [hq]; decide) (by decide) ?_
      refine lv_aload_n hx hb dX10_now_72 rfl (lv_at hl 0 rfl) ?_
      refine va_get (D := (dC, dI)) (ci := 9) (v := .ref aF) (C := RX10) (T := TX10) (N := 7) hx hb hts iwX10 hown hK hP 0 rfl rfl 4 (by decide) (hts (.fieldLink RX10 42 "ModulePlayer" "flow" "LModulePlayer$Flow;") (List.mem_cons_of_mem _ kw_35)) (fun _ h9 => h9) rfl dX10_now_73 ?_
      refine va_get (D := (dC, dI)) (ci := 2) (v := .int 0) (C := RX2) (T := TX2) (N := 13) hx hb hts iwX2 hown hK hP 1 rfl rfl 4 (by decide) (hts (.fieldLink RX10 186 "ModulePlayer$Flow" "place" "I") (List.mem_cons_of_mem _ kw_928)) (fun _ h9 => h9) rfl dX10_now_76 ?_
      have hP9 := hP.sub (ws' := []) [] rfl
      have hD9 := hD.sub (ws' := []) [] (by decide) rfl
      have hK9 := hK.sub (tys' := []) [] rfl
      exact W.iret (v := 0) hx hb hr (fun t ht hW => ⟨⟨0, ([], []), rfl, ⟨rfl, by subst hq; revert c_16; decide⟩, by rw [ht]; exact hP9, va_K.moved hW.alike hK9, hD9⟩, hS.F ht⟩) hS.2.2 dX10_now_79
    · refine lv_tableIn (off := 58) (tgt := 80) hx hb dX10_now_22 (by rw [hq]; decide) (by rw [hq]; decide) (by rw [hq]; decide) (by decide) ?_
      refine lv_aload_n hx hb dX10_now_80 rfl (lv_at hl 0 rfl) ?_
      refine va_get (D := (dC, dI)) (ci := 9) (v := .ref aF) (C := RX10) (T := TX10) (N := 7) hx hb hts iwX10 hown hK hP 0 rfl rfl 4 (by decide) (hts (.fieldLink RX10 42 "ModulePlayer" "flow" "LModulePlayer$Flow;") (List.mem_cons_of_mem _ kw_35)) (fun _ h9 => h9) rfl dX10_now_81 ?_
      refine va_get (D := (dC, dI)) (ci := 2) (v := .int 0) (C := RX2) (T := TX2) (N := 13) hx hb hts iwX2 hown hK hP 1 rfl rfl 5 (by decide) (hts (.fieldLink RX10 189 "ModulePlayer$Flow" "row" "I") (List.mem_cons_of_mem _ kw_929)) (fun _ h9 => h9) rfl dX10_now_84 ?_
      have hP9 := hP.sub (ws' := []) [] rfl
      have hD9 := hD.sub (ws' := []) [] (by decide) rfl
      have hK9 := hK.sub (tys' := []) [] rfl
      exact W.iret (v := 0) hx hb hr (fun t ht hW => ⟨⟨0, ([], []), rfl, ⟨rfl, by subst hq; revert c_16; decide⟩, by rw [ht]; exact hP9, va_K.moved hW.alike hK9, hD9⟩, hS.F ht⟩) hS.2.2 dX10_now_87
    · refine lv_tableIn (off := 66) (tgt := 88) hx hb dX10_now_22 (by rw [hq]; decide) (by rw [hq]; decide) (by rw [hq]; decide) (by decide) ?_
      refine lv_aload_n hx hb dX10_now_88 rfl (lv_at hl 0 rfl) ?_
      refine va_get (D := (dC, dI)) (ci := 9) (v := .ref aF) (C := RX10) (T := TX10) (N := 7) hx hb hts iwX10 hown hK hP 0 rfl rfl 4 (by decide) (hts (.fieldLink RX10 42 "ModulePlayer" "flow" "LModulePlayer$Flow;") (List.mem_cons_of_mem _ kw_35)) (fun _ h9 => h9) rfl dX10_now_89 ?_
      refine va_get (D := (dC, dI)) (ci := 2) (v := .int 0) (C := RX2) (T := TX2) (N := 13) hx hb hts iwX2 hown hK hP 1 rfl rfl 6 (by decide) (hts (.fieldLink RX10 192 "ModulePlayer$Flow" "tick" "I") (List.mem_cons_of_mem _ kw_930)) (fun _ h9 => h9) rfl dX10_now_92 ?_
      have hP9 := hP.sub (ws' := []) [] rfl
      have hD9 := hD.sub (ws' := []) [] (by decide) rfl
      have hK9 := hK.sub (tys' := []) [] rfl
      exact W.iret (v := 0) hx hb hr (fun t ht hW => ⟨⟨0, ([], []), rfl, ⟨rfl, by subst hq; revert c_16; decide⟩, by rw [ht]; exact hP9, va_K.moved hW.alike hK9, hD9⟩, hS.F ht⟩) hS.2.2 dX10_now_95
    · refine lv_tableIn (off := 74) (tgt := 96) hx hb dX10_now_22 (by rw [hq]; decide) (by rw [hq]; decide) (by rw [hq]; decide) (by decide) ?_
      refine lv_aload_n hx hb dX10_now_96 rfl (lv_at hl 0 rfl) ?_
      refine va_get (D := (dC, dI)) (ci := 9) (v := .ref aX) (C := RX10) (T := TX10) (N := 7) hx hb hts iwX10 hown hK hP 0 rfl rfl 6 (by decide) (hts (.fieldLink RX10 64 "ModulePlayer" "mixer" "LModulePlayer$Mixer;") (List.mem_cons_of_mem _ kw_43)) (fun _ h9 => h9) rfl dX10_now_97 ?_
      refine va_get (D := (dC, dI)) (ci := 3) (v := .int 0) (C := RX3) (T := TX3) (N := 5) hx hb hts iwX3 hown hK hP 2 rfl rfl 3 (by decide) (hts (.fieldLink RX10 195 "ModulePlayer$Mixer" "frames" "I") (List.mem_cons_of_mem _ kw_931)) (fun _ h9 => h9) rfl dX10_now_100 ?_
      have hP9 := hP.sub (ws' := []) [] rfl
      have hD9 := hD.sub (ws' := []) [] (by decide) rfl
      have hK9 := hK.sub (tys' := []) [] rfl
      exact W.iret (v := 0) hx hb hr (fun t ht hW => ⟨⟨0, ([], []), rfl, ⟨rfl, by subst hq; revert c_16; decide⟩, by rw [ht]; exact hP9, va_K.moved hW.alike hK9, hD9⟩, hS.F ht⟩) hS.2.2 dX10_now_103
    · refine lv_tableIn (off := 82) (tgt := 104) hx hb dX10_now_22 (by rw [hq]; decide) (by rw [hq]; decide) (by rw [hq]; decide) (by decide) ?_
      refine lv_aload_n hx hb dX10_now_104 rfl (lv_at hl 0 rfl) ?_
      refine va_get (D := (dC, dI)) (ci := 9) (v := .ref aF) (C := RX10) (T := TX10) (N := 7) hx hb hts iwX10 hown hK hP 0 rfl rfl 4 (by decide) (hts (.fieldLink RX10 42 "ModulePlayer" "flow" "LModulePlayer$Flow;") (List.mem_cons_of_mem _ kw_35)) (fun _ h9 => h9) rfl dX10_now_105 ?_
      refine va_get (D := (dC, dI)) (ci := 2) (v := .int 6) (C := RX2) (T := TX2) (N := 13) hx hb hts iwX2 hown hK hP 1 rfl rfl 2 (by decide) (hts (.fieldLink RX10 198 "ModulePlayer$Flow" "speed" "I") (List.mem_cons_of_mem _ kw_932)) (fun _ h9 => h9) rfl dX10_now_108 ?_
      have hP9 := hP.sub (ws' := []) [] rfl
      have hD9 := hD.sub (ws' := []) [] (by decide) rfl
      have hK9 := hK.sub (tys' := []) [] rfl
      exact W.iret (v := 6) hx hb hr (fun t ht hW => ⟨⟨6, ([], []), rfl, ⟨rfl, by subst hq; revert c_16; decide⟩, by rw [ht]; exact hP9, va_K.moved hW.alike hK9, hD9⟩, hS.F ht⟩) hS.2.2 dX10_now_111
    · refine lv_tableIn (off := 90) (tgt := 112) hx hb dX10_now_22 (by rw [hq]; decide) (by rw [hq]; decide) (by rw [hq]; decide) (by decide) ?_
      refine lv_aload_n hx hb dX10_now_112 rfl (lv_at hl 0 rfl) ?_
      refine va_get (D := (dC, dI)) (ci := 9) (v := .ref aF) (C := RX10) (T := TX10) (N := 7) hx hb hts iwX10 hown hK hP 0 rfl rfl 4 (by decide) (hts (.fieldLink RX10 42 "ModulePlayer" "flow" "LModulePlayer$Flow;") (List.mem_cons_of_mem _ kw_35)) (fun _ h9 => h9) rfl dX10_now_113 ?_
      refine va_get (D := (dC, dI)) (ci := 2) (v := .int 125) (C := RX2) (T := TX2) (N := 13) hx hb hts iwX2 hown hK hP 1 rfl rfl 3 (by decide) (hts (.fieldLink RX10 201 "ModulePlayer$Flow" "tempo" "I") (List.mem_cons_of_mem _ kw_633)) (fun _ h9 => h9) rfl dX10_now_116 ?_
      have hP9 := hP.sub (ws' := []) [] rfl
      have hD9 := hD.sub (ws' := []) [] (by decide) rfl
      have hK9 := hK.sub (tys' := []) [] rfl
      exact W.iret (v := 125) hx hb hr (fun t ht hW => ⟨⟨125, ([], []), rfl, ⟨rfl, by subst hq; revert c_16; decide⟩, by rw [ht]; exact hP9, va_K.moved hW.alike hK9, hD9⟩, hS.F ht⟩) hS.2.2 dX10_now_119
    · refine lv_tableIn (off := 98) (tgt := 120) hx hb dX10_now_22 (by rw [hq]; decide) (by rw [hq]; decide) (by rw [hq]; decide) (by decide) ?_
      refine lv_aload_n hx hb dX10_now_120 rfl (lv_at hl 0 rfl) ?_
      refine va_get (D := (dC, dI)) (ci := 9) (v := .ref aF) (C := RX10) (T := TX10) (N := 7) hx hb hts iwX10 hown hK hP 0 rfl rfl 4 (by decide) (hts (.fieldLink RX10 42 "ModulePlayer" "flow" "LModulePlayer$Flow;") (List.mem_cons_of_mem _ kw_35)) (fun _ h9 => h9) rfl dX10_now_121 ?_
      refine va_get (D := (dC, dI)) (ci := 2) (v := .int 0) (C := RX2) (T := TX2) (N := 13) hx hb hts iwX2 hown hK hP 1 rfl rfl 8 (by decide) (hts (.fieldLink RX10 204 "ModulePlayer$Flow" "again" "I") (List.mem_cons_of_mem _ kw_933)) (fun _ h9 => h9) rfl dX10_now_124 ?_
      have hP9 := hP.sub (ws' := []) [] rfl
      have hD9 := hD.sub (ws' := []) [] (by decide) rfl
      have hK9 := hK.sub (tys' := []) [] rfl
      exact W.iret (v := 0) hx hb hr (fun t ht hW => ⟨⟨0, ([], []), rfl, ⟨rfl, by subst hq; revert c_16; decide⟩, by rw [ht]; exact hP9, va_K.moved hW.alike hK9, hD9⟩, hS.F ht⟩) hS.2.2 dX10_now_127
    · refine lv_tableIn (off := 106) (tgt := 128) hx hb dX10_now_22 (by rw [hq]; decide) (by rw [hq]; decide) (by rw [hq]; decide) (by decide) ?_
      refine lv_aload_n hx hb dX10_now_128 rfl (lv_at hl 0 rfl) ?_
      refine va_get (D := (dC, dI)) (ci := 9) (v := .ref aX) (C := RX10) (T := TX10) (N := 7) hx hb hts iwX10 hown hK hP 0 rfl rfl 6 (by decide) (hts (.fieldLink RX10 64 "ModulePlayer" "mixer" "LModulePlayer$Mixer;") (List.mem_cons_of_mem _ kw_43)) (fun _ h9 => h9) rfl dX10_now_129 ?_
      refine va_get (D := (dC, dI)) (ci := 3) (v := .int 17) (C := RX3) (T := TX3) (N := 5) hx hb hts iwX3 hown hK hP 2 rfl rfl 4 (by decide) (hts (.fieldLink RX10 207 "ModulePlayer$Mixer" "sum" "I") (List.mem_cons_of_mem _ kw_934)) (fun _ h9 => h9) rfl dX10_now_132 ?_
      have hP9 := hP.sub (ws' := []) [] rfl
      have hD9 := hD.sub (ws' := []) [] (by decide) rfl
      have hK9 := hK.sub (tys' := []) [] rfl
      exact W.iret (v := 17) hx hb hr (fun t ht hW => ⟨⟨17, ([], []), rfl, ⟨rfl, by subst hq; revert c_16; decide⟩, by rw [ht]; exact hP9, va_K.moved hW.alike hK9, hD9⟩, hS.F ht⟩) hS.2.2 dX10_now_135
    · refine lv_tableIn (off := 114) (tgt := 136) hx hb dX10_now_22 (by rw [hq]; decide) (by rw [hq]; decide) (by rw [hq]; decide) (by decide) ?_
      refine lv_aload_n hx hb dX10_now_136 rfl (lv_at hl 0 rfl) ?_
      refine va_get (D := (dC, dI)) (ci := 9) (v := .ref aF) (C := RX10) (T := TX10) (N := 7) hx hb hts iwX10 hown hK hP 0 rfl rfl 4 (by decide) (hts (.fieldLink RX10 42 "ModulePlayer" "flow" "LModulePlayer$Flow;") (List.mem_cons_of_mem _ kw_35)) (fun _ h9 => h9) rfl dX10_now_137 ?_
      refine va_get (D := (dC, dI)) (ci := 2) (v := .int 0) (C := RX2) (T := TX2) (N := 13) hx hb hts iwX2 hown hK hP 1 rfl rfl 7 (by decide) (hts (.fieldLink RX10 183 "ModulePlayer$Flow" "ticks" "I") (List.mem_cons_of_mem _ kw_628)) (fun _ h9 => h9) rfl dX10_now_140 ?_
      have hP9 := hP.sub (ws' := []) [] rfl
      have hD9 := hD.sub (ws' := []) [] (by decide) rfl
      have hK9 := hK.sub (tys' := []) [] rfl
      exact W.iret (v := 0) hx hb hr (fun t ht hW => ⟨⟨0, ([], []), rfl, ⟨rfl, by subst hq; revert c_16; decide⟩, by rw [ht]; exact hP9, va_K.moved hW.alike hK9, hD9⟩, hS.F ht⟩) hS.2.2 dX10_now_143
  refine lv_iconst (v := (-1)) hx hb dX10_now_19 (by decide) ?_
  have hP9 := hP.sub (ws' := []) [] rfl
  have hD9 := hD.sub (ws' := []) [] (by decide) rfl
  have hK9 := hK.sub (tys' := []) [] rfl
  exact W.iret (v := (-1)) hx hb hr (fun t ht hW => ⟨⟨(-1), ([], []), rfl, ⟨rfl, nowF_out (Or.inl (now_4 (i_nlt.mp c_16)))⟩, by rw [ht]; exact hP9, va_K.moved hW.alike hK9, hD9⟩, hS.F ht⟩) hS.2.2 dX10_now_20

set_option maxHeartbeats 400000 in
set_option maxRecDepth 100000 in
/-- channel, first -/
theorem f_channel (l : Launch) (dC : Nat → ClassId) (dI : Nat → Nat → Nat) (sz : Nat) (h aT aB aS aR aF aC aX c0 c1 c2 c3 v0 v1 v2 v3 w0 w1 w2 w3 : Nat) (cC : ClassId) (gc : Nat → Option Nat) (x1 x2 : Int32) (hc0 : gc 0 = some c0) (hc1 : gc 1 = some c1) (hc2 : gc 2 = some c2) (hc3 : gc 3 = some c3) : Met l yX10_channel (wsG (.code yX10_channel cX10_channel 4 (some .int))) ({ frames := 1, cells := 0, slots := 0, locals := 21 }) (va_Pc [.ref h, .int x1, .int x2] (gP (dC, dI) [(cC, .object RX1)] [(h, .inr (9, [.ref aT, .ref aB, .ref aS, .ref aR, .ref aF, .ref aC, .ref aX])), (aC, .inl (cC, 4, .inr (.inr (.inr (.inr gc))))), (c0, .inr (1, [.ref aB, .ref v0, .ref w0, .int 0, .int 0, .int 0, .int 0, .int 0, .int 0, .int 0, .int 0, .int 0, .int 0, .int 0, .int 0, .int 0, .long 0, .int 0, .int 0])), (c1, .inr (1, [.ref aB, .ref v1, .ref w1, .int 0, .int 0, .int 0, .int 0, .int 0, .int 0, .int 0, .int 0, .int 0, .int 0, .int 0, .int 0, .int 0, .long 0, .int 0, .int 0])), (c2, .inr (1, [.ref aB, .ref v2, .ref w2, .int 0, .int 0, .int 0, .int 0, .int 0, .int 0, .int 0, .int 0, .int 0, .int 0, .int 0, .int 0, .int 0, .long 0, .int 0, .int 0])), (c3, .inr (1, [.ref aB, .ref v3, .ref w3, .int 0, .int 0, .int 0, .int 0, .int 0, .int 0, .int 0, .int 0, .int 0, .int 0, .int 0, .int 0, .int 0, .long 0, .int 0, .int 0])), (v0, .inr (8, [.int 0, .int 0, .int 0, .int 0])), (v1, .inr (8, [.int 0, .int 0, .int 0, .int 0])), (v2, .inr (8, [.int 0, .int 0, .int 0, .int 0])), (v3, .inr (8, [.int 0, .int 0, .int 0, .int 0])), (w0, .inr (8, [.int 0, .int 0, .int 0, .int 0])), (w1, .inr (8, [.int 0, .int 0, .int 0, .int 0])), (w2, .inr (8, [.int 0, .int 0, .int 0, .int 0])), (w3, .inr (8, [.int 0, .int 0, .int 0, .int 0]))] sz)) (va_Qi (fun (r : Int32) (u : va_W × gT) => u = ([], []) ∧ r = chF x1 x2) (gB (dC, dI) (va_A [(h, .inr (9, [.ref aT, .ref aB, .ref aS, .ref aR, .ref aF, .ref aC, .ref aX])), (aC, .inl (cC, 4, .inr (.inr (.inr (.inr gc))))), (c0, .inr (1, [.ref aB, .ref v0, .ref w0, .int 0, .int 0, .int 0, .int 0, .int 0, .int 0, .int 0, .int 0, .int 0, .int 0, .int 0, .int 0, .int 0, .long 0, .int 0, .int 0])), (c1, .inr (1, [.ref aB, .ref v1, .ref w1, .int 0, .int 0, .int 0, .int 0, .int 0, .int 0, .int 0, .int 0, .int 0, .int 0, .int 0, .int 0, .int 0, .long 0, .int 0, .int 0])), (c2, .inr (1, [.ref aB, .ref v2, .ref w2, .int 0, .int 0, .int 0, .int 0, .int 0, .int 0, .int 0, .int 0, .int 0, .int 0, .int 0, .int 0, .int 0, .long 0, .int 0, .int 0])), (c3, .inr (1, [.ref aB, .ref v3, .ref w3, .int 0, .int 0, .int 0, .int 0, .int 0, .int 0, .int 0, .int 0, .int 0, .int 0, .int 0, .int 0, .int 0, .long 0, .int 0, .int 0])), (v0, .inr (8, [.int 0, .int 0, .int 0, .int 0])), (v1, .inr (8, [.int 0, .int 0, .int 0, .int 0])), (v2, .inr (8, [.int 0, .int 0, .int 0, .int 0])), (v3, .inr (8, [.int 0, .int 0, .int 0, .int 0])), (w0, .inr (8, [.int 0, .int 0, .int 0, .int 0])), (w1, .inr (8, [.int 0, .int 0, .int 0, .int 0])), (w2, .inr (8, [.int 0, .int 0, .int 0, .int 0])), (w3, .inr (8, [.int 0, .int 0, .int 0, .int 0]))] sz)) (va_A [(h, .inr (9, [.ref aT, .ref aB, .ref aS, .ref aR, .ref aF, .ref aC, .ref aX])), (aC, .inl (cC, 4, .inr (.inr (.inr (.inr gc))))), (c0, .inr (1, [.ref aB, .ref v0, .ref w0, .int 0, .int 0, .int 0, .int 0, .int 0, .int 0, .int 0, .int 0, .int 0, .int 0, .int 0, .int 0, .int 0, .long 0, .int 0, .int 0])), (c1, .inr (1, [.ref aB, .ref v1, .ref w1, .int 0, .int 0, .int 0, .int 0, .int 0, .int 0, .int 0, .int 0, .int 0, .int 0, .int 0, .int 0, .int 0, .long 0, .int 0, .int 0])), (c2, .inr (1, [.ref aB, .ref v2, .ref w2, .int 0, .int 0, .int 0, .int 0, .int 0, .int 0, .int 0, .int 0, .int 0, .int 0, .int 0, .int 0, .int 0, .long 0, .int 0, .int 0])), (c3, .inr (1, [.ref aB, .ref v3, .ref w3, .int 0, .int 0, .int 0, .int 0, .int 0, .int 0, .int 0, .int 0, .int 0, .int 0, .int 0, .int 0, .int 0, .long 0, .int 0, .int 0])), (v0, .inr (8, [.int 0, .int 0, .int 0, .int 0])), (v1, .inr (8, [.int 0, .int 0, .int 0, .int 0])), (v2, .inr (8, [.int 0, .int 0, .int 0, .int 0])), (v3, .inr (8, [.int 0, .int 0, .int 0, .int 0])), (w0, .inr (8, [.int 0, .int 0, .int 0, .int 0])), (w1, .inr (8, [.int 0, .int 0, .int 0, .int 0])), (w2, .inr (8, [.int 0, .int 0, .int 0, .int 0])), (w3, .inr (8, [.int 0, .int 0, .int 0, .int 0]))] sz)) 0 0 (va_A [(h, .inr (9, [.ref aT, .ref aB, .ref aS, .ref aR, .ref aF, .ref aC, .ref aX])), (aC, .inl (cC, 4, .inr (.inr (.inr (.inr gc))))), (c0, .inr (1, [.ref aB, .ref v0, .ref w0, .int 0, .int 0, .int 0, .int 0, .int 0, .int 0, .int 0, .int 0, .int 0, .int 0, .int 0, .int 0, .int 0, .long 0, .int 0, .int 0])), (c1, .inr (1, [.ref aB, .ref v1, .ref w1, .int 0, .int 0, .int 0, .int 0, .int 0, .int 0, .int 0, .int 0, .int 0, .int 0, .int 0, .int 0, .int 0, .long 0, .int 0, .int 0])), (c2, .inr (1, [.ref aB, .ref v2, .ref w2, .int 0, .int 0, .int 0, .int 0, .int 0, .int 0, .int 0, .int 0, .int 0, .int 0, .int 0, .int 0, .int 0, .long 0, .int 0, .int 0])), (c3, .inr (1, [.ref aB, .ref v3, .ref w3, .int 0, .int 0, .int 0, .int 0, .int 0, .int 0, .int 0, .int 0, .int 0, .int 0, .int 0, .int 0, .int 0, .long 0, .int 0, .int 0])), (v0, .inr (8, [.int 0, .int 0, .int 0, .int 0])), (v1, .inr (8, [.int 0, .int 0, .int 0, .int 0])), (v2, .inr (8, [.int 0, .int 0, .int 0, .int 0])), (v3, .inr (8, [.int 0, .int 0, .int 0, .int 0])), (w0, .inr (8, [.int 0, .int 0, .int 0, .int 0])), (w1, .inr (8, [.int 0, .int 0, .int 0, .int 0])), (w2, .inr (8, [.int 0, .int 0, .int 0, .int 0])), (w3, .inr (8, [.int 0, .int 0, .int 0, .int 0]))] sz) := by
  refine Met.ofW (cc := cX10_channel) (maxL := 4) (ret := (some .int)) (by decide) rfl ?_
  intro p e s m args below meth c s₁ B hml hv
  obtain ⟨rfl, hsz, hP, hK, hD0, hN, hZ⟩ := hv
  have hx := B.exec
  have hb := B.bytes
  have hr := B.returns
  have hts := atoms_spec (ws := (wsG (.code yX10_channel cX10_channel 4 (some .int)))) B.pre
  have hown : s.vm.findClass RX10 = some m.cls := findClass_of_methodNamed B.named
  have hlocks := B.notSynchronized
  subst hsz
  have hD := hD0.self (sz := s.heap.size)
  generalize hAe : va_A [(h, .inr (9, [.ref aT, .ref aB, .ref aS, .ref aR, .ref aF, .ref aC, .ref aX])), (aC, .inl (cC, 4, .inr (.inr (.inr (.inr gc))))), (c0, .inr (1, [.ref aB, .ref v0, .ref w0, .int 0, .int 0, .int 0, .int 0, .int 0, .int 0, .int 0, .int 0, .int 0, .int 0, .int 0, .int 0, .int 0, .long 0, .int 0, .int 0])), (c1, .inr (1, [.ref aB, .ref v1, .ref w1, .int 0, .int 0, .int 0, .int 0, .int 0, .int 0, .int 0, .int 0, .int 0, .int 0, .int 0, .int 0, .int 0, .long 0, .int 0, .int 0])), (c2, .inr (1, [.ref aB, .ref v2, .ref w2, .int 0, .int 0, .int 0, .int 0, .int 0, .int 0, .int 0, .int 0, .int 0, .int 0, .int 0, .int 0, .int 0, .long 0, .int 0, .int 0])), (c3, .inr (1, [.ref aB, .ref v3, .ref w3, .int 0, .int 0, .int 0, .int 0, .int 0, .int 0, .int 0, .int 0, .int 0, .int 0, .int 0, .int 0, .int 0, .long 0, .int 0, .int 0])), (v0, .inr (8, [.int 0, .int 0, .int 0, .int 0])), (v1, .inr (8, [.int 0, .int 0, .int 0, .int 0])), (v2, .inr (8, [.int 0, .int 0, .int 0, .int 0])), (v3, .inr (8, [.int 0, .int 0, .int 0, .int 0])), (w0, .inr (8, [.int 0, .int 0, .int 0, .int 0])), (w1, .inr (8, [.int 0, .int 0, .int 0, .int 0])), (w2, .inr (8, [.int 0, .int 0, .int 0, .int 0])), (w3, .inr (8, [.int 0, .int 0, .int 0, .int 0]))] s.heap.size = A at hD hZ ⊢
  have hA : ∀ q : Nat, s.heap.size ≤ q → A q := fun q h => by rw [← hAe]; exact Or.inr h
  have hl := lv_entry ([.ref h, .int x1, .int x2]) (n := 4) (Nat.le_of_ble_eq_true rfl)
  rw [lg_entry_eq]
  generalize (lg_sl ([.ref h, .int x1, .int x2]) ++ List.replicate (4 - (lg_sl ([.ref h, .int x1, .int x2])).length) Slot.unset).toArray = ls at hl ⊢
  have hl : lv_has ls 4 [(0, .ref h), (1, .int x1), (2, .int x2)] := hl
  refine g_start (A := A) hP (fun H locs hP hS => ?_)
  refine lv_iload_n hx hb dX10_channel_0 rfl (lv_at hl 1 rfl) ?_
  refine lv_iconst (v := 4) hx hb dX10_channel_1 (by decide) ?_
  refine g_calli (wr := [(h, .inr (9, [.ref aT, .ref aB, .ref aS, .ref aR, .ref aF, .ref aC, .ref aX])), (aC, .inl (cC, 4, .inr (.inr (.inr (.inr gc))))), (c0, .inr (1, [.ref aB, .ref v0, .ref w0, .int 0, .int 0, .int 0, .int 0, .int 0, .int 0, .int 0, .int 0, .int 0, .int 0, .int 0, .int 0, .int 0, .long 0, .int 0, .int 0])), (c1, .inr (1, [.ref aB, .ref v1, .ref w1, .int 0, .int 0, .int 0, .int 0, .int 0, .int 0, .int 0, .int 0, .int 0, .int 0, .int 0, .int 0, .int 0, .long 0, .int 0, .int 0])), (c2, .inr (1, [.ref aB, .ref v2, .ref w2, .int 0, .int 0, .int 0, .int 0, .int 0, .int 0, .int 0, .int 0, .int 0, .int 0, .int 0, .int 0, .int 0, .long 0, .int 0, .int 0])), (c3, .inr (1, [.ref aB, .ref v3, .ref w3, .int 0, .int 0, .int 0, .int 0, .int 0, .int 0, .int 0, .int 0, .int 0, .int 0, .int 0, .int 0, .int 0, .long 0, .int 0, .int 0])), (v0, .inr (8, [.int 0, .int 0, .int 0, .int 0])), (v1, .inr (8, [.int 0, .int 0, .int 0, .int 0])), (v2, .inr (8, [.int 0, .int 0, .int 0, .int 0])), (v3, .inr (8, [.int 0, .int 0, .int 0, .int 0])), (w0, .inr (8, [.int 0, .int 0, .int 0, .int 0])), (w1, .inr (8, [.int 0, .int 0, .int 0, .int 0])), (w2, .inr (8, [.int 0, .int 0, .int 0, .int 0])), (w3, .inr (8, [.int 0, .int 0, .int 0, .int 0]))]) (va_runS (As := [.int x1, .int 4]) (rest := []) ⟨hx, hb, hml, hown, hts⟩ (c_isIn l dC dI H.size x1 4 ) (va_cwS 2 hts (gG_S kw_273 kw_247 kw_2 kw_248) rfl rfl rfl (by decide +kernel) ⟨Nat.le_of_ble_eq_true rfl, Nat.le_of_ble_eq_true rfl⟩) (g_preS hP hD hK hS hA hN hZ [] (by decide) rfl [] rfl) rfl rfl hl.1 rfl (lv_room (Nat.le_of_ble_eq_true rfl)) dX10_channel_2 ⟨Nat.le_of_ble_eq_true rfl, Nat.le_of_ble_eq_true rfl⟩) hP hD hK hS hA [] [0, 1, 2, 3, 4, 5, 6, 7, 8, 9, 10, 11, 12, 13] rfl rfl (by decide) (by decide) (fun r_2 w ty1 H locs hw_2 hP hD _ hS => ?_)
  rcases hw_2 with ⟨hu, hr_2, h_2⟩ | ⟨hu, hr_2, h_2⟩
  · cases hu
    have hP : va_P (dC, dI) vwCl [(h, .inr (9, [.ref aT, .ref aB, .ref aS, .ref aR, .ref aF, .ref aC, .ref aX])), (aC, .inl (cC, 4, .inr (.inr (.inr (.inr gc))))), (c0, .inr (1, [.ref aB, .ref v0, .ref w0, .int 0, .int 0, .int 0, .int 0, .int 0, .int 0, .int 0, .int 0, .int 0, .int 0, .int 0, .int 0, .int 0, .long 0, .int 0, .int 0])), (c1, .inr (1, [.ref aB, .ref v1, .ref w1, .int 0, .int 0, .int 0, .int 0, .int 0, .int 0, .int 0, .int 0, .int 0, .int 0, .int 0, .int 0, .int 0, .long 0, .int 0, .int 0])), (c2, .inr (1, [.ref aB, .ref v2, .ref w2, .int 0, .int 0, .int 0, .int 0, .int 0, .int 0, .int 0, .int 0, .int 0, .int 0, .int 0, .int 0, .int 0, .long 0, .int 0, .int 0])), (c3, .inr (1, [.ref aB, .ref v3, .ref w3, .int 0, .int 0, .int 0, .int 0, .int 0, .int 0, .int 0, .int 0, .int 0, .int 0, .int 0, .int 0, .int 0, .long 0, .int 0, .int 0])), (v0, .inr (8, [.int 0, .int 0, .int 0, .int 0])), (v1, .inr (8, [.int 0, .int 0, .int 0, .int 0])), (v2, .inr (8, [.int 0, .int 0, .int 0, .int 0])), (v3, .inr (8, [.int 0, .int 0, .int 0, .int 0])), (w0, .inr (8, [.int 0, .int 0, .int 0, .int 0])), (w1, .inr (8, [.int 0, .int 0, .int 0, .int 0])), (w2, .inr (8, [.int 0, .int 0, .int 0, .int 0])), (w3, .inr (8, [.int 0, .int 0, .int 0, .int 0]))] H := hP
    have hD : va_D A [(h, .inr (9, [.ref aT, .ref aB, .ref aS, .ref aR, .ref aF, .ref aC, .ref aX])), (aC, .inl (cC, 4, .inr (.inr (.inr (.inr gc))))), (c0, .inr (1, [.ref aB, .ref v0, .ref w0, .int 0, .int 0, .int 0, .int 0, .int 0, .int 0, .int 0, .int 0, .int 0, .int 0, .int 0, .int 0, .int 0, .long 0, .int 0, .int 0])), (c1, .inr (1, [.ref aB, .ref v1, .ref w1, .int 0, .int 0, .int 0, .int 0, .int 0, .int 0, .int 0, .int 0, .int 0, .int 0, .int 0, .int 0, .int 0, .long 0, .int 0, .int 0])), (c2, .inr (1, [.ref aB, .ref v2, .ref w2, .int 0, .int 0, .int 0, .int 0, .int 0, .int 0, .int 0, .int 0, .int 0, .int 0, .int 0, .int 0, .int 0, .long 0, .int 0, .int 0])), (c3, .inr (1, [.ref aB, .ref v3, .ref w3, .int 0, .int 0, .int 0, .int 0, .int 0, .int 0, .int 0, .int 0, .int 0, .int 0, .int 0, .int 0, .int 0, .long 0, .int 0, .int 0])), (v0, .inr (8, [.int 0, .int 0, .int 0, .int 0])), (v1, .inr (8, [.int 0, .int 0, .int 0, .int 0])), (v2, .inr (8, [.int 0, .int 0, .int 0, .int 0])), (v3, .inr (8, [.int 0, .int 0, .int 0, .int 0])), (w0, .inr (8, [.int 0, .int 0, .int 0, .int 0])), (w1, .inr (8, [.int 0, .int 0, .int 0, .int 0])), (w2, .inr (8, [.int 0, .int 0, .int 0, .int 0])), (w3, .inr (8, [.int 0, .int 0, .int 0, .int 0]))] := hD
    refine g_topi (y := 1) hr_2 ?_
    obtain ⟨j, hj, hij⟩ := i_in (n := 4) (by decide) h_2.1 h_2.2
    subst hij
    rcases (show j = 0 ∨ j = 1 ∨ j = 2 ∨ j = 3 by omega) with rfl | rfl | rfl | rfl
    · skip
      refine lv_if_ne (tgt := 10) hx hb dX10_channel_5 (by decide) (fun c_5 => ?_) (fun c_5 => absurd c_5 (by decide))
      refine lv_aload_n hx hb dX10_channel_10 rfl (lv_at hl 0 rfl) ?_
      refine va_get (D := (dC, dI)) (ci := 9) (v := .ref aC) (C := RX10) (T := TX10) (N := 7) hx hb hts iwX10 hown hK hP 0 rfl rfl 5 (by decide) (hts (.fieldLink RX10 48 "ModulePlayer" "channels" "[LModulePlayer$Channel;") (List.mem_cons_of_mem _ kw_37)) (fun _ h9 => h9) rfl dX10_channel_11 ?_
      refine lv_iload_n hx hb dX10_channel_14 rfl (lv_at hl 1 rfl) ?_
      refine g_aald hx hb hK hP 1 0 rfl rfl 0 (by decide) (y := c0) (hc0) (by unfold vp_in; decide) dX10_channel_15 ?_
      refine lv_astore_n (lv' := [(3, .ref c0), (0, .ref h), (1, .int 0), (2, .int x2)]) hx hb dX10_channel_16 rfl hl (by decide) rfl (fun ls hl => ?_)
      refine lv_iload_n hx hb dX10_channel_17 rfl (lv_at hl 3 rfl) ?_
      by_cases hlo_18 : x2.toInt < 0
      · refine lv_tableOut (tgt := 181) hx hb dX10_channel_18 (Or.inl hlo_18) (by decide) ?_
        refine lv_iconst (v := (-1)) hx hb dX10_channel_181 (by decide) ?_
        have hP9 := hP.sub (ws' := []) [] rfl
        have hD9 := hD.sub (ws' := []) [] (by decide) rfl
        have hK9 := hK.sub (tys' := []) [] rfl
        exact W.iret (v := (-1)) hx hb hr (fun t ht hW => ⟨⟨(-1), ([], []), rfl, ⟨rfl, chF_f (fun q => by first | exact ch_lo hlo_18 q.2 | exact ch_hi hhi_18 q.2)⟩, by rw [ht]; exact hP9, va_K.moved hW.alike hK9, hD9⟩, hS.F ht⟩) hS.2.2 dX10_channel_182
      by_cases hhi_18 : 13 < x2.toInt
      · refine lv_tableOut (tgt := 181) hx hb dX10_channel_18 (Or.inr hhi_18) (by decide) ?_
        refine lv_iconst (v := (-1)) hx hb dX10_channel_181 (by decide) ?_
        have hP9 := hP.sub (ws' := []) [] rfl
        have hD9 := hD.sub (ws' := []) [] (by decide) rfl
        have hK9 := hK.sub (tys' := []) [] rfl
        exact W.iret (v := (-1)) hx hb hr (fun t ht hW => ⟨⟨(-1), ([], []), rfl, ⟨rfl, chF_f (fun q => by first | exact ch_lo hlo_18 q.2 | exact ch_hi hhi_18 q.2)⟩, by rw [ht]; exact hP9, va_K.moved hW.alike hK9, hD9⟩, hS.F ht⟩) hS.2.2 dX10_channel_182
      have hsw_18 : x2 = 0 ∨ x2 = 1 ∨ x2 = 2 ∨ x2 = 3 ∨ x2 = 4 ∨ x2 = 5 ∨ x2 = 6 ∨ x2 = 7 ∨ x2 = 8 ∨ x2 = 9 ∨ x2 = 10 ∨ x2 = 11 ∨ x2 = 12 ∨ x2 = 13 := by
        have h1 : x2.toInt = 0 ∨ x2.toInt = 1 ∨ x2.toInt = 2 ∨ x2.toInt = 3 ∨ x2.toInt = 4 ∨ x2.toInt = 5 ∨ x2.toInt = 6 ∨ x2.toInt = 7 ∨ x2.toInt = 8 ∨ x2.toInt = 9 ∨ x2.toInt = 10 ∨ x2.toInt = 11 ∨ x2.toInt = 12 ∨ x2.toInt = 13 := by omega
        rcases h1 with h1 | h1 | h1 | h1 | h1 | h1 | h1 | h1 | h1 | h1 | h1 | h1 | h1 | h1 <;> simp only [i_eq, h1] <;> decide
      rcases hsw_18 with hq | hq | hq | hq | hq | hq | hq | hq | hq | hq | hq | hq | hq | hq
      · refine lv_tableIn (off := 70) (tgt := 88) hx hb dX10_channel_18 (by rw [hq]; decide) (by rw [hq]; decide) (by rw [hq]; decide) (by decide) ?_
        refine lv_aload_n hx hb dX10_channel_88 rfl (lv_at hl 0 rfl) ?_
        refine va_get (D := (dC, dI)) (ci := 1) (v := .int 0) (C := RX1) (T := TX1) (N := 19) hx hb hts iwX1 hown hK hP 2 rfl rfl 4 (by decide) (hts (.fieldLink RX10 210 "ModulePlayer$Channel" "sample" "I") (List.mem_cons_of_mem _ kw_943)) (fun _ h9 => h9) rfl dX10_channel_89 ?_
        have hP9 := hP.sub (ws' := []) [] rfl
        have hD9 := hD.sub (ws' := []) [] (by decide) rfl
        have hK9 := hK.sub (tys' := []) [] rfl
        exact W.iret (v := 0) hx hb hr (fun t ht hW => ⟨⟨0, ([], []), rfl, ⟨rfl, by subst hq; exact chF_t ⟨h_2, by decide⟩⟩, by rw [ht]; exact hP9, va_K.moved hW.alike hK9, hD9⟩, hS.F ht⟩) hS.2.2 dX10_channel_92
      · refine lv_tableIn (off := 75) (tgt := 93) hx hb dX10_channel_18 (by rw [hq]; decide) (by rw [hq]; decide) (by rw [hq]; decide) (by decide) ?_
        refine lv_aload_n hx hb dX10_channel_93 rfl (lv_at hl 0 rfl) ?_
        refine va_get (D := (dC, dI)) (ci := 1) (v := .int 0) (C := RX1) (T := TX1) (N := 19) hx hb hts iwX1 hown hK hP 2 rfl rfl 5 (by decide) (hts (.fieldLink RX10 213 "ModulePlayer$Channel" "volume" "I") (List.mem_cons_of_mem _ kw_944)) (fun _ h9 => h9) rfl dX10_channel_94 ?_
        have hP9 := hP.sub (ws' := []) [] rfl
        have hD9 := hD.sub (ws' := []) [] (by decide) rfl
        have hK9 := hK.sub (tys' := []) [] rfl
        exact W.iret (v := 0) hx hb hr (fun t ht hW => ⟨⟨0, ([], []), rfl, ⟨rfl, by subst hq; exact chF_t ⟨h_2, by decide⟩⟩, by rw [ht]; exact hP9, va_K.moved hW.alike hK9, hD9⟩, hS.F ht⟩) hS.2.2 dX10_channel_97
      · refine lv_tableIn (off := 80) (tgt := 98) hx hb dX10_channel_18 (by rw [hq]; decide) (by rw [hq]; decide) (by rw [hq]; decide) (by decide) ?_
        refine lv_aload_n hx hb dX10_channel_98 rfl (lv_at hl 0 rfl) ?_
        refine va_get (D := (dC, dI)) (ci := 1) (v := .int 0) (C := RX1) (T := TX1) (N := 19) hx hb hts iwX1 hown hK hP 2 rfl rfl 7 (by decide) (hts (.fieldLink RX10 216 "ModulePlayer$Channel" "period" "I") (List.mem_cons_of_mem _ kw_945)) (fun _ h9 => h9) rfl dX10_channel_99 ?_
        have hP9 := hP.sub (ws' := []) [] rfl
        have hD9 := hD.sub (ws' := []) [] (by decide) rfl
        have hK9 := hK.sub (tys' := []) [] rfl
        exact W.iret (v := 0) hx hb hr (fun t ht hW => ⟨⟨0, ([], []), rfl, ⟨rfl, by subst hq; exact chF_t ⟨h_2, by decide⟩⟩, by rw [ht]; exact hP9, va_K.moved hW.alike hK9, hD9⟩, hS.F ht⟩) hS.2.2 dX10_channel_102
      · refine lv_tableIn (off := 85) (tgt := 103) hx hb dX10_channel_18 (by rw [hq]; decide) (by rw [hq]; decide) (by rw [hq]; decide) (by decide) ?_
        refine lv_aload_n hx hb dX10_channel_103 rfl (lv_at hl 0 rfl) ?_
        refine va_get (D := (dC, dI)) (ci := 1) (v := .long 0) (C := RX1) (T := TX1) (N := 19) hx hb hts iwX1 hown hK hP 2 rfl rfl 16 (by decide) (hts (.fieldLink RX10 219 "ModulePlayer$Channel" "place" "J") (List.mem_cons_of_mem _ kw_946)) (fun _ h9 => h9) rfl dX10_channel_104 ?_
        refine lv_bipush (v := 16) hx hb dX10_channel_107 (by decide) ?_
        refine lv_lshr (v := 0 >>> ((16 : Int32).toInt64 &&& 63)) hx hb dX10_channel_109 rfl ?_
        refine g_topl (y := 0) (by decide) ?_
        refine lv_l2i (v := 0) hx hb dX10_channel_110 (by decide) ?_
        have hP9 := hP.sub (ws' := []) [] rfl
        have hD9 := hD.sub (ws' := []) [] (by decide) rfl
        have hK9 := hK.sub (tys' := []) [] rfl
        exact W.iret (v := 0) hx hb hr (fun t ht hW => ⟨⟨0, ([], []), rfl, ⟨rfl, by subst hq; exact chF_t ⟨h_2, by decide⟩⟩, by rw [ht]; exact hP9, va_K.moved hW.alike hK9, hD9⟩, hS.F ht⟩) hS.2.2 dX10_channel_111
      · refine lv_tableIn (off := 94) (tgt := 112) hx hb dX10_channel_18 (by rw [hq]; decide) (by rw [hq]; decide) (by rw [hq]; decide) (by decide) ?_
        refine lv_aload_n hx hb dX10_channel_112 rfl (lv_at hl 0 rfl) ?_
        refine va_get (D := (dC, dI)) (ci := 1) (v := .int 0) (C := RX1) (T := TX1) (N := 19) hx hb hts iwX1 hown hK hP 2 rfl rfl 17 (by decide) (hts (.fieldLink RX10 222 "ModulePlayer$Channel" "sounds" "Z") (List.mem_cons_of_mem _ kw_947)) (fun _ h9 => h9) rfl dX10_channel_113 ?_
        refine lv_if_eq (tgt := 123) hx hb dX10_channel_116 (by decide) (fun c_116 => ?_) (fun c_116 => absurd c_116 (by decide))
        refine lv_iconst (v := 0) hx hb dX10_channel_123 (by decide) ?_
        have hP9 := hP.sub (ws' := []) [] rfl
        have hD9 := hD.sub (ws' := []) [] (by decide) rfl
        have hK9 := hK.sub (tys' := []) [] rfl
        exact W.iret (v := 0) hx hb hr (fun t ht hW => ⟨⟨0, ([], []), rfl, ⟨rfl, by subst hq; exact chF_t ⟨h_2, by decide⟩⟩, by rw [ht]; exact hP9, va_K.moved hW.alike hK9, hD9⟩, hS.F ht⟩) hS.2.2 dX10_channel_124
      · refine lv_tableIn (off := 107) (tgt := 125) hx hb dX10_channel_18 (by rw [hq]; decide) (by rw [hq]; decide) (by rw [hq]; decide) (by decide) ?_
        refine lv_aload_n hx hb dX10_channel_125 rfl (lv_at hl 0 rfl) ?_
        refine va_get (D := (dC, dI)) (ci := 1) (v := .int 0) (C := RX1) (T := TX1) (N := 19) hx hb hts iwX1 hown hK hP 2 rfl rfl 14 (by decide) (hts (.fieldLink RX10 225 "ModulePlayer$Channel" "heardPeriod" "I") (List.mem_cons_of_mem _ kw_948)) (fun _ h9 => h9) rfl dX10_channel_126 ?_
        have hP9 := hP.sub (ws' := []) [] rfl
        have hD9 := hD.sub (ws' := []) [] (by decide) rfl
        have hK9 := hK.sub (tys' := []) [] rfl
        exact W.iret (v := 0) hx hb hr (fun t ht hW => ⟨⟨0, ([], []), rfl, ⟨rfl, by subst hq; exact chF_t ⟨h_2, by decide⟩⟩, by rw [ht]; exact hP9, va_K.moved hW.alike hK9, hD9⟩, hS.F ht⟩) hS.2.2 dX10_channel_129
      · refine lv_tableIn (off := 112) (tgt := 130) hx hb dX10_channel_18 (by rw [hq]; decide) (by rw [hq]; decide) (by rw [hq]; decide) (by decide) ?_
        refine lv_aload_n hx hb dX10_channel_130 rfl (lv_at hl 0 rfl) ?_
        refine va_get (D := (dC, dI)) (ci := 1) (v := .int 0) (C := RX1) (T := TX1) (N := 19) hx hb hts iwX1 hown hK hP 2 rfl rfl 15 (by decide) (hts (.fieldLink RX10 228 "ModulePlayer$Channel" "heardVolume" "I") (List.mem_cons_of_mem _ kw_949)) (fun _ h9 => h9) rfl dX10_channel_131 ?_
        have hP9 := hP.sub (ws' := []) [] rfl
        have hD9 := hD.sub (ws' := []) [] (by decide) rfl
        have hK9 := hK.sub (tys' := []) [] rfl
        exact W.iret (v := 0) hx hb hr (fun t ht hW => ⟨⟨0, ([], []), rfl, ⟨rfl, by subst hq; exact chF_t ⟨h_2, by decide⟩⟩, by rw [ht]; exact hP9, va_K.moved hW.alike hK9, hD9⟩, hS.F ht⟩) hS.2.2 dX10_channel_134
      · refine lv_tableIn (off := 117) (tgt := 135) hx hb dX10_channel_18 (by rw [hq]; decide) (by rw [hq]; decide) (by rw [hq]; decide) (by decide) ?_
        refine lv_aload_n hx hb dX10_channel_135 rfl (lv_at hl 0 rfl) ?_
        refine va_get (D := (dC, dI)) (ci := 1) (v := .int 0) (C := RX1) (T := TX1) (N := 19) hx hb hts iwX1 hown hK hP 2 rfl rfl 6 (by decide) (hts (.fieldLink RX10 231 "ModulePlayer$Channel" "tune" "I") (List.mem_cons_of_mem _ kw_950)) (fun _ h9 => h9) rfl dX10_channel_136 ?_
        have hP9 := hP.sub (ws' := []) [] rfl
        have hD9 := hD.sub (ws' := []) [] (by decide) rfl
        have hK9 := hK.sub (tys' := []) [] rfl
        exact W.iret (v := 0) hx hb hr (fun t ht hW => ⟨⟨0, ([], []), rfl, ⟨rfl, by subst hq; exact chF_t ⟨h_2, by decide⟩⟩, by rw [ht]; exact hP9, va_K.moved hW.alike hK9, hD9⟩, hS.F ht⟩) hS.2.2 dX10_channel_139
      · refine lv_tableIn (off := 122) (tgt := 140) hx hb dX10_channel_18 (by rw [hq]; decide) (by rw [hq]; decide) (by rw [hq]; decide) (by decide) ?_
        refine lv_aload_n hx hb dX10_channel_140 rfl (lv_at hl 0 rfl) ?_
        refine va_get (D := (dC, dI)) (ci := 1) (v := .int 0) (C := RX1) (T := TX1) (N := 19) hx hb hts iwX1 hown hK hP 2 rfl rfl 9 (by decide) (hts (.fieldLink RX10 234 "ModulePlayer$Channel" "target" "I") (List.mem_cons_of_mem _ kw_951)) (fun _ h9 => h9) rfl dX10_channel_141 ?_
        have hP9 := hP.sub (ws' := []) [] rfl
        have hD9 := hD.sub (ws' := []) [] (by decide) rfl
        have hK9 := hK.sub (tys' := []) [] rfl
        exact W.iret (v := 0) hx hb hr (fun t ht hW => ⟨⟨0, ([], []), rfl, ⟨rfl, by subst hq; exact chF_t ⟨h_2, by decide⟩⟩, by rw [ht]; exact hP9, va_K.moved hW.alike hK9, hD9⟩, hS.F ht⟩) hS.2.2 dX10_channel_144
      · refine lv_tableIn (off := 127) (tgt := 145) hx hb dX10_channel_18 (by rw [hq]; decide) (by rw [hq]; decide) (by rw [hq]; decide) (by decide) ?_
        refine lv_aload_n hx hb dX10_channel_145 rfl (lv_at hl 0 rfl) ?_
        refine va_get (D := (dC, dI)) (ci := 1) (v := .long 0) (C := RX1) (T := TX1) (N := 19) hx hb hts iwX1 hown hK hP 2 rfl rfl 16 (by decide) (hts (.fieldLink RX10 219 "ModulePlayer$Channel" "place" "J") (List.mem_cons_of_mem _ kw_946)) (fun _ h9 => h9) rfl dX10_channel_146 ?_
        refine lv_ldc2 (v := 65535) hx hb hown (hts (.constantLong RX10 237 (65535)) (List.mem_cons_of_mem _ kw_952)) dX10_channel_149 ?_
        refine lv_land hx hb dX10_channel_152 ?_
        refine g_topl (y := 0) (by decide) ?_
        refine lv_l2i (v := 0) hx hb dX10_channel_153 (by decide) ?_
        have hP9 := hP.sub (ws' := []) [] rfl
        have hD9 := hD.sub (ws' := []) [] (by decide) rfl
        have hK9 := hK.sub (tys' := []) [] rfl
        exact W.iret (v := 0) hx hb hr (fun t ht hW => ⟨⟨0, ([], []), rfl, ⟨rfl, by subst hq; exact chF_t ⟨h_2, by decide⟩⟩, by rw [ht]; exact hP9, va_K.moved hW.alike hK9, hD9⟩, hS.F ht⟩) hS.2.2 dX10_channel_154
      · refine lv_tableIn (off := 137) (tgt := 155) hx hb dX10_channel_18 (by rw [hq]; decide) (by rw [hq]; decide) (by rw [hq]; decide) (by decide) ?_
        refine lv_aload_n hx hb dX10_channel_155 rfl (lv_at hl 0 rfl) ?_
        refine va_get (D := (dC, dI)) (ci := 1) (v := .ref v0) (C := RX1) (T := TX1) (N := 19) hx hb hts iwX1 hown hK hP 2 rfl rfl 1 (by decide) (hts (.fieldLink RX10 239 "ModulePlayer$Channel" "vibrato" "LModulePlayer$Wobble;") (List.mem_cons_of_mem _ kw_953)) (fun _ h9 => h9) rfl dX10_channel_156 ?_
        refine va_get (D := (dC, dI)) (ci := 8) (v := .int 0) (C := RX8) (T := TX8) (N := 4) hx hb hts iwX8 hown hK hP 6 rfl rfl 2 (by decide) (hts (.fieldLink RX10 243 "ModulePlayer$Wobble" "place" "I") (List.mem_cons_of_mem _ kw_954)) (fun _ h9 => h9) rfl dX10_channel_159 ?_
        have hP9 := hP.sub (ws' := []) [] rfl
        have hD9 := hD.sub (ws' := []) [] (by decide) rfl
        have hK9 := hK.sub (tys' := []) [] rfl
        exact W.iret (v := 0) hx hb hr (fun t ht hW => ⟨⟨0, ([], []), rfl, ⟨rfl, by subst hq; exact chF_t ⟨h_2, by decide⟩⟩, by rw [ht]; exact hP9, va_K.moved hW.alike hK9, hD9⟩, hS.F ht⟩) hS.2.2 dX10_channel_162
      · refine lv_tableIn (off := 145) (tgt := 163) hx hb dX10_channel_18 (by rw [hq]; decide) (by rw [hq]; decide) (by rw [hq]; decide) (by decide) ?_
        refine lv_aload_n hx hb dX10_channel_163 rfl (lv_at hl 0 rfl) ?_
        refine va_get (D := (dC, dI)) (ci := 1) (v := .ref w0) (C := RX1) (T := TX1) (N := 19) hx hb hts iwX1 hown hK hP 2 rfl rfl 2 (by decide) (hts (.fieldLink RX10 246 "ModulePlayer$Channel" "tremolo" "LModulePlayer$Wobble;") (List.mem_cons_of_mem _ kw_955)) (fun _ h9 => h9) rfl dX10_channel_164 ?_
        refine va_get (D := (dC, dI)) (ci := 8) (v := .int 0) (C := RX8) (T := TX8) (N := 4) hx hb hts iwX8 hown hK hP 10 rfl rfl 2 (by decide) (hts (.fieldLink RX10 243 "ModulePlayer$Wobble" "place" "I") (List.mem_cons_of_mem _ kw_954)) (fun _ h9 => h9) rfl dX10_channel_167 ?_
        have hP9 := hP.sub (ws' := []) [] rfl
        have hD9 := hD.sub (ws' := []) [] (by decide) rfl
        have hK9 := hK.sub (tys' := []) [] rfl
        exact W.iret (v := 0) hx hb hr (fun t ht hW => ⟨⟨0, ([], []), rfl, ⟨rfl, by subst hq; exact chF_t ⟨h_2, by decide⟩⟩, by rw [ht]; exact hP9, va_K.moved hW.alike hK9, hD9⟩, hS.F ht⟩) hS.2.2 dX10_channel_170
      · refine lv_tableIn (off := 153) (tgt := 171) hx hb dX10_channel_18 (by rw [hq]; decide) (by rw [hq]; decide) (by rw [hq]; decide) (by decide) ?_
        refine lv_aload_n hx hb dX10_channel_171 rfl (lv_at hl 0 rfl) ?_
        refine va_get (D := (dC, dI)) (ci := 1) (v := .int 0) (C := RX1) (T := TX1) (N := 19) hx hb hts iwX1 hown hK hP 2 rfl rfl 12 (by decide) (hts (.fieldLink RX10 249 "ModulePlayer$Channel" "loopRow" "I") (List.mem_cons_of_mem _ kw_956)) (fun _ h9 => h9) rfl dX10_channel_172 ?_
        have hP9 := hP.sub (ws' := []) [] rfl
        have hD9 := hD.sub (ws' := []) [] (by decide) rfl
        have hK9 := hK.sub (tys' := []) [] rfl
        exact W.iret (v := 0) hx hb hr (fun t ht hW => ⟨⟨0, ([], []), rfl, ⟨rfl, by subst hq; exact chF_t ⟨h_2, by decide⟩⟩, by rw [ht]; exact hP9, va_K.moved hW.alike hK9, hD9⟩, hS.F ht⟩) hS.2.2 dX10_channel_175
      · refine lv_tableIn (off := 158) (tgt := 176) hx hb dX10_channel_18 (by rw [hq]; decide) (by rw [hq]; decide) (by rw [hq]; decide) (by decide) ?_
        refine lv_aload_n hx hb dX10_channel_176 rfl (lv_at hl 0 rfl) ?_
        refine va_get (D := (dC, dI)) (ci := 1) (v := .int 0) (C := RX1) (T := TX1) (N := 19) hx hb hts iwX1 hown hK hP 2 rfl rfl 13 (by decide) (hts (.fieldLink RX10 252 "ModulePlayer$Channel" "loopLeft" "I") (List.mem_cons_of_mem _ kw_957)) (fun _ h9 => h9) rfl dX10_channel_177 ?_
        have hP9 := hP.sub (ws' := []) [] rfl
        have hD9 := hD.sub (ws' := []) [] (by decide) rfl
        have hK9 := hK.sub (tys' := []) [] rfl
        exact W.iret (v := 0) hx hb hr (fun t ht hW => ⟨⟨0, ([], []), rfl, ⟨rfl, by subst hq; exact chF_t ⟨h_2, by decide⟩⟩, by rw [ht]; exact hP9, va_K.moved hW.alike hK9, hD9⟩, hS.F ht⟩) hS.2.2 dX10_channel_180
    · skip
      refine lv_if_ne (tgt := 10) hx hb dX10_channel_5 (by decide) (fun c_5 => ?_) (fun c_5 => absurd c_5 (by decide))
      refine lv_aload_n hx hb dX10_channel_10 rfl (lv_at hl 0 rfl) ?_
      refine va_get (D := (dC, dI)) (ci := 9) (v := .ref aC) (C := RX10) (T := TX10) (N := 7) hx hb hts iwX10 hown hK hP 0 rfl rfl 5 (by decide) (hts (.fieldLink RX10 48 "ModulePlayer" "channels" "[LModulePlayer$Channel;") (List.mem_cons_of_mem _ kw_37)) (fun _ h9 => h9) rfl dX10_channel_11 ?_
      refine lv_iload_n hx hb dX10_channel_14 rfl (lv_at hl 1 rfl) ?_
      refine g_aald hx hb hK hP 1 0 rfl rfl 1 (by decide) (y := c1) (hc1) (by unfold vp_in; decide) dX10_channel_15 ?_
      refine lv_astore_n (lv' := [(3, .ref c1), (0, .ref h), (1, .int 1), (2, .int x2)]) hx hb dX10_channel_16 rfl hl (by decide) rfl (fun ls hl => ?_)
      refine lv_iload_n hx hb dX10_channel_17 rfl (lv_at hl 3 rfl) ?_
      by_cases hlo_18 : x2.toInt < 0
      · refine lv_tableOut (tgt := 181) hx hb dX10_channel_18 (Or.inl hlo_18) (by decide) ?_
        refine lv_iconst (v := (-1)) hx hb dX10_channel_181 (by decide) ?_
        have hP9 := hP.sub (ws' := []) [] rfl
        have hD9 := hD.sub (ws' := []) [] (by decide) rfl
        have hK9 := hK.sub (tys' := []) [] rfl
        exact W.iret (v := (-1)) hx hb hr (fun t ht hW => ⟨⟨(-1), ([], []), rfl, ⟨rfl, chF_f (fun q => by first | exact ch_lo hlo_18 q.2 | exact ch_hi hhi_18 q.2)⟩, by rw [ht]; exact hP9, va_K.moved hW.alike hK9, hD9⟩, hS.F ht⟩) hS.2.2 dX10_channel_182
      by_cases hhi_18 : 13 < x2.toInt
      · refine lv_tableOut (tgt := 181) hx hb dX10_channel_18 (Or.inr hhi_18) (by decide) ?_
        refine lv_iconst (v := (-1)) hx hb dX10_channel_181 (by decide) ?_
        have hP9 := hP.sub (ws' := []) [] rfl
        have hD9 := hD.sub (ws' := []) [] (by decide) rfl
        have hK9 := hK.sub (tys' := []) [] rfl
        exact W.iret (v := (-1)) hx hb hr (fun t ht hW => ⟨⟨(-1), ([], []), rfl, ⟨rfl, chF_f (fun q => by first | exact ch_lo hlo_18 q.2 | exact ch_hi hhi_18 q.2)⟩, by rw [ht]; exact hP9, va_K.moved hW.alike hK9, hD9⟩, hS.F ht⟩) hS.2.2 dX10_channel_182
      have hsw_18 : x2 = 0 ∨ x2 = 1 ∨ x2 = 2 ∨ x2 = 3 ∨ x2 = 4 ∨ x2 = 5 ∨ x2 = 6 ∨ x2 = 7 ∨ x2 = 8 ∨ x2 = 9 ∨ x2 = 10 ∨ x2 = 11 ∨ x2 = 12 ∨ x2 = 13 := by
        have h1 : x2.toInt = 0 ∨ x2.toInt = 1 ∨ x2.toInt = 2 ∨ x2.toInt = 3 ∨ x2.toInt = 4 ∨ x2.toInt = 5 ∨ x2.toInt = 6 ∨ x2.toInt = 7 ∨ x2.toInt = 8 ∨ x2.toInt = 9 ∨ x2.toInt = 10 ∨ x2.toInt = 11 ∨ x2.toInt = 12 ∨ x2.toInt = 13 := by omega
        rcases h1 with h1 | h1 | h1 | h1 | h1 | h1 | h1 | h1 | h1 | h1 | h1 | h1 | h1 | h1 <;> simp only [i_eq, h1] <;> decide
      rcases hsw_18 with hq | hq | hq | hq | hq | hq | hq | hq | hq | hq | hq | hq | hq | hq
      · refine lv_tableIn (off := 70) (tgt := 88) hx hb dX10_channel_18 (by rw [hq]; decide) (by rw [hq]; decide) (by rw [hq]; decide) (by decide) ?_
        refine lv_aload_n hx hb dX10_channel_88 rfl (lv_at hl 0 rfl) ?_
        refine va_get (D := (dC, dI)) (ci := 1) (v := .int 0) (C := RX1) (T := TX1) (N := 19) hx hb hts iwX1 hown hK hP 3 rfl rfl 4 (by decide) (hts (.fieldLink RX10 210 "ModulePlayer$Channel" "sample" "I") (List.mem_cons_of_mem _ kw_943)) (fun _ h9 => h9) rfl dX10_channel_89 ?_
        have hP9 := hP.sub (ws' := []) [] rfl
        have hD9 := hD.sub (ws' := []) [] (by decide) rfl
        have hK9 := hK.sub (tys' := []) [] rfl
        exact W.iret (v := 0) hx hb hr (fun t ht hW => ⟨⟨0, ([], []), rfl, ⟨rfl, by subst hq; exact chF_t ⟨h_2, by decide⟩⟩, by rw [ht]; exact hP9, va_K.moved hW.alike hK9, hD9⟩, hS.F ht⟩) hS.2.2 dX10_channel_92
      · refine lv_tableIn (off := 75) (tgt := 93) hx hb dX10_channel_18 (by rw [hq]; decide) (by rw [hq]; decide) (by rw [hq]; decide) (by decide) ?_
        refine lv_aload_n hx hb dX10_channel_93 rfl (lv_at hl 0 rfl) ?_
        refine va_get (D := (dC, dI)) (ci := 1) (v := .int 0) (C := RX1) (T := TX1) (N := 19) hx hb hts iwX1 hown hK hP 3 rfl rfl 5 (by decide) (hts (.fieldLink RX10 213 "ModulePlayer$Channel" "volume" "I") (List.mem_cons_of_mem _ kw_944)) (fun _ h9 => h9) rfl dX10_channel_94 ?_
        have hP9 := hP.sub (ws' := []) [] rfl
        have hD9 := hD.sub (ws' := []) [] (by decide) rfl
        have hK9 := hK.sub (tys' := []) [] rfl
        exact W.iret (v := 0) hx hb hr (fun t ht hW => ⟨⟨0, ([], []), rfl, ⟨rfl, by subst hq; exact chF_t ⟨h_2, by decide⟩⟩, by rw [ht]; exact hP9, va_K.moved hW.alike hK9, hD9⟩, hS.F ht⟩) hS.2.2 dX10_channel_97
      · refine lv_tableIn (off := 80) (tgt := 98) hx hb dX10_channel_18 (by rw [hq]; decide) (by rw [hq]; decide) (by rw [hq]; decide) (by decide) ?_
        refine lv_aload_n hx hb dX10_channel_98 rfl (lv_at hl 0 rfl) ?_
        refine va_get (D := (dC, dI)) (ci := 1) (v := .int 0) (C := RX1) (T := TX1) (N := 19) hx hb hts iwX1 hown hK hP 3 rfl rfl 7 (by decide) (hts (.fieldLink RX10 216 "ModulePlayer$Channel" "period" "I") (List.mem_cons_of_mem _ kw_945)) (fun _ h9 => h9) rfl dX10_channel_99 ?_
        have hP9 := hP.sub (ws' := []) [] rfl
        have hD9 := hD.sub (ws' := []) [] (by decide) rfl
        have hK9 := hK.sub (tys' := []) [] rfl
        exact W.iret (v := 0) hx hb hr (fun t ht hW => ⟨⟨0, ([], []), rfl, ⟨rfl, by subst hq; exact chF_t ⟨h_2, by decide⟩⟩, by rw [ht]; exact hP9, va_K.moved hW.alike hK9, hD9⟩, hS.F ht⟩) hS.2.2 dX10_channel_102
      · refine lv_tableIn (off := 85) (tgt := 103) hx hb dX10_channel_18 (by rw [hq]; decide) (by rw [hq]; decide) (by rw [hq]; decide) (by decide) ?_
        refine lv_aload_n hx hb dX10_channel_103 rfl (lv_at hl 0 rfl) ?_
        refine va_get (D := (dC, dI)) (ci := 1) (v := .long 0) (C := RX1) (T := TX1) (N := 19) hx hb hts iwX1 hown hK hP 3 rfl rfl 16 (by decide) (hts (.fieldLink RX10 219 "ModulePlayer$Channel" "place" "J") (List.mem_cons_of_mem _ kw_946)) (fun _ h9 => h9) rfl dX10_channel_104 ?_
        refine lv_bipush (v := 16) hx hb dX10_channel_107 (by decide) ?_
        refine lv_lshr (v := 0 >>> ((16 : Int32).toInt64 &&& 63)) hx hb dX10_channel_109 rfl ?_
        refine g_topl (y := 0) (by decide) ?_
        refine lv_l2i (v := 0) hx hb dX10_channel_110 (by decide) ?_
        have hP9 := hP.sub (ws' := []) [] rfl
        have hD9 := hD.sub (ws' := []) [] (by decide) rfl
        have hK9 := hK.sub (tys' := []) [] rfl
        exact W.iret (v := 0) hx hb hr (fun t ht hW => ⟨⟨0, ([], []), rfl, ⟨rfl, by subst hq; exact chF_t ⟨h_2, by decide⟩⟩, by rw [ht]; exact hP9, va_K.moved hW.alike hK9, hD9⟩, hS.F ht⟩) hS.2.2 dX10_channel_111
      · refine lv_tableIn (off := 94) (tgt := 112) hx hb dX10_channel_18 (by rw [hq]; decide) (by rw [hq]; decide) (by rw [hq]; decide) (by decide) ?_
        refine lv_aload_n hx hb dX10_channel_112 rfl (lv_at hl 0 rfl) ?_
        refine va_get (D := (dC, dI)) (ci := 1) (v := .int 0) (C := RX1) (T := TX1) (N := 19) hx hb hts iwX1 hown hK hP 3 rfl rfl 17 (by decide) (hts (.fieldLink RX10 222 "ModulePlayer$Channel" "sounds" "Z") (List.mem_cons_of_mem _ kw_947)) (fun _ h9 => h9) rfl dX10_channel_113 ?_
        refine lv_if_eq (tgt := 123) hx hb dX10_channel_116 (by decide) (fun c_116 => ?_) (fun c_116 => absurd c_116 (by decide))
        refine lv_iconst (v := 0) hx hb dX10_channel_123 (by decide) ?_
        have hP9 := hP.sub (ws' := []) [] rfl
        have hD9 := hD.sub (ws' := []) [] (by decide) rfl
        have hK9 := hK.sub (tys' := []) [] rfl
        exact W.iret (v := 0) hx hb hr (fun t ht hW => ⟨⟨0, ([], []), rfl, ⟨rfl, by subst hq; exact chF_t ⟨h_2, by decide⟩⟩, by rw [ht]; exact hP9, va_K.moved hW.alike hK9, hD9⟩, hS.F ht⟩) hS.2.2 dX10_channel_124
      · refine lv_tableIn (off := 107) (tgt := 125) hx hb dX10_channel_18 (by rw [hq]; decide) (by rw [hq]; decide) (by rw [hq]; decide) (by decide) ?_
        refine lv_aload_n hx hb dX10_channel_125 rfl (lv_at hl 0 rfl) ?_
        refine va_get (D := (dC, dI)) (ci := 1) (v := .int 0) (C := RX1) (T := TX1) (N := 19) hx hb hts iwX1 hown hK hP 3 rfl rfl 14 (by decide) (hts (.fieldLink RX10 225 "ModulePlayer$Channel" "heardPeriod" "I") (List.mem_cons_of_mem _ kw_948)) (fun _ h9 => h9) rfl dX10_channel_126 ?_
        have hP9 := hP.sub (ws' := []) [] rfl
        have hD9 := hD.sub (ws' := []) [] (by decide) rfl
        have hK9 := hK.sub (tys' := []) [] rfl
        exact W.iret (v := 0) hx hb hr (fun t ht hW => ⟨⟨0, ([], []), rfl, ⟨rfl, by subst hq; exact chF_t ⟨h_2, by decide⟩⟩, by rw [ht]; exact hP9, va_K.moved hW.alike hK9, hD9⟩, hS.F ht⟩) hS.2.2 dX10_channel_129
      · refine lv_tableIn (off := 112) (tgt := 130) hx hb dX10_channel_18 (by rw [hq]; decide) (by rw [hq]; decide) (by rw [hq]; decide) (by decide) ?_
        refine lv_aload_n hx hb dX10_channel_130 rfl (lv_at hl 0 rfl) ?_
        refine va_get (D := (dC, dI)) (ci := 1) (v := .int 0) (C := RX1) (T := TX1) (N := 19) hx hb hts iwX1 hown hK hP 3 rfl rfl 15 (by decide) (hts (.fieldLink RX10 228 "ModulePlayer$Channel" "heardVolume" "I") (List.mem_cons_of_mem _ kw_949)) (fun _ h9 => h9) rfl dX10_channel_131 ?_
        have hP9 := hP.sub (ws' := []) [] rfl
        have hD9 := hD.sub (ws' := []) [] (by decide) rfl
        have hK9 := hK.sub (tys' := []) [] rfl
        exact W.iret (v := 0) hx hb hr (fun t ht hW => ⟨⟨0, ([], []), rfl, ⟨rfl, by subst hq; exact chF_t ⟨h_2, by decide⟩⟩, by rw [ht]; exact hP9, va_K.moved hW.alike hK9, hD9⟩, hS.F ht⟩) hS.2.2 dX10_channel_134
      · refine lv_tableIn (off := 117) (tgt := 135) hx hb dX10_channel_18 (by rw [hq]; decide) (by rw [hq]; decide) (by rw [hq]; decide) (by decide) ?_
        refine lv_aload_n hx hb dX10_channel_135 rfl (lv_at hl 0 rfl) ?_
        refine va_get (D := (dC, dI)) (ci := 1) (v := .int 0) (C := RX1) (T := TX1) (N := 19) hx hb hts iwX1 hown hK hP 3 rfl rfl 6 (by decide) (hts (.fieldLink RX10 231 "ModulePlayer$Channel" "tune" "I") (List.mem_cons_of_mem _ kw_950)) (fun _ h9 => h9) rfl dX10_channel_136 ?_
        have hP9 := hP.sub (ws' := []) [] rfl
        have hD9 := hD.sub (ws' := []) [] (by decide) rfl
        have hK9 := hK.sub (tys' := []) [] rfl
        exact W.iret (v := 0) hx hb hr (fun t ht hW => ⟨⟨0, ([], []), rfl, ⟨rfl, by subst hq; exact chF_t ⟨h_2, by decide⟩⟩, by rw [ht]; exact hP9, va_K.moved hW.alike hK9, hD9⟩, hS.F ht⟩) hS.2.2 dX10_channel_139
      · refine lv_tableIn (off := 122) (tgt := 140) hx hb dX10_channel_18 (by rw [hq]; decide) (by rw [hq]; decide) (by rw [hq]; decide) (by decide) ?_
        refine lv_aload_n hx hb dX10_channel_140 rfl (lv_at hl 0 rfl) ?_
        refine va_get (D := (dC, dI)) (ci := 1) (v := .int 0) (C := RX1) (T := TX1) (N := 19) hx hb hts iwX1 hown hK hP 3 rfl rfl 9 (by decide) (hts (.fieldLink RX10 234 "ModulePlayer$Channel" "target" "I") (List.mem_cons_of_mem _ kw_951)) (fun _ h9 => h9) rfl dX10_channel_141 ?_
        have hP9 := hP.sub (ws' := []) [] rfl
        have hD9 := hD.sub (ws' := []) [] (by decide) rfl
        have hK9 := hK.sub (tys' := []) [] rfl
        exact W.iret (v := 0) hx hb hr (fun t ht hW => ⟨⟨0, ([], []), rfl, ⟨rfl, by subst hq; exact chF_t ⟨h_2, by decide⟩⟩, by rw [ht]; exact hP9, va_K.moved hW.alike hK9, hD9⟩, hS.F ht⟩) hS.2.2 dX10_channel_144
      · refine lv_tableIn (off := 127) (tgt := 145) hx hb dX10_channel_18 (by rw [hq]; decide) (by rw [hq]; decide) (by rw [hq]; decide) (by decide) ?_
        refine lv_aload_n hx hb dX10_channel_145 rfl (lv_at hl 0 rfl) ?_
        refine va_get (D := (dC, dI)) (ci := 1) (v := .long 0) (C := RX1) (T := TX1) (N := 19) hx hb hts iwX1 hown hK hP 3 rfl rfl 16 (by decide) (hts (.fieldLink RX10 219 "ModulePlayer$Channel" "place" "J") (List.mem_cons_of_mem _ kw_946)) (fun _ h9 => h9) rfl dX10_channel_146 ?_
        refine lv_ldc2 (v := 65535) hx hb hown (hts (.constantLong RX10 237 (65535)) (List.mem_cons_of_mem _ kw_952)) dX10_channel_149 ?_
        refine lv_land hx hb dX10_channel_152 ?_
        refine g_topl (y := 0) (by decide) ?_
        refine lv_l2i (v := 0) hx hb dX10_channel_153 (by decide) ?_
        have hP9 := hP.sub (ws' := []) [] rfl
        have hD9 := hD.sub (ws' := []) [] (by decide) rfl
        have hK9 := hK.sub (tys' := []) [] rfl
        exact W.iret (v := 0) hx hb hr (fun t ht hW => ⟨⟨0, ([], []), rfl, ⟨rfl, by subst hq; exact chF_t ⟨h_2, by decide⟩⟩, by rw [ht]; exact hP9, va_K.moved hW.alike hK9, hD9⟩, hS.F ht⟩) hS.2.2 dX10_channel_154
      · refine lv_tableIn (off := 137) (tgt := 155) hx hb dX10_channel_18 (by rw [hq]; decide) (by rw [hq]; decide) (by rw [hq]; decide) (by decide) ?_
        refine lv_aload_n hx hb dX10_channel_155 rfl (lv_at hl 0 rfl) ?_
        refine va_get (D := (dC, dI)) (ci := 1) (v := .ref v1) (C := RX1) (T := TX1) (N := 19) hx hb hts iwX1 hown hK hP 3 rfl rfl 1 (by decide) (hts (.fieldLink RX10 239 "ModulePlayer$Channel" "vibrato" "LModulePlayer$Wobble;") (List.mem_cons_of_mem _ kw_953)) (fun _ h9 => h9) rfl dX10_channel_156 ?_
        refine va_get (D := (dC, dI)) (ci := 8) (v := .int 0) (C := RX8) (T := TX8) (N := 4) hx hb hts iwX8 hown hK hP 7 rfl rfl 2 (by decide) (hts (.fieldLink RX10 243 "ModulePlayer$Wobble" "place" "I") (List.mem_cons_of_mem _ kw_954)) (fun _ h9 => h9) rfl dX10_channel_159 ?_
        have hP9 := hP.sub (ws' := []) [] rfl
        have hD9 := hD.sub (ws' := []) [] (by decide) rfl
        have hK9 := hK.sub (tys' := []) [] rfl
        exact W.iret (v := 0) hx hb hr (fun t ht hW => ⟨⟨0, ([], []), rfl, ⟨rfl, by subst hq; exact chF_t ⟨h_2, by decide⟩⟩, by rw [ht]; exact hP9, va_K.moved hW.alike hK9, hD9⟩, hS.F ht⟩) hS.2.2 dX10_channel_162
      · refine lv_tableIn (off := 145) (tgt := 163) hx hb dX10_channel_18 (by rw [hq]; decide) (by rw [hq]; decide) (by rw [hq]; decide) (by decide) ?_
        refine lv_aload_n hx hb dX10_channel_163 rfl (lv_at hl 0 rfl) ?_
        refine va_get (D := (dC, dI)) (ci := 1) (v := .ref w1) (C := RX1) (T := TX1) (N := 19) hx hb hts iwX1 hown hK hP 3 rfl rfl 2 (by decide) (hts (.fieldLink RX10 246 "ModulePlayer$Channel" "tremolo" "LModulePlayer$Wobble;") (List.mem_cons_of_mem _ kw_955)) (fun _ h9 => h9) rfl dX10_channel_164 ?_
        refine va_get (D := (dC, dI)) (ci := 8) (v := .int 0) (C := RX8) (T := TX8) (N := 4) hx hb hts iwX8 hown hK hP 11 rfl rfl 2 (by decide) (hts (.fieldLink RX10 243 "ModulePlayer$Wobble" "place" "I") (List.mem_cons_of_mem _ kw_954)) (fun _ h9 => h9) rfl dX10_channel_167 ?_
        have hP9 := hP.sub (ws' := []) [] rfl
        have hD9 := hD.sub (ws' := []) [] (by decide) rfl
        have hK9 := hK.sub (tys' := []) [] rfl
        exact W.iret (v := 0) hx hb hr (fun t ht hW => ⟨⟨0, ([], []), rfl, ⟨rfl, by subst hq; exact chF_t ⟨h_2, by decide⟩⟩, by rw [ht]; exact hP9, va_K.moved hW.alike hK9, hD9⟩, hS.F ht⟩) hS.2.2 dX10_channel_170
      · refine lv_tableIn (off := 153) (tgt := 171) hx hb dX10_channel_18 (by rw [hq]; decide) (by rw [hq]; decide) (by rw [hq]; decide) (by decide) ?_
        refine lv_aload_n hx hb dX10_channel_171 rfl (lv_at hl 0 rfl) ?_
        refine va_get (D := (dC, dI)) (ci := 1) (v := .int 0) (C := RX1) (T := TX1) (N := 19) hx hb hts iwX1 hown hK hP 3 rfl rfl 12 (by decide) (hts (.fieldLink RX10 249 "ModulePlayer$Channel" "loopRow" "I") (List.mem_cons_of_mem _ kw_956)) (fun _ h9 => h9) rfl dX10_channel_172 ?_
        have hP9 := hP.sub (ws' := []) [] rfl
        have hD9 := hD.sub (ws' := []) [] (by decide) rfl
        have hK9 := hK.sub (tys' := []) [] rfl
        exact W.iret (v := 0) hx hb hr (fun t ht hW => ⟨⟨0, ([], []), rfl, ⟨rfl, by subst hq; exact chF_t ⟨h_2, by decide⟩⟩, by rw [ht]; exact hP9, va_K.moved hW.alike hK9, hD9⟩, hS.F ht⟩) hS.2.2 dX10_channel_175
      · refine lv_tableIn (off := 158) (tgt := 176) hx hb dX10_channel_18 (by rw [hq]; decide) (by rw [hq]; decide) (by rw [hq]; decide) (by decide) ?_
        refine lv_aload_n hx hb dX10_channel_176 rfl (lv_at hl 0 rfl) ?_
        refine va_get (D := (dC, dI)) (ci := 1) (v := .int 0) (C := RX1) (T := TX1) (N := 19) hx hb hts iwX1 hown hK hP 3 rfl rfl 13 (by decide) (hts (.fieldLink RX10 252 "ModulePlayer$Channel" "loopLeft" "I") (List.mem_cons_of_mem _ kw_957)) (fun _ h9 => h9) rfl dX10_channel_177 ?_
        have hP9 := hP.sub (ws' := []) [] rfl
        have hD9 := hD.sub (ws' := []) [] (by decide) rfl
        have hK9 := hK.sub (tys' := []) [] rfl
        exact W.iret (v := 0) hx hb hr (fun t ht hW => ⟨⟨0, ([], []), rfl, ⟨rfl, by subst hq; exact chF_t ⟨h_2, by decide⟩⟩, by rw [ht]; exact hP9, va_K.moved hW.alike hK9, hD9⟩, hS.F ht⟩) hS.2.2 dX10_channel_180
    · skip
      refine lv_if_ne (tgt := 10) hx hb dX10_channel_5 (by decide) (fun c_5 => ?_) (fun c_5 => absurd c_5 (by decide))
      refine lv_aload_n hx hb dX10_channel_10 rfl (lv_at hl 0 rfl) ?_
      refine va_get (D := (dC, dI)) (ci := 9) (v := .ref aC) (C := RX10) (T := TX10) (N := 7) hx hb hts iwX10 hown hK hP 0 rfl rfl 5 (by decide) (hts (.fieldLink RX10 48 "ModulePlayer" "channels" "[LModulePlayer$Channel;") (List.mem_cons_of_mem _ kw_37)) (fun _ h9 => h9) rfl dX10_channel_11 ?_
      refine lv_iload_n hx hb dX10_channel_14 rfl (lv_at hl 1 rfl) ?_
      refine g_aald hx hb hK hP 1 0 rfl rfl 2 (by decide) (y := c2) (hc2) (by unfold vp_in; decide) dX10_channel_15 ?_
      refine lv_astore_n (lv' := [(3, .ref c2), (0, .ref h), (1, .int 2), (2, .int x2)]) hx hb dX10_channel_16 rfl hl (by decide) rfl (fun ls hl => ?_)
      refine lv_iload_n hx hb dX10_channel_17 rfl (lv_at hl 3 rfl) ?_
      by_cases hlo_18 : x2.toInt < 0
      · refine lv_tableOut (tgt := 181) hx hb dX10_channel_18 (Or.inl hlo_18) (by decide) ?_
        refine lv_iconst (v := (-1)) hx hb dX10_channel_181 (by decide) ?_
        have hP9 := hP.sub (ws' := []) [] rfl
        have hD9 := hD.sub (ws' := []) [] (by decide) rfl
        have hK9 := hK.sub (tys' := []) [] rfl
        exact W.iret (v := (-1)) hx hb hr (fun t ht hW => ⟨⟨(-1), ([], []), rfl, ⟨rfl, chF_f (fun q => by first | exact ch_lo hlo_18 q.2 | exact ch_hi hhi_18 q.2)⟩, by rw [ht]; exact hP9, va_K.moved hW.alike hK9, hD9⟩, hS.F ht⟩) hS.2.2 dX10_channel_182
      by_cases hhi_18 : 13 < x2.toInt
      · refine lv_tableOut (tgt := 181) hx hb dX10_channel_18 (Or.inr hhi_18) (by decide) ?_
        refine lv_iconst (v := (-1)) hx hb dX10_channel_181 (by decide) ?_
        have hP9 := hP.sub (ws' := []) [] rfl
        have hD9 := hD.sub (ws' := []) [] (by decide) rfl
        have hK9 := hK.sub (tys' := []) [] rfl
        exact W.iret (v := (-1)) hx hb hr (fun t ht hW => ⟨⟨(-1), ([], []), rfl, ⟨rfl, chF_f (fun q => by first | exact ch_lo hlo_18 q.2 | exact ch_hi hhi_18 q.2)⟩, by rw [ht]; exact hP9, va_K.moved hW.alike hK9, hD9⟩, hS.F ht⟩) hS.2.2 dX10_channel_182
      have hsw_18 : x2 = 0 ∨ x2 = 1 ∨ x2 = 2 ∨ x2 = 3 ∨ x2 = 4 ∨ x2 = 5 ∨ x2 = 6 ∨ x2 = 7 ∨ x2 = 8 ∨ x2 = 9 ∨ x2 = 10 ∨ x2 = 11 ∨ x2 = 12 ∨ x2 = 13 := by
        have h1 : x2.toInt = 0 ∨ x2.toInt = 1 ∨ x2.toInt = 2 ∨ x2.toInt = 3 ∨ x2.toInt = 4 ∨ x2.toInt = 5 ∨ x2.toInt = 6 ∨ x2.toInt = 7 ∨ x2.toInt = 8 ∨ x2.toInt = 9 ∨ x2.toInt = 10 ∨ x2.toInt = 11 ∨ x2.toInt = 12 ∨ x2.toInt = 13 := by omega
        rcases h1 with h1 | h1 | h1 | h1 | h1 | h1 | h1 | h1 | h1 | h1 | h1 | h1 | h1 | h1 <;> simp only [i_eq, h1] <;> decide
      rcases hsw_18 with hq | hq | hq | hq | hq | hq | hq | hq | hq | hq | hq | hq | hq | hq
      · refine lv_tableIn (off := 70) (tgt := 88) hx hb dX10_channel_18 (by rw [hq]; decide) (by rw [hq]; decide) (by rw [hq]; decide) (by decide) ?_
        refine lv_aload_n hx hb dX10_channel_88 rfl (lv_at hl 0 rfl) ?_
        refine va_get (D := (dC, dI)) (ci := 1) (v := .int 0) (C := RX1) (T := TX1) (N := 19) hx hb hts iwX1 hown hK hP 4 rfl rfl 4 (by decide) (hts (.fieldLink RX10 210 "ModulePlayer$Channel" "sample" "I") (List.mem_cons_of_mem _ kw_943)) (fun _ h9 => h9) rfl dX10_channel_89 ?_
        have hP9 := hP.sub (ws' := []) [] rfl
        have hD9 := hD.sub (ws' := []) [] (by decide) rfl
        have hK9 := hK.sub (tys' := []) [] rfl
        exact W.iret (v := 0) hx hb hr (fun t ht hW => ⟨⟨0, ([], []), rfl, ⟨rfl, by subst hq; exact chF_t ⟨h_2, by decide⟩⟩, by rw [ht]; exact hP9, va_K.moved hW.alike hK9, hD9⟩, hS.F ht⟩) hS.2.2 dX10_channel_92
      · refine lv_tableIn (off := 75) (tgt := 93) hx hb dX10_channel_18 (by rw [hq]; decide) (by rw [hq]; decide) (by rw [hq]; decide) (by decide) ?_
        refine lv_aload_n hx hb dX10_channel_93 rfl (lv_at hl 0 rfl) ?_
        refine va_get (D := (dC, dI)) (ci := 1) (v := .int 0) (C := RX1) (T := TX1) (N := 19) hx hb hts iwX1 hown hK hP 4 rfl rfl 5 (by decide) (hts (.fieldLink RX10 213 "ModulePlayer$Channel" "volume" "I") (List.mem_cons_of_mem _ kw_944)) (fun _ h9 => h9) rfl dX10_channel_94 ?_
        have hP9 := hP.sub (ws' := []) [] rfl
        have hD9 := hD.sub (ws' := []) [] (by decide) rfl
        have hK9 := hK.sub (tys' := []) [] rfl
        exact W.iret (v := 0) hx hb hr (fun t ht hW => ⟨⟨0, ([], []), rfl, ⟨rfl, by subst hq; exact chF_t ⟨h_2, by decide⟩⟩, by rw [ht]; exact hP9, va_K.moved hW.alike hK9, hD9⟩, hS.F ht⟩) hS.2.2 dX10_channel_97
      · refine lv_tableIn (off := 80) (tgt := 98) hx hb dX10_channel_18 (by rw [hq]; decide) (by rw [hq]; decide) (by rw [hq]; decide) (by decide) ?_
        refine lv_aload_n hx hb dX10_channel_98 rfl (lv_at hl 0 rfl) ?_
        refine va_get (D := (dC, dI)) (ci := 1) (v := .int 0) (C := RX1) (T := TX1) (N := 19) hx hb hts iwX1 hown hK hP 4 rfl rfl 7 (by decide) (hts (.fieldLink RX10 216 "ModulePlayer$Channel" "period" "I") (List.mem_cons_of_mem _ kw_945)) (fun _ h9 => h9) rfl dX10_channel_99 ?_
        have hP9 := hP.sub (ws' := []) [] rfl
        have hD9 := hD.sub (ws' := []) [] (by decide) rfl
        have hK9 := hK.sub (tys' := []) [] rfl
        exact W.iret (v := 0) hx hb hr (fun t ht hW => ⟨⟨0, ([], []), rfl, ⟨rfl, by subst hq; exact chF_t ⟨h_2, by decide⟩⟩, by rw [ht]; exact hP9, va_K.moved hW.alike hK9, hD9⟩, hS.F ht⟩) hS.2.2 dX10_channel_102
      · refine lv_tableIn (off := 85) (tgt := 103) hx hb dX10_channel_18 (by rw [hq]; decide) (by rw [hq]; decide) (by rw [hq]; decide) (by decide) ?_
        refine lv_aload_n hx hb dX10_channel_103 rfl (lv_at hl 0 rfl) ?_
        refine va_get (D := (dC, dI)) (ci := 1) (v := .long 0) (C := RX1) (T := TX1) (N := 19) hx hb hts iwX1 hown hK hP 4 rfl rfl 16 (by decide) (hts (.fieldLink RX10 219 "ModulePlayer$Channel" "place" "J") (List.mem_cons_of_mem _ kw_946)) (fun _ h9 => h9) rfl dX10_channel_104 ?_
        refine lv_bipush (v := 16) hx hb dX10_channel_107 (by decide) ?_
        refine lv_lshr (v := 0 >>> ((16 : Int32).toInt64 &&& 63)) hx hb dX10_channel_109 rfl ?_
        refine g_topl (y := 0) (by decide) ?_
        refine lv_l2i (v := 0) hx hb dX10_channel_110 (by decide) ?_
        have hP9 := hP.sub (ws' := []) [] rfl
        have hD9 := hD.sub (ws' := []) [] (by decide) rfl
        have hK9 := hK.sub (tys' := []) [] rfl
        exact W.iret (v := 0) hx hb hr (fun t ht hW => ⟨⟨0, ([], []), rfl, ⟨rfl, by subst hq; exact chF_t ⟨h_2, by decide⟩⟩, by rw [ht]; exact hP9, va_K.moved hW.alike hK9, hD9⟩, hS.F ht⟩) hS.2.2 dX10_channel_111
      · refine lv_tableIn (off := 94) (tgt := 112) hx hb dX10_channel_18 (by rw [hq]; decide) (by rw [hq]; decide) (by rw [hq]; decide) (by decide) ?_
        refine lv_aload_n hx hb dX10_channel_112 rfl (lv_at hl 0 rfl) ?_
        refine va_get (D := (dC, dI)) (ci := 1) (v := .int 0) (C := RX1) (T := TX1) (N := 19) hx hb hts iwX1 hown hK hP 4 rfl rfl 17 (by decide) (hts (.fieldLink RX10 222 "ModulePlayer$Channel" "sounds" "Z") (List.mem_cons_of_mem _ kw_947)) (fun _ h9 => h9) rfl dX10_channel_113 ?_
        refine lv_if_eq (tgt := 123) hx hb dX10_channel_116 (by decide) (fun c_116 => ?_) (fun c_116 => absurd c_116 (by decide))
        refine lv_iconst (v := 0) hx hb dX10_channel_123 (by decide) ?_
        have hP9 := hP.sub (ws' := []) [] rfl
        have hD9 := hD.sub (ws' := []) [] (by decide) rfl
        have hK9 := hK.sub (tys' := []) [] rfl
        exact W.iret (v := 0) hx hb hr (fun t ht hW => ⟨⟨0, ([], []), rfl, ⟨rfl, by subst hq; exact chF_t ⟨h_2, by decide⟩⟩, by rw [ht]; exact hP9, va_K.moved hW.alike hK9, hD9⟩, hS.F ht⟩) hS.2.2 dX10_channel_124
      · refine lv_tableIn (off := 107) (tgt := 125) hx hb dX10_channel_18 (by rw [hq]; decide) (by rw [hq]; decide) (by rw [hq]; decide) (by decide) ?_
        refine lv_aload_n hx hb dX10_channel_125 rfl (lv_at hl 0 rfl) ?_
        refine va_get (D := (dC, dI)) (ci := 1) (v := .int 0) (C := RX1) (T := TX1) (N := 19) hx hb hts iwX1 hown hK hP 4 rfl rfl 14 (by decide) (hts (.fieldLink RX10 225 "ModulePlayer$Channel" "heardPeriod" "I") (List.mem_cons_of_mem _ kw_948)) (fun _ h9 => h9) rfl dX10_channel_126 ?_
        have hP9 := hP.sub (ws' := []) [] rfl
        have hD9 := hD.sub (ws' := []) [] (by decide) rfl
        have hK9 := hK.sub (tys' := []) [] rfl
        exact W.iret (v := 0) hx hb hr (fun t ht hW => ⟨⟨0, ([], []), rfl, ⟨rfl, by subst hq; exact chF_t ⟨h_2, by decide⟩⟩, by rw [ht]; exact hP9, va_K.moved hW.alike hK9, hD9⟩, hS.F ht⟩) hS.2.2 dX10_channel_129
      · refine lv_tableIn (off := 112) (tgt := 130) hx hb dX10_channel_18 (by rw [hq]; decide) (by rw [hq]; decide) (by rw [hq]; decide) (by decide) ?_
        refine lv_aload_n hx hb dX10_channel_130 rfl (lv_at hl 0 rfl) ?_
        refine va_get (D := (dC, dI)) (ci := 1) (v := .int 0) (C := RX1) (T := TX1) (N := 19) hx hb hts iwX1 hown hK hP 4 rfl rfl 15 (by decide) (hts (.fieldLink RX10 228 "ModulePlayer$Channel" "heardVolume" "I") (List.mem_cons_of_mem _ kw_949)) (fun _ h9 => h9) rfl dX10_channel_131 ?_
        have hP9 := hP.sub (ws' := []) [] rfl
        have hD9 := hD.sub (ws' := []) [] (by decide) rfl
        have hK9 := hK.sub (tys' := []) [] rfl
        exact W.iret (v := 0) hx hb hr (fun t ht hW => ⟨⟨0, ([], []), rfl, ⟨rfl, by subst hq; exact chF_t ⟨h_2, by decide⟩⟩, by rw [ht]; exact hP9, va_K.moved hW.alike hK9, hD9⟩, hS.F ht⟩) hS.2.2 dX10_channel_134
      · refine lv_tableIn (off := 117) (tgt := 135) hx hb dX10_channel_18 (by rw [hq]; decide) (by rw [hq]; decide) (by rw [hq]; decide) (by decide) ?_
        refine lv_aload_n hx hb dX10_channel_135 rfl (lv_at hl 0 rfl) ?_
        refine va_get (D := (dC, dI)) (ci := 1) (v := .int 0) (C := RX1) (T := TX1) (N := 19) hx hb hts iwX1 hown hK hP 4 rfl rfl 6 (by decide) (hts (.fieldLink RX10 231 "ModulePlayer$Channel" "tune" "I") (List.mem_cons_of_mem _ kw_950)) (fun _ h9 => h9) rfl dX10_channel_136 ?_
        have hP9 := hP.sub (ws' := []) [] rfl
        have hD9 := hD.sub (ws' := []) [] (by decide) rfl
        have hK9 := hK.sub (tys' := []) [] rfl
        exact W.iret (v := 0) hx hb hr (fun t ht hW => ⟨⟨0, ([], []), rfl, ⟨rfl, by subst hq; exact chF_t ⟨h_2, by decide⟩⟩, by rw [ht]; exact hP9, va_K.moved hW.alike hK9, hD9⟩, hS.F ht⟩) hS.2.2 dX10_channel_139
      · refine lv_tableIn (off := 122) (tgt := 140) hx hb dX10_channel_18 (by rw [hq]; decide) (by rw [hq]; decide) (by rw [hq]; decide) (by decide) ?_
        refine lv_aload_n hx hb dX10_channel_140 rfl (lv_at hl 0 rfl) ?_
        refine va_get (D := (dC, dI)) (ci := 1) (v := .int 0) (C := RX1) (T := TX1) (N := 19) hx hb hts iwX1 hown hK hP 4 rfl rfl 9 (by decide) (hts (.fieldLink RX10 234 "ModulePlayer$Channel" "target" "I") (List.mem_cons_of_mem _ kw_951)) (fun _ h9 => h9) rfl dX10_channel_141 ?_
        have hP9 := hP.sub (ws' := []) [] rfl
        have hD9 := hD.sub (ws' := []) [] (by decide) rfl
        have hK9 := hK.sub (tys' := []) [] rfl
        exact W.iret (v := 0) hx hb hr (fun t ht hW => ⟨⟨0, ([], []), rfl, ⟨rfl, by subst hq; exact chF_t ⟨h_2, by decide⟩⟩, by rw [ht]; exact hP9, va_K.moved hW.alike hK9, hD9⟩, hS.F ht⟩) hS.2.2 dX10_channel_144
      · refine lv_tableIn (off := 127) (tgt := 145) hx hb dX10_channel_18 (by rw [hq]; decide) (by rw [hq]; decide) (by rw [hq]; decide) (by decide) ?_
        refine lv_aload_n hx hb dX10_channel_145 rfl (lv_at hl 0 rfl) ?_
        refine va_get (D := (dC, dI)) (ci := 1) (v := .long 0) (C := RX1) (T := TX1) (N := 19) hx hb hts iwX1 hown hK hP 4 rfl rfl 16 (by decide) (hts (.fieldLink RX10 219 "ModulePlayer$Channel" "place" "J") (List.mem_cons_of_mem _ kw_946)) (fun _ h9 => h9) rfl dX10_channel_146 ?_
        refine lv_ldc2 (v := 65535) hx hb hown (hts (.constantLong RX10 237 (65535)) (List.mem_cons_of_mem _ kw_952)) dX10_channel_149 ?_
        refine lv_land hx hb dX10_channel_152 ?_
        refine g_topl (y := 0) (by decide) ?_
        refine lv_l2i (v := 0) hx hb dX10_channel_153 (by decide) ?_
        have hP9 := hP.sub (ws' := []) [] rfl
        have hD9 := hD.sub (ws' := []) [] (by decide) rfl
        have hK9 := hK.sub (tys' := []) [] rfl
        exact W.iret (v := 0) hx hb hr (fun t ht hW => ⟨⟨0, ([], []), rfl, ⟨rfl, by subst hq; exact chF_t ⟨h_2, by decide⟩⟩, by rw [ht]; exact hP9, va_K.moved hW.alike hK9, hD9⟩, hS.F ht⟩) hS.2.2 dX10_channel_154
      · refine lv_tableIn (off := 137) (tgt := 155) hx hb dX10_channel_18 (by rw [hq]; decide) (by rw [hq]; decide) (by rw [hq]; decide) (by decide) ?_
        refine lv_aload_n hx hb dX10_channel_155 rfl (lv_at hl 0 rfl) ?_
        refine va_get (D := (dC, dI)) (ci := 1) (v := .ref v2) (C := RX1) (T := TX1) (N := 19) hx hb hts iwX1 hown hK hP 4 rfl rfl 1 (by decide) (hts (.fieldLink RX10 239 "ModulePlayer$Channel" "vibrato" "LModulePlayer$Wobble;") (List.mem_cons_of_mem _ kw_953)) (fun _ h9 => h9) rfl dX10_channel_156 ?_
        refine va_get (D := (dC, dI)) (ci := 8) (v := .int 0) (C := RX8) (T := TX8) (N := 4) hx hb hts iwX8 hown hK hP 8 rfl rfl 2 (by decide) (hts (.fieldLink RX10 243 "ModulePlayer$Wobble" "place" "I") (List.mem_cons_of_mem _ kw_954)) (fun _ h9 => h9) rfl dX10_channel_159 ?_
        have hP9 := hP.sub (ws' := []) [] rfl
        have hD9 := hD.sub (ws' := []) [] (by decide) rfl
        have hK9 := hK.sub (tys' := []) [] rfl
        exact W.iret (v := 0) hx hb hr (fun t ht hW => ⟨⟨0, ([], []), rfl, ⟨rfl, by subst hq; exact chF_t ⟨h_2, by decide⟩⟩, by rw [ht]; exact hP9, va_K.moved hW.alike hK9, hD9⟩, hS.F ht⟩) hS.2.2 dX10_channel_162
      · refine lv_tableIn (off := 145) (tgt := 163) hx hb dX10_channel_18 (by rw [hq]; decide) (by rw [hq]; decide) (by rw [hq]; decide) (by decide) ?_
        refine lv_aload_n hx hb dX10_channel_163 rfl (lv_at hl 0 rfl) ?_
        refine va_get (D := (dC, dI)) (ci := 1) (v := .ref w2) (C := RX1) (T := TX1) (N := 19) hx hb hts iwX1 hown hK hP 4 rfl rfl 2 (by decide) (hts (.fieldLink RX10 246 "ModulePlayer$Channel" "tremolo" "LModulePlayer$Wobble;") (List.mem_cons_of_mem _ kw_955)) (fun _ h9 => h9) rfl dX10_channel_164 ?_
        refine va_get (D := (dC, dI)) (ci := 8) (v := .int 0) (C := RX8) (T := TX8) (N := 4) hx hb hts iwX8 hown hK hP 12 rfl rfl 2 (by decide) (hts (.fieldLink RX10 243 "ModulePlayer$Wobble" "place" "I") (List.mem_cons_of_mem _ kw_954)) (fun _ h9 => h9) rfl dX10_channel_167 ?_
        have hP9 := hP.sub (ws' := []) [] rfl
        have hD9 := hD.sub (ws' := []) [] (by decide) rfl
        have hK9 := hK.sub (tys' := []) [] rfl
        exact W.iret (v := 0) hx hb hr (fun t ht hW => ⟨⟨0, ([], []), rfl, ⟨rfl, by subst hq; exact chF_t ⟨h_2, by decide⟩⟩, by rw [ht]; exact hP9, va_K.moved hW.alike hK9, hD9⟩, hS.F ht⟩) hS.2.2 dX10_channel_170
      · refine lv_tableIn (off := 153) (tgt := 171) hx hb dX10_channel_18 (by rw [hq]; decide) (by rw [hq]; decide) (by rw [hq]; decide) (by decide) ?_
        refine lv_aload_n hx hb dX10_channel_171 rfl (lv_at hl 0 rfl) ?_
        refine va_get (D := (dC, dI)) (ci := 1) (v := .int 0) (C := RX1) (T := TX1) (N := 19) hx hb hts iwX1 hown hK hP 4 rfl rfl 12 (by decide) (hts (.fieldLink RX10 249 "ModulePlayer$Channel" "loopRow" "I") (List.mem_cons_of_mem _ kw_956)) (fun _ h9 => h9) rfl dX10_channel_172 ?_
        have hP9 := hP.sub (ws' := []) [] rfl
        have hD9 := hD.sub (ws' := []) [] (by decide) rfl
        have hK9 := hK.sub (tys' := []) [] rfl
        exact W.iret (v := 0) hx hb hr (fun t ht hW => ⟨⟨0, ([], []), rfl, ⟨rfl, by subst hq; exact chF_t ⟨h_2, by decide⟩⟩, by rw [ht]; exact hP9, va_K.moved hW.alike hK9, hD9⟩, hS.F ht⟩) hS.2.2 dX10_channel_175
      · refine lv_tableIn (off := 158) (tgt := 176) hx hb dX10_channel_18 (by rw [hq]; decide) (by rw [hq]; decide) (by rw [hq]; decide) (by decide) ?_
        refine lv_aload_n hx hb dX10_channel_176 rfl (lv_at hl 0 rfl) ?_
        refine va_get (D := (dC, dI)) (ci := 1) (v := .int 0) (C := RX1) (T := TX1) (N := 19) hx hb hts iwX1 hown hK hP 4 rfl rfl 13 (by decide) (hts (.fieldLink RX10 252 "ModulePlayer$Channel" "loopLeft" "I") (List.mem_cons_of_mem _ kw_957)) (fun _ h9 => h9) rfl dX10_channel_177 ?_
        have hP9 := hP.sub (ws' := []) [] rfl
        have hD9 := hD.sub (ws' := []) [] (by decide) rfl
        have hK9 := hK.sub (tys' := []) [] rfl
        exact W.iret (v := 0) hx hb hr (fun t ht hW => ⟨⟨0, ([], []), rfl, ⟨rfl, by subst hq; exact chF_t ⟨h_2, by decide⟩⟩, by rw [ht]; exact hP9, va_K.moved hW.alike hK9, hD9⟩, hS.F ht⟩) hS.2.2 dX10_channel_180
    · skip
      refine lv_if_ne (tgt := 10) hx hb dX10_channel_5 (by decide) (fun c_5 => ?_) (fun c_5 => absurd c_5 (by decide))
      refine lv_aload_n hx hb dX10_channel_10 rfl (lv_at hl 0 rfl) ?_
      refine va_get (D := (dC, dI)) (ci := 9) (v := .ref aC) (C := RX10) (T := TX10) (N := 7) hx hb hts iwX10 hown hK hP 0 rfl rfl 5 (by decide) (hts (.fieldLink RX10 48 "ModulePlayer" "channels" "[LModulePlayer$Channel;") (List.mem_cons_of_mem _ kw_37)) (fun _ h9 => h9) rfl dX10_channel_11 ?_
      refine lv_iload_n hx hb dX10_channel_14 rfl (lv_at hl 1 rfl) ?_
      refine g_aald hx hb hK hP 1 0 rfl rfl 3 (by decide) (y := c3) (hc3) (by unfold vp_in; decide) dX10_channel_15 ?_
      refine lv_astore_n (lv' := [(3, .ref c3), (0, .ref h), (1, .int 3), (2, .int x2)]) hx hb dX10_channel_16 rfl hl (by decide) rfl (fun ls hl => ?_)
      refine lv_iload_n hx hb dX10_channel_17 rfl (lv_at hl 3 rfl) ?_
      by_cases hlo_18 : x2.toInt < 0
      · refine lv_tableOut (tgt := 181) hx hb dX10_channel_18 (Or.inl hlo_18) (by decide) ?_
        refine lv_iconst (v := (-1)) hx hb dX10_channel_181 (by decide) ?_
        have hP9 := hP.sub (ws' := []) [] rfl
        have hD9 := hD.sub (ws' := []) [] (by decide) rfl
        have hK9 := hK.sub (tys' := []) [] rfl
        exact W.iret (v := (-1)) hx hb hr (fun t ht hW => ⟨⟨(-1), ([], []), rfl, ⟨rfl, chF_f (fun q => by first | exact ch_lo hlo_18 q.2 | exact ch_hi hhi_18 q.2)⟩, by rw [ht]; exact hP9, va_K.moved hW.alike hK9, hD9⟩, hS.F ht⟩) hS.2.2 dX10_channel_182
      by_cases hhi_18 : 13 < x2.toInt
      · refine lv_tableOut (tgt := 181) hx hb dX10_channel_18 (Or.inr hhi_18) (by decide) ?_
        refine lv_iconst (v := (-1)) hx hb dX10_channel_181 (by decide) ?_
        have hP9 := hP.sub (ws' := []) [] rfl
        have hD9 := hD.sub (ws' := []) [] (by decide) rfl
        have hK9 := hK.sub (tys' := []) [] rfl
        exact W.iret (v := (-1)) hx hb hr (fun t ht hW => ⟨⟨(-1), ([], []), rfl, ⟨rfl, chF_f (fun q => by first | exact ch_lo hlo_18 q.2 | exact ch_hi hhi_18 q.2)⟩, by rw [ht]; exact hP9, va_K.moved hW.alike hK9, hD9⟩, hS.F ht⟩) hS.2.2 dX10_channel_182
      have hsw_18 : x2 = 0 ∨ x2 = 1 ∨ x2 = 2 ∨ x2 = 3 ∨ x2 = 4 ∨ x2 = 5 ∨ x2 = 6 ∨ x2 = 7 ∨ x2 = 8 ∨ x2 = 9 ∨ x2 = 10 ∨ x2 = 11 ∨ x2 = 12 ∨ x2 = 13 := by
        have h1 : x2.toInt = 0 ∨ x2.toInt = 1 ∨ x2.toInt = 2 ∨ x2.toInt = 3 ∨ x2.toInt = 4 ∨ x2.toInt = 5 ∨ x2.toInt = 6 ∨ x2.toInt = 7 ∨ x2.toInt = 8 ∨ x2.toInt = 9 ∨ x2.toInt = 10 ∨ x2.toInt = 11 ∨ x2.toInt = 12 ∨ x2.toInt = 13 := by omega
        rcases h1 with h1 | h1 | h1 | h1 | h1 | h1 | h1 | h1 | h1 | h1 | h1 | h1 | h1 | h1 <;> simp only [i_eq, h1] <;> decide
      rcases hsw_18 with hq | hq | hq | hq | hq | hq | hq | hq | hq | hq | hq | hq | hq | hq
      · refine lv_tableIn (off := 70) (tgt := 88) hx hb dX10_channel_18 (by rw [hq]; decide) (by rw [hq]; decide) (by rw [hq]; decide) (by decide) ?_
        refine lv_aload_n hx hb dX10_channel_88 rfl (lv_at hl 0 rfl) ?_
        refine va_get (D := (dC, dI)) (ci := 1) (v := .int 0) (C := RX1) (T := TX1) (N := 19) hx hb hts iwX1 hown hK hP 5 rfl rfl 4 (by decide) (hts (.fieldLink RX10 210 "ModulePlayer$Channel" "sample" "I") (List.mem_cons_of_mem _ kw_943)) (fun _ h9 => h9) rfl dX10_channel_89 ?_
        have hP9 := hP.sub (ws' := []) [] rfl
        have hD9 := hD.sub (ws' := []) [] (by decide) rfl
        have hK9 := hK.sub (tys' := []) [] rfl
        exact W.iret (v := 0) hx hb hr (fun t ht hW => ⟨⟨0, ([], []), rfl, ⟨rfl, by subst hq; exact chF_t ⟨h_2, by decide⟩⟩, by rw [ht]; exact hP9, va_K.moved hW.alike hK9, hD9⟩, hS.F ht⟩) hS.2.2 dX10_channel_92
      · refine lv_tableIn (off := 75) (tgt := 93) hx hb dX10_channel_18 (by rw [hq]; decide) (by rw [hq]; decide) (by rw [hq]; decide) (by decide) ?_
        refine lv_aload_n hx hb dX10_channel_93 rfl (lv_at hl 0 rfl) ?_
        refine va_get (D := (dC, dI)) (ci := 1) (v := .int 0) (C := RX1) (T := TX1) (N := 19) hx hb hts iwX1 hown hK hP 5 rfl rfl 5 (by decide) (hts (.fieldLink RX10 213 "ModulePlayer$Channel" "volume" "I") (List.mem_cons_of_mem _ kw_944)) (fun _ h9 => h9) rfl dX10_channel_94 ?_
        have hP9 := hP.sub (ws' := []) [] rfl
        have hD9 := hD.sub (ws' := []) [] (by decide) rfl
        have hK9 := hK.sub (tys' := []) [] rfl
        exact W.iret (v := 0) hx hb hr (fun t ht hW => ⟨⟨0, ([], []), rfl, ⟨rfl, by subst hq; exact chF_t ⟨h_2, by decide⟩⟩, by rw [ht]; exact hP9, va_K.moved hW.alike hK9, hD9⟩, hS.F ht⟩) hS.2.2 dX10_channel_97
      · refine lv_tableIn (off := 80) (tgt := 98) hx hb dX10_channel_18 (by rw [hq]; decide) (by rw [hq]; decide) (by rw [hq]; decide) (by decide) ?_
        refine lv_aload_n hx hb dX10_channel_98 rfl (lv_at hl 0 rfl) ?_
        refine va_get (D := (dC, dI)) (ci := 1) (v := .int 0) (C := RX1) (T := TX1) (N := 19) hx hb hts iwX1 hown hK hP 5 rfl rfl 7 (by decide) (hts (.fieldLink RX10 216 "ModulePlayer$Channel" "period" "I") (List.mem_cons_of_mem _ kw_945)) (fun _ h9 => h9) rfl dX10_channel_99 ?_
        have hP9 := hP.sub (ws' := []) [] rfl
        have hD9 := hD.sub (ws' := []) [] (by decide) rfl
        have hK9 := hK.sub (tys' := []) [] rfl
        exact W.iret (v := 0) hx hb hr (fun t ht hW => ⟨⟨0, ([], []), rfl, ⟨rfl, by subst hq; exact chF_t ⟨h_2, by decide⟩⟩, by rw [ht]; exact hP9, va_K.moved hW.alike hK9, hD9⟩, hS.F ht⟩) hS.2.2 dX10_channel_102
      · refine lv_tableIn (off := 85) (tgt := 103) hx hb dX10_channel_18 (by rw [hq]; decide) (by rw [hq]; decide) (by rw [hq]; decide) (by decide) ?_
        refine lv_aload_n hx hb dX10_channel_103 rfl (lv_at hl 0 rfl) ?_
        refine va_get (D := (dC, dI)) (ci := 1) (v := .long 0) (C := RX1) (T := TX1) (N := 19) hx hb hts iwX1 hown hK hP 5 rfl rfl 16 (by decide) (hts (.fieldLink RX10 219 "ModulePlayer$Channel" "place" "J") (List.mem_cons_of_mem _ kw_946)) (fun _ h9 => h9) rfl dX10_channel_104 ?_
        refine lv_bipush (v := 16) hx hb dX10_channel_107 (by decide) ?_
        refine lv_lshr (v := 0 >>> ((16 : Int32).toInt64 &&& 63)) hx hb dX10_channel_109 rfl ?_
        refine g_topl (y := 0) (by decide) ?_
        refine lv_l2i (v := 0) hx hb dX10_channel_110 (by decide) ?_
        have hP9 := hP.sub (ws' := []) [] rfl
        have hD9 := hD.sub (ws' := []) [] (by decide) rfl
        have hK9 := hK.sub (tys' := []) [] rfl
        exact W.iret (v := 0) hx hb hr (fun t ht hW => ⟨⟨0, ([], []), rfl, ⟨rfl, by subst hq; exact chF_t ⟨h_2, by decide⟩⟩, by rw [ht]; exact hP9, va_K.moved hW.alike hK9, hD9⟩, hS.F ht⟩) hS.2.2 dX10_channel_111
      · refine lv_tableIn (off := 94) (tgt := 112) hx hb dX10_channel_18 (by rw [hq]; decide) (by rw [hq]; decide) (by rw [hq]; decide) (by decide) ?_
        refine lv_aload_n hx hb dX10_channel_112 rfl (lv_at hl 0 rfl) ?_
        refine va_get (D := (dC, dI)) (ci := 1) (v := .int 0) (C := RX1) (T := TX1) (N := 19) hx hb hts iwX1 hown hK hP 5 rfl rfl 17 (by decide) (hts (.fieldLink RX10 222 "ModulePlayer$Channel" "sounds" "Z") (List.mem_cons_of_mem _ kw_947)) (fun _ h9 => h9) rfl dX10_channel_113 ?_
        refine lv_if_eq (tgt := 123) hx hb dX10_channel_116 (by decide) (fun c_116 => ?_) (fun c_116 => absurd c_116 (by decide))
        refine lv_iconst (v := 0) hx hb dX10_channel_123 (by decide) ?_
        have hP9 := hP.sub (ws' := []) [] rfl
        have hD9 := hD.sub (ws' := []) [] (by decide) rfl
        have hK9 := hK.sub (tys' := []) [] rfl
        exact W.iret (v := 0) hx hb hr (fun t ht hW => ⟨⟨0, ([], []), rfl, ⟨rfl, by subst hq; exact chF_t ⟨h_2, by decide⟩⟩, by rw [ht]; exact hP9, va_K.moved hW.alike hK9, hD9⟩, hS.F ht⟩) hS.2.2 dX10_channel_124
      · refine lv_tableIn (off := 107) (tgt := 125) hx hb dX10_channel_18 (by rw [hq]; decide) (by rw [hq]; decide) (by rw [hq]; decide) (by decide) ?_
        refine lv_aload_n hx hb dX10_channel_125 rfl (lv_at hl 0 rfl) ?_
        refine va_get (D := (dC, dI)) (ci := 1) (v := .int 0) (C := RX1) (T := TX1) (N := 19) hx hb hts iwX1 hown hK hP 5 rfl rfl 14 (by decide) (hts (.fieldLink RX10 225 "ModulePlayer$Channel" "heardPeriod" "I") (List.mem_cons_of_mem _ kw_948)) (fun _ h9 => h9) rfl dX10_channel_126 ?_
        have hP9 := hP.sub (ws' := []) [] rfl
        have hD9 := hD.sub (ws' := []) [] (by decide) rfl
        have hK9 := hK.sub (tys' := []) [] rfl
        exact W.iret (v := 0) hx hb hr (fun t ht hW => ⟨⟨0, ([], []), rfl, ⟨rfl, by subst hq; exact chF_t ⟨h_2, by decide⟩⟩, by rw [ht]; exact hP9, va_K.moved hW.alike hK9, hD9⟩, hS.F ht⟩) hS.2.2 dX10_channel_129
      · refine lv_tableIn (off := 112) (tgt := 130) hx hb dX10_channel_18 (by rw [hq]; decide) (by rw [hq]; decide) (by rw [hq]; decide) (by decide) ?_
        refine lv_aload_n hx hb dX10_channel_130 rfl (lv_at hl 0 rfl) ?_
        refine va_get (D := (dC, dI)) (ci := 1) (v := .int 0) (C := RX1) (T := TX1) (N := 19) hx hb hts iwX1 hown hK hP 5 rfl rfl 15 (by decide) (hts (.fieldLink RX10 228 "ModulePlayer$Channel" "heardVolume" "I") (List.mem_cons_of_mem _ kw_949)) (fun _ h9 => h9) rfl dX10_channel_131 ?_
        have hP9 := hP.sub (ws' := []) [] rfl
        have hD9 := hD.sub (ws' := []) [] (by decide) rfl
        have hK9 := hK.sub (tys' := []) [] rfl
        exact W.iret (v := 0) hx hb hr (fun t ht hW => ⟨⟨0, ([], []), rfl, ⟨rfl, by subst hq; exact chF_t ⟨h_2, by decide⟩⟩, by rw [ht]; exact hP9, va_K.moved hW.alike hK9, hD9⟩, hS.F ht⟩) hS.2.2 dX10_channel_134
      · refine lv_tableIn (off := 117) (tgt := 135) hx hb dX10_channel_18 (by rw [hq]; decide) (by rw [hq]; decide) (by rw [hq]; decide) (by decide) ?_
        refine lv_aload_n hx hb dX10_channel_135 rfl (lv_at hl 0 rfl) ?_
        refine va_get (D := (dC, dI)) (ci := 1) (v := .int 0) (C := RX1) (T := TX1) (N := 19) hx hb hts iwX1 hown hK hP 5 rfl rfl 6 (by decide) (hts (.fieldLink RX10 231 "ModulePlayer$Channel" "tune" "I") (List.mem_cons_of_mem _ kw_950)) (fun _ h9 => h9) rfl dX10_channel_136 ?_
        have hP9 := hP.sub (ws' := []) [] rfl
        have hD9 := hD.sub (ws' := []) [] (by decide) rfl
        have hK9 := hK.sub (tys' := []) [] rfl
        exact W.iret (v := 0) hx hb hr (fun t ht hW => ⟨⟨0, ([], []), rfl, ⟨rfl, by subst hq; exact chF_t ⟨h_2, by decide⟩⟩, by rw [ht]; exact hP9, va_K.moved hW.alike hK9, hD9⟩, hS.F ht⟩) hS.2.2 dX10_channel_139
      · refine lv_tableIn (off := 122) (tgt := 140) hx hb dX10_channel_18 (by rw [hq]; decide) (by rw [hq]; decide) (by rw [hq]; decide) (by decide) ?_
        refine lv_aload_n hx hb dX10_channel_140 rfl (lv_at hl 0 rfl) ?_
        refine va_get (D := (dC, dI)) (ci := 1) (v := .int 0) (C := RX1) (T := TX1) (N := 19) hx hb hts iwX1 hown hK hP 5 rfl rfl 9 (by decide) (hts (.fieldLink RX10 234 "ModulePlayer$Channel" "target" "I") (List.mem_cons_of_mem _ kw_951)) (fun _ h9 => h9) rfl dX10_channel_141 ?_
        have hP9 := hP.sub (ws' := []) [] rfl
        have hD9 := hD.sub (ws' := []) [] (by decide) rfl
        have hK9 := hK.sub (tys' := []) [] rfl
        exact W.iret (v := 0) hx hb hr (fun t ht hW => ⟨⟨0, ([], []), rfl, ⟨rfl, by subst hq; exact chF_t ⟨h_2, by decide⟩⟩, by rw [ht]; exact hP9, va_K.moved hW.alike hK9, hD9⟩, hS.F ht⟩) hS.2.2 dX10_channel_144
      · refine lv_tableIn (off := 127) (tgt := 145) hx hb dX10_channel_18 (by rw [hq]; decide) (by rw [hq]; decide) (by rw [hq]; decide) (by decide) ?_
        refine lv_aload_n hx hb dX10_channel_145 rfl (lv_at hl 0 rfl) ?_
        refine va_get (D := (dC, dI)) (ci := 1) (v := .long 0) (C := RX1) (T := TX1) (N := 19) hx hb hts iwX1 hown hK hP 5 rfl rfl 16 (by decide) (hts (.fieldLink RX10 219 "ModulePlayer$Channel" "place" "J") (List.mem_cons_of_mem _ kw_946)) (fun _ h9 => h9) rfl dX10_channel_146 ?_
        refine lv_ldc2 (v := 65535) hx hb hown (hts (.constantLong RX10 237 (65535)) (List.mem_cons_of_mem _ kw_952)) dX10_channel_149 ?_
        refine lv_land hx hb dX10_channel_152 ?_
        refine g_topl (y := 0) (by decide) ?_
        refine lv_l2i (v := 0) hx hb dX10_channel_153 (by decide) ?_
        have hP9 := hP.sub (ws' := []) [] rfl
        have hD9 := hD.sub (ws' := []) [] (by decide) rfl
        have hK9 := hK.sub (tys' := []) [] rfl
        exact W.iret (v := 0) hx hb hr (fun t ht hW => ⟨⟨0, ([], []), rfl, ⟨rfl, by subst hq; exact chF_t ⟨h_2, by decide⟩⟩, by rw [ht]; exact hP9, va_K.moved hW.alike hK9, hD9⟩, hS.F ht⟩) hS.2.2 dX10_channel_154
      · refine lv_tableIn (off := 137) (tgt := 155) hx hb dX10_channel_18 (by rw [hq]; decide) (by rw [hq]; decide) (by rw [hq]; decide) (by decide) ?_
        refine lv_aload_n hx hb dX10_channel_155 rfl (lv_at hl 0 rfl) ?_
        refine va_get (D := (dC, dI)) (ci := 1) (v := .ref v3) (C := RX1) (T := TX1) (N := 19) hx hb hts iwX1 hown hK hP 5 rfl rfl 1 (by decide) (hts (.fieldLink RX10 239 "ModulePlayer$Channel" "vibrato" "LModulePlayer$Wobble;") (List.mem_cons_of_mem _ kw_953)) (fun _ h9 => h9) rfl dX10_channel_156 ?_
        refine va_get (D := (dC, dI)) (ci := 8) (v := .int 0) (C := RX8) (T := TX8) (N := 4) hx hb hts iwX8 hown hK hP 9 rfl rfl 2 (by decide) (hts (.fieldLink RX10 243 "ModulePlayer$Wobble" "place" "I") (List.mem_cons_of_mem _ kw_954)) (fun _ h9 => h9) rfl dX10_channel_159 ?_
        have hP9 := hP.sub (ws' := []) [] rfl
        have hD9 := hD.sub (ws' := []) [] (by decide) rfl
        have hK9 := hK.sub (tys' := []) [] rfl
        exact W.iret (v := 0) hx hb hr (fun t ht hW => ⟨⟨0, ([], []), rfl, ⟨rfl, by subst hq; exact chF_t ⟨h_2, by decide⟩⟩, by rw [ht]; exact hP9, va_K.moved hW.alike hK9, hD9⟩, hS.F ht⟩) hS.2.2 dX10_channel_162
      · refine lv_tableIn (off := 145) (tgt := 163) hx hb dX10_channel_18 (by rw [hq]; decide) (by rw [hq]; decide) (by rw [hq]; decide) (by decide) ?_
        refine lv_aload_n hx hb dX10_channel_163 rfl (lv_at hl 0 rfl) ?_
        refine va_get (D := (dC, dI)) (ci := 1) (v := .ref w3) (C := RX1) (T := TX1) (N := 19) hx hb hts iwX1 hown hK hP 5 rfl rfl 2 (by decide) (hts (.fieldLink RX10 246 "ModulePlayer$Channel" "tremolo" "LModulePlayer$Wobble;") (List.mem_cons_of_mem _ kw_955)) (fun _ h9 => h9) rfl dX10_channel_164 ?_
        refine va_get (D := (dC, dI)) (ci := 8) (v := .int 0) (C := RX8) (T := TX8) (N := 4) hx hb hts iwX8 hown hK hP 13 rfl rfl 2 (by decide) (hts (.fieldLink RX10 243 "ModulePlayer$Wobble" "place" "I") (List.mem_cons_of_mem _ kw_954)) (fun _ h9 => h9) rfl dX10_channel_167 ?_
        have hP9 := hP.sub (ws' := []) [] rfl
        have hD9 := hD.sub (ws' := []) [] (by decide) rfl
        have hK9 := hK.sub (tys' := []) [] rfl
        exact W.iret (v := 0) hx hb hr (fun t ht hW => ⟨⟨0, ([], []), rfl, ⟨rfl, by subst hq; exact chF_t ⟨h_2, by decide⟩⟩, by rw [ht]; exact hP9, va_K.moved hW.alike hK9, hD9⟩, hS.F ht⟩) hS.2.2 dX10_channel_170
      · refine lv_tableIn (off := 153) (tgt := 171) hx hb dX10_channel_18 (by rw [hq]; decide) (by rw [hq]; decide) (by rw [hq]; decide) (by decide) ?_
        refine lv_aload_n hx hb dX10_channel_171 rfl (lv_at hl 0 rfl) ?_
        refine va_get (D := (dC, dI)) (ci := 1) (v := .int 0) (C := RX1) (T := TX1) (N := 19) hx hb hts iwX1 hown hK hP 5 rfl rfl 12 (by decide) (hts (.fieldLink RX10 249 "ModulePlayer$Channel" "loopRow" "I") (List.mem_cons_of_mem _ kw_956)) (fun _ h9 => h9) rfl dX10_channel_172 ?_
        have hP9 := hP.sub (ws' := []) [] rfl
        have hD9 := hD.sub (ws' := []) [] (by decide) rfl
        have hK9 := hK.sub (tys' := []) [] rfl
        exact W.iret (v := 0) hx hb hr (fun t ht hW => ⟨⟨0, ([], []), rfl, ⟨rfl, by subst hq; exact chF_t ⟨h_2, by decide⟩⟩, by rw [ht]; exact hP9, va_K.moved hW.alike hK9, hD9⟩, hS.F ht⟩) hS.2.2 dX10_channel_175
      · refine lv_tableIn (off := 158) (tgt := 176) hx hb dX10_channel_18 (by rw [hq]; decide) (by rw [hq]; decide) (by rw [hq]; decide) (by decide) ?_
        refine lv_aload_n hx hb dX10_channel_176 rfl (lv_at hl 0 rfl) ?_
        refine va_get (D := (dC, dI)) (ci := 1) (v := .int 0) (C := RX1) (T := TX1) (N := 19) hx hb hts iwX1 hown hK hP 5 rfl rfl 13 (by decide) (hts (.fieldLink RX10 252 "ModulePlayer$Channel" "loopLeft" "I") (List.mem_cons_of_mem _ kw_957)) (fun _ h9 => h9) rfl dX10_channel_177 ?_
        have hP9 := hP.sub (ws' := []) [] rfl
        have hD9 := hD.sub (ws' := []) [] (by decide) rfl
        have hK9 := hK.sub (tys' := []) [] rfl
        exact W.iret (v := 0) hx hb hr (fun t ht hW => ⟨⟨0, ([], []), rfl, ⟨rfl, by subst hq; exact chF_t ⟨h_2, by decide⟩⟩, by rw [ht]; exact hP9, va_K.moved hW.alike hK9, hD9⟩, hS.F ht⟩) hS.2.2 dX10_channel_180
  cases hu
  have hP : va_P (dC, dI) vwCl [(h, .inr (9, [.ref aT, .ref aB, .ref aS, .ref aR, .ref aF, .ref aC, .ref aX])), (aC, .inl (cC, 4, .inr (.inr (.inr (.inr gc))))), (c0, .inr (1, [.ref aB, .ref v0, .ref w0, .int 0, .int 0, .int 0, .int 0, .int 0, .int 0, .int 0, .int 0, .int 0, .int 0, .int 0, .int 0, .int 0, .long 0, .int 0, .int 0])), (c1, .inr (1, [.ref aB, .ref v1, .ref w1, .int 0, .int 0, .int 0, .int 0, .int 0, .int 0, .int 0, .int 0, .int 0, .int 0, .int 0, .int 0, .int 0, .long 0, .int 0, .int 0])), (c2, .inr (1, [.ref aB, .ref v2, .ref w2, .int 0, .int 0, .int 0, .int 0, .int 0, .int 0, .int 0, .int 0, .int 0, .int 0, .int 0, .int 0, .int 0, .long 0, .int 0, .int 0])), (c3, .inr (1, [.ref aB, .ref v3, .ref w3, .int 0, .int 0, .int 0, .int 0, .int 0, .int 0, .int 0, .int 0, .int 0, .int 0, .int 0, .int 0, .int 0, .long 0, .int 0, .int 0])), (v0, .inr (8, [.int 0, .int 0, .int 0, .int 0])), (v1, .inr (8, [.int 0, .int 0, .int 0, .int 0])), (v2, .inr (8, [.int 0, .int 0, .int 0, .int 0])), (v3, .inr (8, [.int 0, .int 0, .int 0, .int 0])), (w0, .inr (8, [.int 0, .int 0, .int 0, .int 0])), (w1, .inr (8, [.int 0, .int 0, .int 0, .int 0])), (w2, .inr (8, [.int 0, .int 0, .int 0, .int 0])), (w3, .inr (8, [.int 0, .int 0, .int 0, .int 0]))] H := hP
  have hD : va_D A [(h, .inr (9, [.ref aT, .ref aB, .ref aS, .ref aR, .ref aF, .ref aC, .ref aX])), (aC, .inl (cC, 4, .inr (.inr (.inr (.inr gc))))), (c0, .inr (1, [.ref aB, .ref v0, .ref w0, .int 0, .int 0, .int 0, .int 0, .int 0, .int 0, .int 0, .int 0, .int 0, .int 0, .int 0, .int 0, .int 0, .long 0, .int 0, .int 0])), (c1, .inr (1, [.ref aB, .ref v1, .ref w1, .int 0, .int 0, .int 0, .int 0, .int 0, .int 0, .int 0, .int 0, .int 0, .int 0, .int 0, .int 0, .int 0, .long 0, .int 0, .int 0])), (c2, .inr (1, [.ref aB, .ref v2, .ref w2, .int 0, .int 0, .int 0, .int 0, .int 0, .int 0, .int 0, .int 0, .int 0, .int 0, .int 0, .int 0, .int 0, .long 0, .int 0, .int 0])), (c3, .inr (1, [.ref aB, .ref v3, .ref w3, .int 0, .int 0, .int 0, .int 0, .int 0, .int 0, .int 0, .int 0, .int 0, .int 0, .int 0, .int 0, .int 0, .long 0, .int 0, .int 0])), (v0, .inr (8, [.int 0, .int 0, .int 0, .int 0])), (v1, .inr (8, [.int 0, .int 0, .int 0, .int 0])), (v2, .inr (8, [.int 0, .int 0, .int 0, .int 0])), (v3, .inr (8, [.int 0, .int 0, .int 0, .int 0])), (w0, .inr (8, [.int 0, .int 0, .int 0, .int 0])), (w1, .inr (8, [.int 0, .int 0, .int 0, .int 0])), (w2, .inr (8, [.int 0, .int 0, .int 0, .int 0])), (w3, .inr (8, [.int 0, .int 0, .int 0, .int 0]))] := hD
  refine g_topi (y := 0) hr_2 ?_
  refine lv_if_ne (tgt := 10) hx hb dX10_channel_5 (by decide) (fun c_5 => absurd c_5 (by decide)) (fun c_5 => ?_)
  refine lv_iconst (v := (-1)) hx hb dX10_channel_8 (by decide) ?_
  have hP9 := hP.sub (ws' := []) [] rfl
  have hD9 := hD.sub (ws' := []) [] (by decide) rfl
  have hK9 := hK.sub (tys' := []) [] rfl
  exact W.iret (v := (-1)) hx hb hr (fun t ht hW => ⟨⟨(-1), ([], []), rfl, ⟨rfl, chF_f (fun q => h_2 q.1)⟩, by rw [ht]; exact hP9, va_K.moved hW.alike hK9, hD9⟩, hS.F ht⟩) hS.2.2 dX10_channel_9

set_option maxHeartbeats 400000 in
set_option maxRecDepth 100000 in
/-- frame, first -/
theorem f_frame (l : Launch) (dC : Nat → ClassId) (dI : Nat → Nat → Nat) (sz : Nat) (h aT aB aS aR aF aC aX : Nat) (be le ri : Nat) (ra : Int32) (x y : Int32) : Met l yX10_frame (wsG (.code yX10_frame cX10_frame 3 (some .int))) ({ frames := 1, cells := 0, slots := 0, locals := 21 }) (va_Pc [.ref h, .int x, .int y] (gP (dC, dI) [] [(h, .inr (9, [.ref aT, .ref aB, .ref aS, .ref aR, .ref aF, .ref aC, .ref aX])), (aX, .inr (3, [.int ra, .ref le, .ref ri, .int 0, .int 17]))] sz)) (va_Qi (fun (r : Int32) (u : va_W × gT) => u = ([], []) ∧ r = 0) (gB (dC, dI) (va_A [(h, .inr (9, [.ref aT, .ref aB, .ref aS, .ref aR, .ref aF, .ref aC, .ref aX])), (aX, .inr (3, [.int ra, .ref le, .ref ri, .int 0, .int 17]))] sz)) (va_A [(h, .inr (9, [.ref aT, .ref aB, .ref aS, .ref aR, .ref aF, .ref aC, .ref aX])), (aX, .inr (3, [.int ra, .ref le, .ref ri, .int 0, .int 17]))] sz)) 0 0 (va_A [(h, .inr (9, [.ref aT, .ref aB, .ref aS, .ref aR, .ref aF, .ref aC, .ref aX])), (aX, .inr (3, [.int ra, .ref le, .ref ri, .int 0, .int 17]))] sz) := by
  refine Met.ofW (cc := cX10_frame) (maxL := 3) (ret := (some .int)) (by decide) rfl ?_
  intro p e s m args below meth c s₁ B hml hv
  obtain ⟨rfl, hsz, hP, hK, hD0, hN, hZ⟩ := hv
  have hx := B.exec
  have hb := B.bytes
  have hr := B.returns
  have hts := atoms_spec (ws := (wsG (.code yX10_frame cX10_frame 3 (some .int)))) B.pre
  have hown : s.vm.findClass RX10 = some m.cls := findClass_of_methodNamed B.named
  have hlocks := B.notSynchronized
  subst hsz
  have hD := hD0.self (sz := s.heap.size)
  generalize hAe : va_A [(h, .inr (9, [.ref aT, .ref aB, .ref aS, .ref aR, .ref aF, .ref aC, .ref aX])), (aX, .inr (3, [.int ra, .ref le, .ref ri, .int 0, .int 17]))] s.heap.size = A at hD hZ ⊢
  have hA : ∀ q : Nat, s.heap.size ≤ q → A q := fun q h => by rw [← hAe]; exact Or.inr h
  have hl := lv_entry ([.ref h, .int x, .int y]) (n := 3) (Nat.le_of_ble_eq_true rfl)
  rw [lg_entry_eq]
  generalize (lg_sl ([.ref h, .int x, .int y]) ++ List.replicate (3 - (lg_sl ([.ref h, .int x, .int y])).length) Slot.unset).toArray = ls at hl ⊢
  have hl : lv_has ls 3 [(0, .ref h), (1, .int x), (2, .int y)] := hl
  refine g_start (A := A) hP (fun H locs hP hS => ?_)
  refine lv_iload_n hx hb dX10_frame_0 rfl (lv_at hl 1 rfl) ?_
  refine lv_aload_n hx hb dX10_frame_1 rfl (lv_at hl 0 rfl) ?_
  refine va_get (D := (dC, dI)) (ci := 9) (v := .ref aX) (C := RX10) (T := TX10) (N := 7) hx hb hts iwX10 hown hK hP 0 rfl rfl 6 (by decide) (hts (.fieldLink RX10 64 "ModulePlayer" "mixer" "LModulePlayer$Mixer;") (List.mem_cons_of_mem _ kw_43)) (fun _ h9 => h9) rfl dX10_frame_2 ?_
  refine va_get (D := (dC, dI)) (ci := 3) (v := .int 0) (C := RX3) (T := TX3) (N := 5) hx hb hts iwX3 hown hK hP 1 rfl rfl 3 (by decide) (hts (.fieldLink RX10 195 "ModulePlayer$Mixer" "frames" "I") (List.mem_cons_of_mem _ kw_931)) (fun _ h9 => h9) rfl dX10_frame_5 ?_
  refine g_calli (wr := [(h, .inr (9, [.ref aT, .ref aB, .ref aS, .ref aR, .ref aF, .ref aC, .ref aX])), (aX, .inr (3, [.int ra, .ref le, .ref ri, .int 0, .int 17]))]) (va_runS (As := [.int x, .int 0]) (rest := []) ⟨hx, hb, hml, hown, hts⟩ (c_isIn l dC dI H.size x 0 ) (va_cwS 2 hts (gG_S kw_273 kw_247 kw_2 kw_248) rfl rfl rfl (by decide +kernel) ⟨Nat.le_of_ble_eq_true rfl, Nat.le_of_ble_eq_true rfl⟩) (g_preS hP hD hK hS hA hN hZ [] (by decide) rfl [] rfl) rfl rfl hl.1 rfl (lv_room (Nat.le_of_ble_eq_true rfl)) dX10_frame_8 ⟨Nat.le_of_ble_eq_true rfl, Nat.le_of_ble_eq_true rfl⟩) hP hD hK hS hA [] [0, 1] rfl rfl (by decide) (by decide) (fun r_8 w ty1 H locs hw_8 hP hD _ hS => ?_)
  rcases hw_8 with ⟨hu, hr_8, h_8⟩ | ⟨hu, hr_8, h_8⟩
  · exact False.elim (isin_0 h_8)
  cases hu
  have hP : va_P (dC, dI) vwCl [(h, .inr (9, [.ref aT, .ref aB, .ref aS, .ref aR, .ref aF, .ref aC, .ref aX])), (aX, .inr (3, [.int ra, .ref le, .ref ri, .int 0, .int 17]))] H := hP
  have hD : va_D A [(h, .inr (9, [.ref aT, .ref aB, .ref aS, .ref aR, .ref aF, .ref aC, .ref aX])), (aX, .inr (3, [.int ra, .ref le, .ref ri, .int 0, .int 17]))] := hD
  refine g_topi (y := 0) hr_8 ?_
  refine lv_if_ne (tgt := 16) hx hb dX10_frame_11 (by decide) (fun c_11 => absurd c_11 (by decide)) (fun c_11 => ?_)
  refine lv_iconst (v := 0) hx hb dX10_frame_14 (by decide) ?_
  have hP9 := hP.sub (ws' := []) [] rfl
  have hD9 := hD.sub (ws' := []) [] (by decide) rfl
  have hK9 := hK.sub (tys' := []) [] rfl
  exact W.iret (v := 0) hx hb hr (fun t ht hW => ⟨⟨0, ([], []), rfl, ⟨rfl, rfl⟩, by rw [ht]; exact hP9, va_K.moved hW.alike hK9, hD9⟩, hS.F ht⟩) hS.2.2 dX10_frame_15
