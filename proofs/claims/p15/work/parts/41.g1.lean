set_option maxHeartbeats 400000 in
set_option maxRecDepth 100000 in
/-- Tape.append -/
theorem c_append2 (l : Launch) (dC : Nat → ClassId) (dI : Nat → Nat → Nat) (sz : Nat) (h b : Nat) (cB : ClassId) (f : Nat → Int32) (L : Nat) (v : Int32) (hL : L + 4 ≤ 9000) : Met l yX7_append (wsG (.code yX7_append cX7_append 3 none)) ({ frames := 2, cells := 0, slots := 0, locals := 44 }) (va_Pc [.ref h, .int v] (gP (dC, dI) [(cB, .byte)] [(h, .inr (7, [.ref b, .int (nI L)])), (b, .inl (cB, 9000, .inl f))] sz)) (va_Qv (fun u : va_W × gT => u = ([(h, .inr (7, [.ref b, .int (nI (L + 4))])), (b, .inl (cB, 9000, .inl (fapp f L v)))], [])) (gB (dC, dI) (va_A [(h, .inr (7, [.ref b, .int (nI L)])), (b, .inl (cB, 9000, .inl f))] sz)) (va_A [(h, .inr (7, [.ref b, .int (nI L)])), (b, .inl (cB, 9000, .inl f))] sz)) 0 0 (va_A [(h, .inr (7, [.ref b, .int (nI L)])), (b, .inl (cB, 9000, .inl f))] sz) := by
  refine Met.ofW (cc := cX7_append) (maxL := 3) (ret := none) (by decide) rfl ?_
  intro p e s m args below meth c s₁ B hml hv
  obtain ⟨rfl, hsz, hP, hK, hD0, hN, hZ⟩ := hv
  have hx := B.exec
  have hb := B.bytes
  have hr := B.returns
  have hts := atoms_spec (ws := (wsG (.code yX7_append cX7_append 3 none))) B.pre
  have hown : s.vm.findClass RX7 = some m.cls := findClass_of_methodNamed B.named
  have hlocks := B.notSynchronized
  subst hsz
  have hD := hD0.self (sz := s.heap.size)
  generalize hAe : va_A [(h, .inr (7, [.ref b, .int (nI L)])), (b, .inl (cB, 9000, .inl f))] s.heap.size = A at hD hZ ⊢
  have hA : ∀ q : Nat, s.heap.size ≤ q → A q := fun q h => by rw [← hAe]; exact Or.inr h
  have hl := lv_entry ([.ref h, .int v]) (n := 3) (Nat.le_of_ble_eq_true rfl)
  rw [lg_entry_eq]
  generalize (lg_sl ([.ref h, .int v]) ++ List.replicate (3 - (lg_sl ([.ref h, .int v])).length) Slot.unset).toArray = ls at hl ⊢
  have hl : lv_has ls 3 [(0, .ref h), (1, .int v)] := hl
  refine g_start (A := A) hP (fun H locs hP hS => ?_)
  refine lv_bipush (v := 24) hx hb dX7_append_0 (by decide) ?_
  refine lv_istore_n (lv' := [(2, .int 24), (0, .ref h), (1, .int v)]) hx hb dX7_append_2 rfl hl (by decide) rfl (fun ls hl => ?_)
  refine lv_iload_n hx hb dX7_append_3 rfl (lv_at hl 0 rfl) ?_
  refine lv_if_lt (tgt := 24) hx hb dX7_append_4 (by decide) (fun c_4 => absurd c_4 (by decide)) (fun c_4 => ?_)
  refine lv_aload_n hx hb dX7_append_7 rfl (lv_at hl 1 rfl) ?_
  refine lv_aload_n hx hb dX7_append_8 rfl (lv_at hl 1 rfl) ?_
  refine va_get (D := (dC, dI)) (ci := 7) (v := .int (nI L)) (C := RX7) (T := TX7) (N := 2) hx hb hts iwX7 hown hK hP 0 rfl rfl 1 (by decide) (hts (.fieldLink RX7 15 "ModulePlayer$Tape" "length" "I") (List.mem_cons_of_mem _ kw_241)) (fun _ h9 => h9) rfl dX7_append_9 ?_
  refine lv_iload_n hx hb dX7_append_12 rfl (lv_at hl 2 rfl) ?_
  refine lv_iload_n hx hb dX7_append_13 rfl (lv_at hl 0 rfl) ?_
  refine lv_ishr hx hb dX7_append_14 ?_
  refine g_callv (wr := []) (va_runV (As := [.int (nI L), .int (v >>> (24 &&& 31))]) (rest := []) ⟨hx, hb, hml, hown, hts⟩ (c_put l dC dI H.size h b cB f L L (v >>> (24 &&& 31)) (L + 1) (by omega) (by omega) (by omega)) (cwV 2 hts (gG_V kw_242 kw_243 kw_244 kw_18 kw_245) rfl rfl rfl (by decide +kernel) ⟨Nat.le_of_ble_eq_true rfl, Nat.le_of_ble_eq_true rfl⟩) (g_preV (C := RX7) (T := TX7) (N := 2) hP hD hK hS hA hN hZ (q0 := 0) rfl rfl [0, 1] (by decide +kernel) rfl [0] rfl) rfl rfl hl.1 rfl (lv_room (Nat.le_of_ble_eq_true rfl)) dX7_append_15 ⟨Nat.le_of_ble_eq_true rfl, Nat.le_of_ble_eq_true rfl⟩) hP hD hK hS hA [0, 1] [] rfl rfl (by decide +kernel) (by decide +kernel) (fun w ty1 H locs hw_15 hP hD _ hS => ?_)
  have hu := hw_15
  cases hu
  have hP : va_P (dC, dI) vwCl [(h, .inr (7, [.ref b, .int (nI (L + 1))])), (b, .inl (cB, 9000, .inl (fput f L L (v >>> (24 &&& 31)))))] H := hP
  have hD : va_D A [(h, .inr (7, [.ref b, .int (nI (L + 1))])), (b, .inl (cB, 9000, .inl (fput f L L (v >>> (24 &&& 31)))))] := hD
  refine lv_iinc (v := 16) (lv' := [(2, .int 16), (0, .ref h), (1, .int v)]) hx hb dX7_append_18 hl (k := 0) rfl (by decide) (by decide) rfl (fun ls hl => ?_)
  refine lv_goto (tgt := 3) hx hb dX7_append_21 (by decide) ?_
  refine lv_iload_n hx hb dX7_append_3 rfl (lv_at hl 0 rfl) ?_
  refine lv_if_lt (tgt := 24) hx hb dX7_append_4 (by decide) (fun c_4_2 => absurd c_4_2 (by decide)) (fun c_4_2 => ?_)
  refine lv_aload_n hx hb dX7_append_7 rfl (lv_at hl 1 rfl) ?_
  refine lv_aload_n hx hb dX7_append_8 rfl (lv_at hl 1 rfl) ?_
  refine va_get (D := (dC, dI)) (ci := 7) (v := .int (nI (L + 1))) (C := RX7) (T := TX7) (N := 2) hx hb hts iwX7 hown hK hP 0 rfl rfl 1 (by decide) (hts (.fieldLink RX7 15 "ModulePlayer$Tape" "length" "I") (List.mem_cons_of_mem _ kw_241)) (fun _ h9 => h9) rfl dX7_append_9 ?_
  refine lv_iload_n hx hb dX7_append_12 rfl (lv_at hl 2 rfl) ?_
  refine lv_iload_n hx hb dX7_append_13 rfl (lv_at hl 0 rfl) ?_
  refine lv_ishr hx hb dX7_append_14 ?_
  refine g_callv (wr := []) (va_runV (As := [.int (nI (L + 1)), .int (v >>> (16 &&& 31))]) (rest := []) ⟨hx, hb, hml, hown, hts⟩ (c_put l dC dI H.size h b cB (fput f L L (v >>> (24 &&& 31))) (L + 1) (L + 1) (v >>> (16 &&& 31)) (L + 2) (by omega) (by omega) (by omega)) (cwV 2 hts (gG_V kw_242 kw_243 kw_244 kw_18 kw_245) rfl rfl rfl (by decide +kernel) ⟨Nat.le_of_ble_eq_true rfl, Nat.le_of_ble_eq_true rfl⟩) (g_preV (C := RX7) (T := TX7) (N := 2) hP hD hK hS hA hN hZ (q0 := 0) rfl rfl [0, 1] (by decide +kernel) rfl [0] rfl) rfl rfl hl.1 rfl (lv_room (Nat.le_of_ble_eq_true rfl)) dX7_append_15 ⟨Nat.le_of_ble_eq_true rfl, Nat.le_of_ble_eq_true rfl⟩) hP hD hK hS hA [0, 1] [] rfl rfl (by decide +kernel) (by decide +kernel) (fun w ty1 H locs hw_15 hP hD _ hS => ?_)
  have hu := hw_15
  cases hu
  have hP : va_P (dC, dI) vwCl [(h, .inr (7, [.ref b, .int (nI (L + 2))])), (b, .inl (cB, 9000, .inl (fput (fput f L L (v >>> (24 &&& 31))) (L + 1) (L + 1) (v >>> (16 &&& 31)))))] H := hP
  have hD : va_D A [(h, .inr (7, [.ref b, .int (nI (L + 2))])), (b, .inl (cB, 9000, .inl (fput (fput f L L (v >>> (24 &&& 31))) (L + 1) (L + 1) (v >>> (16 &&& 31)))))] := hD
  refine lv_iinc (v := 8) (lv' := [(2, .int 8), (0, .ref h), (1, .int v)]) hx hb dX7_append_18 hl (k := 0) rfl (by decide) (by decide) rfl (fun ls hl => ?_)
  refine lv_goto (tgt := 3) hx hb dX7_append_21 (by decide) ?_
  refine lv_iload_n hx hb dX7_append_3 rfl (lv_at hl 0 rfl) ?_
  refine lv_if_lt (tgt := 24) hx hb dX7_append_4 (by decide) (fun c_4_3 => absurd c_4_3 (by decide)) (fun c_4_3 => ?_)
  refine lv_aload_n hx hb dX7_append_7 rfl (lv_at hl 1 rfl) ?_
  refine lv_aload_n hx hb dX7_append_8 rfl (lv_at hl 1 rfl) ?_
  refine va_get (D := (dC, dI)) (ci := 7) (v := .int (nI (L + 2))) (C := RX7) (T := TX7) (N := 2) hx hb hts iwX7 hown hK hP 0 rfl rfl 1 (by decide) (hts (.fieldLink RX7 15 "ModulePlayer$Tape" "length" "I") (List.mem_cons_of_mem _ kw_241)) (fun _ h9 => h9) rfl dX7_append_9 ?_
  refine lv_iload_n hx hb dX7_append_12 rfl (lv_at hl 2 rfl) ?_
  refine lv_iload_n hx hb dX7_append_13 rfl (lv_at hl 0 rfl) ?_
  refine lv_ishr hx hb dX7_append_14 ?_
  refine g_callv (wr := []) (va_runV (As := [.int (nI (L + 2)), .int (v >>> (8 &&& 31))]) (rest := []) ⟨hx, hb, hml, hown, hts⟩ (c_put l dC dI H.size h b cB (fput (fput f L L (v >>> (24 &&& 31))) (L + 1) (L + 1) (v >>> (16 &&& 31))) (L + 2) (L + 2) (v >>> (8 &&& 31)) (L + 3) (by omega) (by omega) (by omega)) (cwV 2 hts (gG_V kw_242 kw_243 kw_244 kw_18 kw_245) rfl rfl rfl (by decide +kernel) ⟨Nat.le_of_ble_eq_true rfl, Nat.le_of_ble_eq_true rfl⟩) (g_preV (C := RX7) (T := TX7) (N := 2) hP hD hK hS hA hN hZ (q0 := 0) rfl rfl [0, 1] (by decide +kernel) rfl [0] rfl) rfl rfl hl.1 rfl (lv_room (Nat.le_of_ble_eq_true rfl)) dX7_append_15 ⟨Nat.le_of_ble_eq_true rfl, Nat.le_of_ble_eq_true rfl⟩) hP hD hK hS hA [0, 1] [] rfl rfl (by decide +kernel) (by decide +kernel) (fun w ty1 H locs hw_15 hP hD _ hS => ?_)
  have hu := hw_15
  cases hu
  have hP : va_P (dC, dI) vwCl [(h, .inr (7, [.ref b, .int (nI (L + 3))])), (b, .inl (cB, 9000, .inl (fput (fput (fput f L L (v >>> (24 &&& 31))) (L + 1) (L + 1) (v >>> (16 &&& 31))) (L + 2) (L + 2) (v >>> (8 &&& 31)))))] H := hP
  have hD : va_D A [(h, .inr (7, [.ref b, .int (nI (L + 3))])), (b, .inl (cB, 9000, .inl (fput (fput (fput f L L (v >>> (24 &&& 31))) (L + 1) (L + 1) (v >>> (16 &&& 31))) (L + 2) (L + 2) (v >>> (8 &&& 31)))))] := hD
  refine lv_iinc (v := 0) (lv' := [(2, .int 0), (0, .ref h), (1, .int v)]) hx hb dX7_append_18 hl (k := 0) rfl (by decide) (by decide) rfl (fun ls hl => ?_)
  refine lv_goto (tgt := 3) hx hb dX7_append_21 (by decide) ?_
  refine lv_iload_n hx hb dX7_append_3 rfl (lv_at hl 0 rfl) ?_
  refine lv_if_lt (tgt := 24) hx hb dX7_append_4 (by decide) (fun c_4_4 => absurd c_4_4 (by decide)) (fun c_4_4 => ?_)
  refine lv_aload_n hx hb dX7_append_7 rfl (lv_at hl 1 rfl) ?_
  refine lv_aload_n hx hb dX7_append_8 rfl (lv_at hl 1 rfl) ?_
  refine va_get (D := (dC, dI)) (ci := 7) (v := .int (nI (L + 3))) (C := RX7) (T := TX7) (N := 2) hx hb hts iwX7 hown hK hP 0 rfl rfl 1 (by decide) (hts (.fieldLink RX7 15 "ModulePlayer$Tape" "length" "I") (List.mem_cons_of_mem _ kw_241)) (fun _ h9 => h9) rfl dX7_append_9 ?_
  refine lv_iload_n hx hb dX7_append_12 rfl (lv_at hl 2 rfl) ?_
  refine lv_iload_n hx hb dX7_append_13 rfl (lv_at hl 0 rfl) ?_
  refine lv_ishr hx hb dX7_append_14 ?_
  refine g_callv (wr := []) (va_runV (As := [.int (nI (L + 3)), .int (v >>> (0 &&& 31))]) (rest := []) ⟨hx, hb, hml, hown, hts⟩ (c_put l dC dI H.size h b cB (fput (fput (fput f L L (v >>> (24 &&& 31))) (L + 1) (L + 1) (v >>> (16 &&& 31))) (L + 2) (L + 2) (v >>> (8 &&& 31))) (L + 3) (L + 3) (v >>> (0 &&& 31)) (L + 4) (by omega) (by omega) (by omega)) (cwV 2 hts (gG_V kw_242 kw_243 kw_244 kw_18 kw_245) rfl rfl rfl (by decide +kernel) ⟨Nat.le_of_ble_eq_true rfl, Nat.le_of_ble_eq_true rfl⟩) (g_preV (C := RX7) (T := TX7) (N := 2) hP hD hK hS hA hN hZ (q0 := 0) rfl rfl [0, 1] (by decide +kernel) rfl [0] rfl) rfl rfl hl.1 rfl (lv_room (Nat.le_of_ble_eq_true rfl)) dX7_append_15 ⟨Nat.le_of_ble_eq_true rfl, Nat.le_of_ble_eq_true rfl⟩) hP hD hK hS hA [0, 1] [] rfl rfl (by decide +kernel) (by decide +kernel) (fun w ty1 H locs hw_15 hP hD _ hS => ?_)
  have hu := hw_15
  cases hu
  have hP : va_P (dC, dI) vwCl [(h, .inr (7, [.ref b, .int (nI (L + 4))])), (b, .inl (cB, 9000, .inl (fput (fput (fput (fput f L L (v >>> (24 &&& 31))) (L + 1) (L + 1) (v >>> (16 &&& 31))) (L + 2) (L + 2) (v >>> (8 &&& 31))) (L + 3) (L + 3) (v >>> (0 &&& 31)))))] H := hP
  have hD : va_D A [(h, .inr (7, [.ref b, .int (nI (L + 4))])), (b, .inl (cB, 9000, .inl (fput (fput (fput (fput f L L (v >>> (24 &&& 31))) (L + 1) (L + 1) (v >>> (16 &&& 31))) (L + 2) (L + 2) (v >>> (8 &&& 31))) (L + 3) (L + 3) (v >>> (0 &&& 31)))))] := hD
  refine lv_iinc (v := (-8)) (lv' := [(2, .int (-8)), (0, .ref h), (1, .int v)]) hx hb dX7_append_18 hl (k := 0) rfl (by decide) (by decide) rfl (fun ls hl => ?_)
  refine lv_goto (tgt := 3) hx hb dX7_append_21 (by decide) ?_
  refine lv_iload_n hx hb dX7_append_3 rfl (lv_at hl 0 rfl) ?_
  refine lv_if_lt (tgt := 24) hx hb dX7_append_4 (by decide) (fun c_4_5 => ?_) (fun c_4_5 => absurd c_4_5 (by decide))
  have hP9 := hP
  have hD9 := hD
  have hK9 := hK.sub (tys' := []) [] rfl
  exact W.vret hx hb hr (fun t ht hW => ⟨⟨([(h, .inr (7, [.ref b, .int (nI (L + 4))])), (b, .inl (cB, 9000, .inl (fput (fput (fput (fput f L L (v >>> (24 &&& 31))) (L + 1) (L + 1) (v >>> (16 &&& 31))) (L + 2) (L + 2) (v >>> (8 &&& 31))) (L + 3) (L + 3) (v >>> (0 &&& 31)))))], []), rfl, rfl, by rw [ht]; exact hP9, va_K.moved hW.alike hK9, hD9⟩, hS.F ht⟩) hS.2.2 dX7_append_24

set_option maxHeartbeats 400000 in
set_option maxRecDepth 100000 in
theorem G_feed (l : Launch) (dC : Nat → ClassId) (dI : Nat → Nat → Nat) (sz : Nat) (h aT aB aS aR aF aC aX tb : Nat) (cB : ClassId) (f : Nat → Int32) (L : Nat) (xa xb xc xd xe : Int32) (hL : L ≤ 9000) : Met l yX10_feed (wsG (.code yX10_feed cX10_feed 6 (some .int))) ({ frames := 3, cells := 0, slots := 0, locals := 66 }) (va_Pc [.ref h, .int xa, .int xb, .int xc, .int xd, .int xe] (gP (dC, dI) [(cB, .byte)] [(h, .inr (9, [.ref aT, .ref aB, .ref aS, .ref aR, .ref aF, .ref aC, .ref aX])), (aT, .inr (7, [.ref tb, .int (nI L)])), (tb, .inl (cB, 9000, .inl f))] sz)) (va_Qi (fun (r : Int32) (u : va_W × gT) => (u = ([(h, .inr (9, [.ref aT, .ref aB, .ref aS, .ref aR, .ref aF, .ref aC, .ref aX])), (aT, .inr (7, [.ref tb, .int (nI (L + 20))])), (tb, .inl (cB, 9000, .inl (ffeed f L xa xb xc xd xe)))], []) ∧ r = nI (L + 20) ∧ L ≤ 8980) ∨ (u = ([(h, .inr (9, [.ref aT, .ref aB, .ref aS, .ref aR, .ref aF, .ref aC, .ref aX])), (aT, .inr (7, [.ref tb, .int (nI L)])), (tb, .inl (cB, 9000, .inl f))], []) ∧ r = (-1) ∧ 8980 < L)) (gB (dC, dI) (va_A [(h, .inr (9, [.ref aT, .ref aB, .ref aS, .ref aR, .ref aF, .ref aC, .ref aX])), (aT, .inr (7, [.ref tb, .int (nI L)])), (tb, .inl (cB, 9000, .inl f))] sz)) (va_A [(h, .inr (9, [.ref aT, .ref aB, .ref aS, .ref aR, .ref aF, .ref aC, .ref aX])), (aT, .inr (7, [.ref tb, .int (nI L)])), (tb, .inl (cB, 9000, .inl f))] sz)) 0 0 (va_A [(h, .inr (9, [.ref aT, .ref aB, .ref aS, .ref aR, .ref aF, .ref aC, .ref aX])), (aT, .inr (7, [.ref tb, .int (nI L)])), (tb, .inl (cB, 9000, .inl f))] sz) := by
  refine Met.ofW (cc := cX10_feed) (maxL := 6) (ret := (some .int)) (by decide) rfl ?_
  intro p e s m args below meth c s₁ B hml hv
  obtain ⟨rfl, hsz, hP, hK, hD0, hN, hZ⟩ := hv
  have hx := B.exec
  have hb := B.bytes
  have hr := B.returns
  have hts := atoms_spec (ws := (wsG (.code yX10_feed cX10_feed 6 (some .int)))) B.pre
  have hown : s.vm.findClass RX10 = some m.cls := findClass_of_methodNamed B.named
  have hlocks := B.notSynchronized
  subst hsz
  have hD := hD0.self (sz := s.heap.size)
  generalize hAe : va_A [(h, .inr (9, [.ref aT, .ref aB, .ref aS, .ref aR, .ref aF, .ref aC, .ref aX])), (aT, .inr (7, [.ref tb, .int (nI L)])), (tb, .inl (cB, 9000, .inl f))] s.heap.size = A at hD hZ ⊢
  have hA : ∀ q : Nat, s.heap.size ≤ q → A q := fun q h => by rw [← hAe]; exact Or.inr h
  have hl := lv_entry ([.ref h, .int xa, .int xb, .int xc, .int xd, .int xe]) (n := 6) (Nat.le_of_ble_eq_true rfl)
  rw [lg_entry_eq]
  generalize (lg_sl ([.ref h, .int xa, .int xb, .int xc, .int xd, .int xe]) ++ List.replicate (6 - (lg_sl ([.ref h, .int xa, .int xb, .int xc, .int xd, .int xe])).length) Slot.unset).toArray = ls at hl ⊢
  have hl : lv_has ls 6 [(0, .ref h), (1, .int xa), (2, .int xb), (3, .int xc), (4, .int xd), (5, .int xe)] := hl
  refine g_start (A := A) hP (fun H locs hP hS => ?_)
  refine lv_aload_n hx hb dX10_feed_0 rfl (lv_at hl 0 rfl) ?_
  refine va_get (D := (dC, dI)) (ci := 9) (v := .ref aT) (C := RX10) (T := TX10) (N := 7) hx hb hts iwX10 hown hK hP 0 rfl rfl 0 (by decide) (hts (.fieldLink RX10 10 "ModulePlayer" "tape" "LModulePlayer$Tape;") (List.mem_cons_of_mem _ kw_19)) (fun _ h9 => h9) rfl dX10_feed_1 ?_
  refine va_get (D := (dC, dI)) (ci := 7) (v := .int (nI L)) (C := RX7) (T := TX7) (N := 2) hx hb hts iwX7 hown hK hP 1 rfl rfl 1 (by decide) (hts (.fieldLink RX10 71 "ModulePlayer$Tape" "length" "I") (List.mem_cons_of_mem _ kw_236)) (fun _ h9 => h9) rfl dX10_feed_4 ?_
  refine lv_sipush (v := 8980) hx hb dX10_feed_7 (by decide) ?_
  refine lv_icmp_le (tgt := 15) hx hb dX10_feed_10 (by decide) (fun c_10 => ?_) (fun c_10 => ?_)
  · refine lv_aload_n hx hb dX10_feed_15 rfl (lv_at hl 0 rfl) ?_
    refine va_get (D := (dC, dI)) (ci := 9) (v := .ref aT) (C := RX10) (T := TX10) (N := 7) hx hb hts iwX10 hown hK hP 0 rfl rfl 0 (by decide) (hts (.fieldLink RX10 10 "ModulePlayer" "tape" "LModulePlayer$Tape;") (List.mem_cons_of_mem _ kw_19)) (fun _ h9 => h9) rfl dX10_feed_16 ?_
    refine lv_iload_n hx hb dX10_feed_19 rfl (lv_at hl 1 rfl) ?_
    refine g_callv (wr := [(h, .inr (9, [.ref aT, .ref aB, .ref aS, .ref aR, .ref aF, .ref aC, .ref aX]))]) (va_runV (As := [.int xa]) (rest := []) ⟨hx, hb, hml, hown, hts⟩ (c_append2 l dC dI H.size aT tb cB f L xa (by have := nI_le' (b := 8980) c_10 (by omega) (by decide); omega)) (cwV 1 hts (gG_V kw_237 kw_238 kw_239 kw_18 kw_240) rfl rfl rfl (by decide +kernel) ⟨Nat.le_of_ble_eq_true rfl, Nat.le_of_ble_eq_true rfl⟩) (g_preV (C := RX7) (T := TX7) (N := 2) hP hD hK hS hA hN hZ (q0 := 1) rfl rfl [1, 2] (by decide +kernel) rfl [0] rfl) rfl rfl hl.1 rfl (lv_room (Nat.le_of_ble_eq_true rfl)) dX10_feed_20 ⟨Nat.le_of_ble_eq_true rfl, Nat.le_of_ble_eq_true rfl⟩) hP hD hK hS hA [1, 2] [0] rfl rfl (by decide +kernel) (by decide +kernel) (fun w ty1 H locs hw_20 hP hD _ hS => ?_)
    have hu := hw_20
    cases hu
    have hP : va_P (dC, dI) vwCl [(h, .inr (9, [.ref aT, .ref aB, .ref aS, .ref aR, .ref aF, .ref aC, .ref aX])), (aT, .inr (7, [.ref tb, .int (nI (L + 4))])), (tb, .inl (cB, 9000, .inl (fapp f L xa)))] H := hP
    have hD : va_D A [(h, .inr (9, [.ref aT, .ref aB, .ref aS, .ref aR, .ref aF, .ref aC, .ref aX])), (aT, .inr (7, [.ref tb, .int (nI (L + 4))])), (tb, .inl (cB, 9000, .inl (fapp f L xa)))] := hD
    refine lv_aload_n hx hb dX10_feed_23 rfl (lv_at hl 0 rfl) ?_
    refine va_get (D := (dC, dI)) (ci := 9) (v := .ref aT) (C := RX10) (T := TX10) (N := 7) hx hb hts iwX10 hown hK hP 0 rfl rfl 0 (by decide) (hts (.fieldLink RX10 10 "ModulePlayer" "tape" "LModulePlayer$Tape;") (List.mem_cons_of_mem _ kw_19)) (fun _ h9 => h9) rfl dX10_feed_24 ?_
    refine lv_iload_n hx hb dX10_feed_27 rfl (lv_at hl 2 rfl) ?_
    refine g_callv (wr := [(h, .inr (9, [.ref aT, .ref aB, .ref aS, .ref aR, .ref aF, .ref aC, .ref aX]))]) (va_runV (As := [.int xb]) (rest := []) ⟨hx, hb, hml, hown, hts⟩ (c_append2 l dC dI H.size aT tb cB (fapp f L xa) (L + 4) xb (by have := nI_le' (b := 8980) c_10 (by omega) (by decide); omega)) (cwV 1 hts (gG_V kw_237 kw_238 kw_239 kw_18 kw_240) rfl rfl rfl (by decide +kernel) ⟨Nat.le_of_ble_eq_true rfl, Nat.le_of_ble_eq_true rfl⟩) (g_preV (C := RX7) (T := TX7) (N := 2) hP hD hK hS hA hN hZ (q0 := 1) rfl rfl [1, 2] (by decide +kernel) rfl [0] rfl) rfl rfl hl.1 rfl (lv_room (Nat.le_of_ble_eq_true rfl)) dX10_feed_28 ⟨Nat.le_of_ble_eq_true rfl, Nat.le_of_ble_eq_true rfl⟩) hP hD hK hS hA [1, 2] [0] rfl rfl (by decide +kernel) (by decide +kernel) (fun w ty1 H locs hw_28 hP hD _ hS => ?_)
    have hu := hw_28
    cases hu
    have hP : va_P (dC, dI) vwCl [(h, .inr (9, [.ref aT, .ref aB, .ref aS, .ref aR, .ref aF, .ref aC, .ref aX])), (aT, .inr (7, [.ref tb, .int (nI ((L + 4) + 4))])), (tb, .inl (cB, 9000, .inl (fapp (fapp f L xa) (L + 4) xb)))] H := hP
    have hD : va_D A [(h, .inr (9, [.ref aT, .ref aB, .ref aS, .ref aR, .ref aF, .ref aC, .ref aX])), (aT, .inr (7, [.ref tb, .int (nI ((L + 4) + 4))])), (tb, .inl (cB, 9000, .inl (fapp (fapp f L xa) (L + 4) xb)))] := hD
    refine lv_aload_n hx hb dX10_feed_31 rfl (lv_at hl 0 rfl) ?_
    refine va_get (D := (dC, dI)) (ci := 9) (v := .ref aT) (C := RX10) (T := TX10) (N := 7) hx hb hts iwX10 hown hK hP 0 rfl rfl 0 (by decide) (hts (.fieldLink RX10 10 "ModulePlayer" "tape" "LModulePlayer$Tape;") (List.mem_cons_of_mem _ kw_19)) (fun _ h9 => h9) rfl dX10_feed_32 ?_
    refine lv_iload_n hx hb dX10_feed_35 rfl (lv_at hl 3 rfl) ?_
    refine g_callv (wr := [(h, .inr (9, [.ref aT, .ref aB, .ref aS, .ref aR, .ref aF, .ref aC, .ref aX]))]) (va_runV (As := [.int xc]) (rest := []) ⟨hx, hb, hml, hown, hts⟩ (c_append2 l dC dI H.size aT tb cB (fapp (fapp f L xa) (L + 4) xb) ((L + 4) + 4) xc (by have := nI_le' (b := 8980) c_10 (by omega) (by decide); omega)) (cwV 1 hts (gG_V kw_237 kw_238 kw_239 kw_18 kw_240) rfl rfl rfl (by decide +kernel) ⟨Nat.le_of_ble_eq_true rfl, Nat.le_of_ble_eq_true rfl⟩) (g_preV (C := RX7) (T := TX7) (N := 2) hP hD hK hS hA hN hZ (q0 := 1) rfl rfl [1, 2] (by decide +kernel) rfl [0] rfl) rfl rfl hl.1 rfl (lv_room (Nat.le_of_ble_eq_true rfl)) dX10_feed_36 ⟨Nat.le_of_ble_eq_true rfl, Nat.le_of_ble_eq_true rfl⟩) hP hD hK hS hA [1, 2] [0] rfl rfl (by decide +kernel) (by decide +kernel) (fun w ty1 H locs hw_36 hP hD _ hS => ?_)
    have hu := hw_36
    cases hu
    have hP : va_P (dC, dI) vwCl [(h, .inr (9, [.ref aT, .ref aB, .ref aS, .ref aR, .ref aF, .ref aC, .ref aX])), (aT, .inr (7, [.ref tb, .int (nI (((L + 4) + 4) + 4))])), (tb, .inl (cB, 9000, .inl (fapp (fapp (fapp f L xa) (L + 4) xb) ((L + 4) + 4) xc)))] H := hP
    have hD : va_D A [(h, .inr (9, [.ref aT, .ref aB, .ref aS, .ref aR, .ref aF, .ref aC, .ref aX])), (aT, .inr (7, [.ref tb, .int (nI (((L + 4) + 4) + 4))])), (tb, .inl (cB, 9000, .inl (fapp (fapp (fapp f L xa) (L + 4) xb) ((L + 4) + 4) xc)))] := hD
    refine lv_aload_n hx hb dX10_feed_39 rfl (lv_at hl 0 rfl) ?_
    refine va_get (D := (dC, dI)) (ci := 9) (v := .ref aT) (C := RX10) (T := TX10) (N := 7) hx hb hts iwX10 hown hK hP 0 rfl rfl 0 (by decide) (hts (.fieldLink RX10 10 "ModulePlayer" "tape" "LModulePlayer$Tape;") (List.mem_cons_of_mem _ kw_19)) (fun _ h9 => h9) rfl dX10_feed_40 ?_
    refine lv_iload hx hb dX10_feed_43 (lv_at hl 4 rfl) ?_
    refine g_callv (wr := [(h, .inr (9, [.ref aT, .ref aB, .ref aS, .ref aR, .ref aF, .ref aC, .ref aX]))]) (va_runV (As := [.int xd]) (rest := []) ⟨hx, hb, hml, hown, hts⟩ (c_append2 l dC dI H.size aT tb cB (fapp (fapp (fapp f L xa) (L + 4) xb) ((L + 4) + 4) xc) (((L + 4) + 4) + 4) xd (by have := nI_le' (b := 8980) c_10 (by omega) (by decide); omega)) (cwV 1 hts (gG_V kw_237 kw_238 kw_239 kw_18 kw_240) rfl rfl rfl (by decide +kernel) ⟨Nat.le_of_ble_eq_true rfl, Nat.le_of_ble_eq_true rfl⟩) (g_preV (C := RX7) (T := TX7) (N := 2) hP hD hK hS hA hN hZ (q0 := 1) rfl rfl [1, 2] (by decide +kernel) rfl [0] rfl) rfl rfl hl.1 rfl (lv_room (Nat.le_of_ble_eq_true rfl)) dX10_feed_45 ⟨Nat.le_of_ble_eq_true rfl, Nat.le_of_ble_eq_true rfl⟩) hP hD hK hS hA [1, 2] [0] rfl rfl (by decide +kernel) (by decide +kernel) (fun w ty1 H locs hw_45 hP hD _ hS => ?_)
    have hu := hw_45
    cases hu
    have hP : va_P (dC, dI) vwCl [(h, .inr (9, [.ref aT, .ref aB, .ref aS, .ref aR, .ref aF, .ref aC, .ref aX])), (aT, .inr (7, [.ref tb, .int (nI ((((L + 4) + 4) + 4) + 4))])), (tb, .inl (cB, 9000, .inl (fapp (fapp (fapp (fapp f L xa) (L + 4) xb) ((L + 4) + 4) xc) (((L + 4) + 4) + 4) xd)))] H := hP
    have hD : va_D A [(h, .inr (9, [.ref aT, .ref aB, .ref aS, .ref aR, .ref aF, .ref aC, .ref aX])), (aT, .inr (7, [.ref tb, .int (nI ((((L + 4) + 4) + 4) + 4))])), (tb, .inl (cB, 9000, .inl (fapp (fapp (fapp (fapp f L xa) (L + 4) xb) ((L + 4) + 4) xc) (((L + 4) + 4) + 4) xd)))] := hD
    refine lv_aload_n hx hb dX10_feed_48 rfl (lv_at hl 0 rfl) ?_
    refine va_get (D := (dC, dI)) (ci := 9) (v := .ref aT) (C := RX10) (T := TX10) (N := 7) hx hb hts iwX10 hown hK hP 0 rfl rfl 0 (by decide) (hts (.fieldLink RX10 10 "ModulePlayer" "tape" "LModulePlayer$Tape;") (List.mem_cons_of_mem _ kw_19)) (fun _ h9 => h9) rfl dX10_feed_49 ?_
    refine lv_iload hx hb dX10_feed_52 (lv_at hl 5 rfl) ?_
    refine g_callv (wr := [(h, .inr (9, [.ref aT, .ref aB, .ref aS, .ref aR, .ref aF, .ref aC, .ref aX]))]) (va_runV (As := [.int xe]) (rest := []) ⟨hx, hb, hml, hown, hts⟩ (c_append2 l dC dI H.size aT tb cB (fapp (fapp (fapp (fapp f L xa) (L + 4) xb) ((L + 4) + 4) xc) (((L + 4) + 4) + 4) xd) ((((L + 4) + 4) + 4) + 4) xe (by have := nI_le' (b := 8980) c_10 (by omega) (by decide); omega)) (cwV 1 hts (gG_V kw_237 kw_238 kw_239 kw_18 kw_240) rfl rfl rfl (by decide +kernel) ⟨Nat.le_of_ble_eq_true rfl, Nat.le_of_ble_eq_true rfl⟩) (g_preV (C := RX7) (T := TX7) (N := 2) hP hD hK hS hA hN hZ (q0 := 1) rfl rfl [1, 2] (by decide +kernel) rfl [0] rfl) rfl rfl hl.1 rfl (lv_room (Nat.le_of_ble_eq_true rfl)) dX10_feed_54 ⟨Nat.le_of_ble_eq_true rfl, Nat.le_of_ble_eq_true rfl⟩) hP hD hK hS hA [1, 2] [0] rfl rfl (by decide +kernel) (by decide +kernel) (fun w ty1 H locs hw_54 hP hD _ hS => ?_)
    have hu := hw_54
    cases hu
    have hP : va_P (dC, dI) vwCl [(h, .inr (9, [.ref aT, .ref aB, .ref aS, .ref aR, .ref aF, .ref aC, .ref aX])), (aT, .inr (7, [.ref tb, .int (nI (((((L + 4) + 4) + 4) + 4) + 4))])), (tb, .inl (cB, 9000, .inl (fapp (fapp (fapp (fapp (fapp f L xa) (L + 4) xb) ((L + 4) + 4) xc) (((L + 4) + 4) + 4) xd) ((((L + 4) + 4) + 4) + 4) xe)))] H := hP
    have hD : va_D A [(h, .inr (9, [.ref aT, .ref aB, .ref aS, .ref aR, .ref aF, .ref aC, .ref aX])), (aT, .inr (7, [.ref tb, .int (nI (((((L + 4) + 4) + 4) + 4) + 4))])), (tb, .inl (cB, 9000, .inl (fapp (fapp (fapp (fapp (fapp f L xa) (L + 4) xb) ((L + 4) + 4) xc) (((L + 4) + 4) + 4) xd) ((((L + 4) + 4) + 4) + 4) xe)))] := hD
    refine lv_aload_n hx hb dX10_feed_57 rfl (lv_at hl 0 rfl) ?_
    refine va_get (D := (dC, dI)) (ci := 9) (v := .ref aT) (C := RX10) (T := TX10) (N := 7) hx hb hts iwX10 hown hK hP 0 rfl rfl 0 (by decide) (hts (.fieldLink RX10 10 "ModulePlayer" "tape" "LModulePlayer$Tape;") (List.mem_cons_of_mem _ kw_19)) (fun _ h9 => h9) rfl dX10_feed_58 ?_
    refine va_get (D := (dC, dI)) (ci := 7) (v := .int (nI (((((L + 4) + 4) + 4) + 4) + 4))) (C := RX7) (T := TX7) (N := 2) hx hb hts iwX7 hown hK hP 1 rfl rfl 1 (by decide) (hts (.fieldLink RX10 71 "ModulePlayer$Tape" "length" "I") (List.mem_cons_of_mem _ kw_236)) (fun _ h9 => h9) rfl dX10_feed_61 ?_
    have hP9 := hP
    have hD9 := hD
    have hK9 := hK.sub (tys' := []) [] rfl
    exact W.iret (v := nI (((((L + 4) + 4) + 4) + 4) + 4)) hx hb hr (fun t ht hW => ⟨⟨nI (((((L + 4) + 4) + 4) + 4) + 4), ([(h, .inr (9, [.ref aT, .ref aB, .ref aS, .ref aR, .ref aF, .ref aC, .ref aX])), (aT, .inr (7, [.ref tb, .int (nI (((((L + 4) + 4) + 4) + 4) + 4))])), (tb, .inl (cB, 9000, .inl (fapp (fapp (fapp (fapp (fapp f L xa) (L + 4) xb) ((L + 4) + 4) xc) (((L + 4) + 4) + 4) xd) ((((L + 4) + 4) + 4) + 4) xe)))], []), rfl, (Or.inl ⟨rfl, rfl, (nI_le' (b := 8980) c_10 (by omega) (by decide))⟩), by rw [ht]; exact hP9, va_K.moved hW.alike hK9, hD9⟩, hS.F ht⟩) hS.2.2 dX10_feed_64
  refine lv_iconst (v := (-1)) hx hb dX10_feed_13 (by decide) ?_
  have hP9 := hP
  have hD9 := hD
  have hK9 := hK.sub (tys' := []) [] rfl
  exact W.iret (v := (-1)) hx hb hr (fun t ht hW => ⟨⟨(-1), ([(h, .inr (9, [.ref aT, .ref aB, .ref aS, .ref aR, .ref aF, .ref aC, .ref aX])), (aT, .inr (7, [.ref tb, .int (nI L)])), (tb, .inl (cB, 9000, .inl f))], []), rfl, (Or.inr ⟨rfl, rfl, (nI_nle' (b := 8980) c_10 (by decide))⟩), by rw [ht]; exact hP9, va_K.moved hW.alike hK9, hD9⟩, hS.F ht⟩) hS.2.2 dX10_feed_14

set_option maxHeartbeats 400000 in
set_option maxRecDepth 100000 in
theorem G_poke (l : Launch) (dC : Nat → ClassId) (dI : Nat → Nat → Nat) (sz : Nat) (h aT aB aS aR aF aC aX tb : Nat) (cB : ClassId) (f : Nat → Int32) (L : Nat) (i v : Int32) (hL : L ≤ 9000) : Met l yX10_poke (wsG (.code yX10_poke cX10_poke 3 (some .int))) ({ frames := 2, cells := 0, slots := 0, locals := 44 }) (va_Pc [.ref h, .int i, .int v] (gP (dC, dI) [(cB, .byte)] [(h, .inr (9, [.ref aT, .ref aB, .ref aS, .ref aR, .ref aF, .ref aC, .ref aX])), (aT, .inr (7, [.ref tb, .int (nI L)])), (tb, .inl (cB, 9000, .inl f))] sz)) (va_Qi (fun (r : Int32) (u : va_W × gT) => (∃ (jp : Nat), u = ([(h, .inr (9, [.ref aT, .ref aB, .ref aS, .ref aR, .ref aF, .ref aC, .ref aX])), (aT, .inr (7, [.ref tb, .int (nI (max L (jp + 1)))])), (tb, .inl (cB, 9000, .inl (fput f L jp v)))], []) ∧ r = nI (max L (jp + 1)) ∧ jp < 9000 ∧ i = nI jp) ∨ (u = ([(h, .inr (9, [.ref aT, .ref aB, .ref aS, .ref aR, .ref aF, .ref aC, .ref aX])), (aT, .inr (7, [.ref tb, .int (nI L)])), (tb, .inl (cB, 9000, .inl f))], []) ∧ r = (-1) ∧ ¬ (0 ≤ i ∧ i < 9000))) (gB (dC, dI) (va_A [(h, .inr (9, [.ref aT, .ref aB, .ref aS, .ref aR, .ref aF, .ref aC, .ref aX])), (aT, .inr (7, [.ref tb, .int (nI L)])), (tb, .inl (cB, 9000, .inl f))] sz)) (va_A [(h, .inr (9, [.ref aT, .ref aB, .ref aS, .ref aR, .ref aF, .ref aC, .ref aX])), (aT, .inr (7, [.ref tb, .int (nI L)])), (tb, .inl (cB, 9000, .inl f))] sz)) 0 0 (va_A [(h, .inr (9, [.ref aT, .ref aB, .ref aS, .ref aR, .ref aF, .ref aC, .ref aX])), (aT, .inr (7, [.ref tb, .int (nI L)])), (tb, .inl (cB, 9000, .inl f))] sz) := by
  refine Met.ofW (cc := cX10_poke) (maxL := 3) (ret := (some .int)) (by decide) rfl ?_
  intro p e s m args below meth c s₁ B hml hv
  obtain ⟨rfl, hsz, hP, hK, hD0, hN, hZ⟩ := hv
  have hx := B.exec
  have hb := B.bytes
  have hr := B.returns
  have hts := atoms_spec (ws := (wsG (.code yX10_poke cX10_poke 3 (some .int)))) B.pre
  have hown : s.vm.findClass RX10 = some m.cls := findClass_of_methodNamed B.named
  have hlocks := B.notSynchronized
  subst hsz
  have hD := hD0.self (sz := s.heap.size)
  generalize hAe : va_A [(h, .inr (9, [.ref aT, .ref aB, .ref aS, .ref aR, .ref aF, .ref aC, .ref aX])), (aT, .inr (7, [.ref tb, .int (nI L)])), (tb, .inl (cB, 9000, .inl f))] s.heap.size = A at hD hZ ⊢
  have hA : ∀ q : Nat, s.heap.size ≤ q → A q := fun q h => by rw [← hAe]; exact Or.inr h
  have hl := lv_entry ([.ref h, .int i, .int v]) (n := 3) (Nat.le_of_ble_eq_true rfl)
  rw [lg_entry_eq]
  generalize (lg_sl ([.ref h, .int i, .int v]) ++ List.replicate (3 - (lg_sl ([.ref h, .int i, .int v])).length) Slot.unset).toArray = ls at hl ⊢
  have hl : lv_has ls 3 [(0, .ref h), (1, .int i), (2, .int v)] := hl
  refine g_start (A := A) hP (fun H locs hP hS => ?_)
  refine lv_iload_n hx hb dX10_poke_0 rfl (lv_at hl 1 rfl) ?_
  refine lv_sipush (v := 9000) hx hb dX10_poke_1 (by decide) ?_
  refine g_calli (wr := [(h, .inr (9, [.ref aT, .ref aB, .ref aS, .ref aR, .ref aF, .ref aC, .ref aX])), (aT, .inr (7, [.ref tb, .int (nI L)])), (tb, .inl (cB, 9000, .inl f))]) (va_runS (As := [.int i, .int 9000]) (rest := []) ⟨hx, hb, hml, hown, hts⟩ (c_isIn l dC dI H.size i 9000 ) (va_cwS 2 hts (gG_S kw_273 kw_247 kw_2 kw_248) rfl rfl rfl (by decide +kernel) ⟨Nat.le_of_ble_eq_true rfl, Nat.le_of_ble_eq_true rfl⟩) (g_preS hP hD hK hS hA hN hZ [] (by decide) rfl [] rfl) rfl rfl hl.1 rfl (lv_room (Nat.le_of_ble_eq_true rfl)) dX10_poke_4 ⟨Nat.le_of_ble_eq_true rfl, Nat.le_of_ble_eq_true rfl⟩) hP hD hK hS hA [] [0, 1, 2] rfl rfl (by decide +kernel) (by decide +kernel) (fun r_4 w ty1 H locs hw_4 hP hD _ hS => ?_)
  rcases hw_4 with ⟨hu, hr_4, h_4⟩ | ⟨hu, hr_4, h_4⟩
  · cases hu
    have hP : va_P (dC, dI) vwCl [(h, .inr (9, [.ref aT, .ref aB, .ref aS, .ref aR, .ref aF, .ref aC, .ref aX])), (aT, .inr (7, [.ref tb, .int (nI L)])), (tb, .inl (cB, 9000, .inl f))] H := hP
    have hD : va_D A [(h, .inr (9, [.ref aT, .ref aB, .ref aS, .ref aR, .ref aF, .ref aC, .ref aX])), (aT, .inr (7, [.ref tb, .int (nI L)])), (tb, .inl (cB, 9000, .inl f))] := hD
    refine g_topi (y := 1) hr_4 ?_
    obtain ⟨jp, hjp, hij⟩ := i_in (n := 9000) (by decide) h_4.1 h_4.2
    subst hij
    refine lv_if_ne (tgt := 12) hx hb dX10_poke_7 (by decide) (fun c_7 => ?_) (fun c_7 => absurd c_7 (by decide))
    refine lv_aload_n hx hb dX10_poke_12 rfl (lv_at hl 0 rfl) ?_
    refine va_get (D := (dC, dI)) (ci := 9) (v := .ref aT) (C := RX10) (T := TX10) (N := 7) hx hb hts iwX10 hown hK hP 0 rfl rfl 0 (by decide) (hts (.fieldLink RX10 10 "ModulePlayer" "tape" "LModulePlayer$Tape;") (List.mem_cons_of_mem _ kw_19)) (fun _ h9 => h9) rfl dX10_poke_13 ?_
    refine lv_iload_n hx hb dX10_poke_16 rfl (lv_at hl 1 rfl) ?_
    refine lv_iload_n hx hb dX10_poke_17 rfl (lv_at hl 2 rfl) ?_
    refine g_callv (wr := [(h, .inr (9, [.ref aT, .ref aB, .ref aS, .ref aR, .ref aF, .ref aC, .ref aX]))]) (va_runV (As := [.int (nI jp), .int v]) (rest := []) ⟨hx, hb, hml, hown, hts⟩ (c_put l dC dI H.size aT tb cB f L jp v (max L (jp + 1)) (hL) (hjp) (rfl)) (cwV 2 hts (gG_V kw_274 kw_243 kw_244 kw_18 kw_245) rfl rfl rfl (by decide +kernel) ⟨Nat.le_of_ble_eq_true rfl, Nat.le_of_ble_eq_true rfl⟩) (g_preV (C := RX7) (T := TX7) (N := 2) hP hD hK hS hA hN hZ (q0 := 1) rfl rfl [1, 2] (by decide +kernel) rfl [0] rfl) rfl rfl hl.1 rfl (lv_room (Nat.le_of_ble_eq_true rfl)) dX10_poke_18 ⟨Nat.le_of_ble_eq_true rfl, Nat.le_of_ble_eq_true rfl⟩) hP hD hK hS hA [1, 2] [0] rfl rfl (by decide +kernel) (by decide +kernel) (fun w ty1 H locs hw_18 hP hD _ hS => ?_)
    have hu := hw_18
    cases hu
    have hP : va_P (dC, dI) vwCl [(h, .inr (9, [.ref aT, .ref aB, .ref aS, .ref aR, .ref aF, .ref aC, .ref aX])), (aT, .inr (7, [.ref tb, .int (nI (max L (jp + 1)))])), (tb, .inl (cB, 9000, .inl (fput f L jp v)))] H := hP
    have hD : va_D A [(h, .inr (9, [.ref aT, .ref aB, .ref aS, .ref aR, .ref aF, .ref aC, .ref aX])), (aT, .inr (7, [.ref tb, .int (nI (max L (jp + 1)))])), (tb, .inl (cB, 9000, .inl (fput f L jp v)))] := hD
    refine lv_aload_n hx hb dX10_poke_21 rfl (lv_at hl 0 rfl) ?_
    refine va_get (D := (dC, dI)) (ci := 9) (v := .ref aT) (C := RX10) (T := TX10) (N := 7) hx hb hts iwX10 hown hK hP 0 rfl rfl 0 (by decide) (hts (.fieldLink RX10 10 "ModulePlayer" "tape" "LModulePlayer$Tape;") (List.mem_cons_of_mem _ kw_19)) (fun _ h9 => h9) rfl dX10_poke_22 ?_
    refine va_get (D := (dC, dI)) (ci := 7) (v := .int (nI (max L (jp + 1)))) (C := RX7) (T := TX7) (N := 2) hx hb hts iwX7 hown hK hP 1 rfl rfl 1 (by decide) (hts (.fieldLink RX10 71 "ModulePlayer$Tape" "length" "I") (List.mem_cons_of_mem _ kw_236)) (fun _ h9 => h9) rfl dX10_poke_25 ?_
    have hP9 := hP
    have hD9 := hD
    have hK9 := hK.sub (tys' := []) [] rfl
    exact W.iret (v := nI (max L (jp + 1))) hx hb hr (fun t ht hW => ⟨⟨nI (max L (jp + 1)), ([(h, .inr (9, [.ref aT, .ref aB, .ref aS, .ref aR, .ref aF, .ref aC, .ref aX])), (aT, .inr (7, [.ref tb, .int (nI (max L (jp + 1)))])), (tb, .inl (cB, 9000, .inl (fput f L jp v)))], []), rfl, (Or.inl ⟨jp, rfl, rfl, hjp, rfl⟩), by rw [ht]; exact hP9, va_K.moved hW.alike hK9, hD9⟩, hS.F ht⟩) hS.2.2 dX10_poke_28
  cases hu
  have hP : va_P (dC, dI) vwCl [(h, .inr (9, [.ref aT, .ref aB, .ref aS, .ref aR, .ref aF, .ref aC, .ref aX])), (aT, .inr (7, [.ref tb, .int (nI L)])), (tb, .inl (cB, 9000, .inl f))] H := hP
  have hD : va_D A [(h, .inr (9, [.ref aT, .ref aB, .ref aS, .ref aR, .ref aF, .ref aC, .ref aX])), (aT, .inr (7, [.ref tb, .int (nI L)])), (tb, .inl (cB, 9000, .inl f))] := hD
  refine g_topi (y := 0) hr_4 ?_
  refine lv_if_ne (tgt := 12) hx hb dX10_poke_7 (by decide) (fun c_7 => absurd c_7 (by decide)) (fun c_7 => ?_)
  refine lv_iconst (v := (-1)) hx hb dX10_poke_10 (by decide) ?_
  have hP9 := hP
  have hD9 := hD
  have hK9 := hK.sub (tys' := []) [] rfl
  exact W.iret (v := (-1)) hx hb hr (fun t ht hW => ⟨⟨(-1), ([(h, .inr (9, [.ref aT, .ref aB, .ref aS, .ref aR, .ref aF, .ref aC, .ref aX])), (aT, .inr (7, [.ref tb, .int (nI L)])), (tb, .inl (cB, 9000, .inl f))], []), rfl, (Or.inr ⟨rfl, rfl, h_4⟩), by rw [ht]; exact hP9, va_K.moved hW.alike hK9, hD9⟩, hS.F ht⟩) hS.2.2 dX10_poke_11

set_option maxHeartbeats 400000 in
set_option maxRecDepth 100000 in
theorem G_tape (l : Launch) (dC : Nat → ClassId) (dI : Nat → Nat → Nat) (sz : Nat) (h aT aB aS aR aF aC aX tb : Nat) (cB : ClassId) (f : Nat → Int32) (L : Nat) (i : Int32) (hL : L ≤ 9000) : Met l yX10_tape (wsG (.code yX10_tape cX10_tape 2 (some .int))) ({ frames := 2, cells := 0, slots := 0, locals := 42 }) (va_Pc [.ref h, .int i] (gP (dC, dI) [(cB, .byte)] [(h, .inr (9, [.ref aT, .ref aB, .ref aS, .ref aR, .ref aF, .ref aC, .ref aX])), (aT, .inr (7, [.ref tb, .int (nI L)])), (tb, .inl (cB, 9000, .inl f))] sz)) (va_Qi (fun (r : Int32) (u : va_W × gT) => (∃ (kt_ : Nat), u = ([(h, .inr (9, [.ref aT, .ref aB, .ref aS, .ref aR, .ref aF, .ref aC, .ref aX])), (aT, .inr (7, [.ref tb, .int (nI L)])), (tb, .inl (cB, 9000, .inl f))], []) ∧ r = f kt_ &&& 255 ∧ kt_ < L ∧ i = nI kt_) ∨ (u = ([(h, .inr (9, [.ref aT, .ref aB, .ref aS, .ref aR, .ref aF, .ref aC, .ref aX])), (aT, .inr (7, [.ref tb, .int (nI L)])), (tb, .inl (cB, 9000, .inl f))], []) ∧ r = (-1) ∧ ¬ (0 ≤ i ∧ i < nI L))) (gB (dC, dI) (va_A [(h, .inr (9, [.ref aT, .ref aB, .ref aS, .ref aR, .ref aF, .ref aC, .ref aX])), (aT, .inr (7, [.ref tb, .int (nI L)])), (tb, .inl (cB, 9000, .inl f))] sz)) (va_A [(h, .inr (9, [.ref aT, .ref aB, .ref aS, .ref aR, .ref aF, .ref aC, .ref aX])), (aT, .inr (7, [.ref tb, .int (nI L)])), (tb, .inl (cB, 9000, .inl f))] sz)) 0 0 (va_A [(h, .inr (9, [.ref aT, .ref aB, .ref aS, .ref aR, .ref aF, .ref aC, .ref aX])), (aT, .inr (7, [.ref tb, .int (nI L)])), (tb, .inl (cB, 9000, .inl f))] sz) := by
  refine Met.ofW (cc := cX10_tape) (maxL := 2) (ret := (some .int)) (by decide) rfl ?_
  intro p e s m args below meth c s₁ B hml hv
  obtain ⟨rfl, hsz, hP, hK, hD0, hN, hZ⟩ := hv
  have hx := B.exec
  have hb := B.bytes
  have hr := B.returns
  have hts := atoms_spec (ws := (wsG (.code yX10_tape cX10_tape 2 (some .int)))) B.pre
  have hown : s.vm.findClass RX10 = some m.cls := findClass_of_methodNamed B.named
  have hlocks := B.notSynchronized
  subst hsz
  have hD := hD0.self (sz := s.heap.size)
  generalize hAe : va_A [(h, .inr (9, [.ref aT, .ref aB, .ref aS, .ref aR, .ref aF, .ref aC, .ref aX])), (aT, .inr (7, [.ref tb, .int (nI L)])), (tb, .inl (cB, 9000, .inl f))] s.heap.size = A at hD hZ ⊢
  have hA : ∀ q : Nat, s.heap.size ≤ q → A q := fun q h => by rw [← hAe]; exact Or.inr h
  have hl := lv_entry ([.ref h, .int i]) (n := 2) (Nat.le_of_ble_eq_true rfl)
  rw [lg_entry_eq]
  generalize (lg_sl ([.ref h, .int i]) ++ List.replicate (2 - (lg_sl ([.ref h, .int i])).length) Slot.unset).toArray = ls at hl ⊢
  have hl : lv_has ls 2 [(0, .ref h), (1, .int i)] := hl
  refine g_start (A := A) hP (fun H locs hP hS => ?_)
  refine lv_aload_n hx hb dX10_tape_0 rfl (lv_at hl 0 rfl) ?_
  refine va_get (D := (dC, dI)) (ci := 9) (v := .ref aT) (C := RX10) (T := TX10) (N := 7) hx hb hts iwX10 hown hK hP 0 rfl rfl 0 (by decide) (hts (.fieldLink RX10 10 "ModulePlayer" "tape" "LModulePlayer$Tape;") (List.mem_cons_of_mem _ kw_19)) (fun _ h9 => h9) rfl dX10_tape_1 ?_
  refine lv_iload_n hx hb dX10_tape_4 rfl (lv_at hl 1 rfl) ?_
  refine g_calli (wr := [(h, .inr (9, [.ref aT, .ref aB, .ref aS, .ref aR, .ref aF, .ref aC, .ref aX]))]) (va_runV (As := [.int i]) (rest := []) ⟨hx, hb, hml, hown, hts⟩ (c_at l dC dI H.size aT tb cB f L i (hL)) (cwV 1 hts (gG_V kw_526 kw_296 kw_297 kw_18 kw_298) rfl rfl rfl (by decide +kernel) ⟨Nat.le_of_ble_eq_true rfl, Nat.le_of_ble_eq_true rfl⟩) (g_preV (C := RX7) (T := TX7) (N := 2) hP hD hK hS hA hN hZ (q0 := 1) rfl rfl [1, 2] (by decide +kernel) rfl [0] rfl) rfl rfl hl.1 rfl (lv_room (Nat.le_of_ble_eq_true rfl)) dX10_tape_5 ⟨Nat.le_of_ble_eq_true rfl, Nat.le_of_ble_eq_true rfl⟩) hP hD hK hS hA [1, 2] [0] rfl rfl (by decide +kernel) (by decide +kernel) (fun r_5 w ty1 H locs hw_5 hP hD _ hS => ?_)
  rcases hw_5 with ⟨k_5, hu, hr_5, hk_5, hi_5⟩ | ⟨hu, hr_5, hn_5⟩
  · cases hu
    have hP : va_P (dC, dI) vwCl [(h, .inr (9, [.ref aT, .ref aB, .ref aS, .ref aR, .ref aF, .ref aC, .ref aX])), (aT, .inr (7, [.ref tb, .int (nI L)])), (tb, .inl (cB, 9000, .inl f))] H := hP
    have hD : va_D A [(h, .inr (9, [.ref aT, .ref aB, .ref aS, .ref aR, .ref aF, .ref aC, .ref aX])), (aT, .inr (7, [.ref tb, .int (nI L)])), (tb, .inl (cB, 9000, .inl f))] := hD
    refine g_topi (y := f k_5 &&& 255) hr_5 ?_
    have hP9 := hP
    have hD9 := hD
    have hK9 := hK.sub (tys' := []) [] rfl
    exact W.iret (v := f k_5 &&& 255) hx hb hr (fun t ht hW => ⟨⟨f k_5 &&& 255, ([(h, .inr (9, [.ref aT, .ref aB, .ref aS, .ref aR, .ref aF, .ref aC, .ref aX])), (aT, .inr (7, [.ref tb, .int (nI L)])), (tb, .inl (cB, 9000, .inl f))], []), rfl, (Or.inl ⟨k_5, rfl, rfl, hk_5, hi_5⟩), by rw [ht]; exact hP9, va_K.moved hW.alike hK9, hD9⟩, hS.F ht⟩) hS.2.2 dX10_tape_8
  cases hu
  have hP : va_P (dC, dI) vwCl [(h, .inr (9, [.ref aT, .ref aB, .ref aS, .ref aR, .ref aF, .ref aC, .ref aX])), (aT, .inr (7, [.ref tb, .int (nI L)])), (tb, .inl (cB, 9000, .inl f))] H := hP
  have hD : va_D A [(h, .inr (9, [.ref aT, .ref aB, .ref aS, .ref aR, .ref aF, .ref aC, .ref aX])), (aT, .inr (7, [.ref tb, .int (nI L)])), (tb, .inl (cB, 9000, .inl f))] := hD
  refine g_topi (y := (-1)) hr_5 ?_
  have hP9 := hP
  have hD9 := hD
  have hK9 := hK.sub (tys' := []) [] rfl
  exact W.iret (v := (-1)) hx hb hr (fun t ht hW => ⟨⟨(-1), ([(h, .inr (9, [.ref aT, .ref aB, .ref aS, .ref aR, .ref aF, .ref aC, .ref aX])), (aT, .inr (7, [.ref tb, .int (nI L)])), (tb, .inl (cB, 9000, .inl f))], []), rfl, (Or.inr ⟨rfl, rfl, hn_5⟩), by rw [ht]; exact hP9, va_K.moved hW.alike hK9, hD9⟩, hS.F ht⟩) hS.2.2 dX10_tape_8

set_option maxHeartbeats 400000 in
set_option maxRecDepth 100000 in
theorem g_put (l : Launch) (dC : Nat → ClassId) (dI : Nat → Nat → Nat) (sz : Nat) (h : Nat) (qa : Nat → Nat) (x0 x3 x4 x13 x14 x15 x16 x17 x18 x19 x20 x21 x22 x23 x24 x26 x27 x28 : Int32) (cB : ClassId) (LL : Nat) (ft : Nat → Int32) (v : Int32) (hLL : LL < 9000) : Met l yX11_put (wsG (.code yX11_put cX11_put 2 none)) ({ frames := 0, cells := 0, slots := 0, locals := 0 }) (va_Pc [.ref h, .int v] (gP (dC, dI) [(cB, .byte)] [(h, .inr (10, mdF qa x0 (nI LL) x3 x4 x13 x14 x15 x16 x17 x18 x19 x20 x21 x22 x23 x24 x26 x27 x28)), (qa 1, .inl (cB, 9000, .inl ft))] sz)) (va_Qv (fun u : va_W × gT => u = ([(h, .inr (10, mdF qa x0 (nI (LL + 1)) x3 x4 x13 x14 x15 x16 x17 x18 x19 x20 x21 x22 x23 x24 x26 x27 x28)), (qa 1, .inl (cB, 9000, .inl (fb1 ft LL v)))], [])) (gB (dC, dI) (va_A [(h, .inr (10, mdF qa x0 (nI LL) x3 x4 x13 x14 x15 x16 x17 x18 x19 x20 x21 x22 x23 x24 x26 x27 x28)), (qa 1, .inl (cB, 9000, .inl ft))] sz)) (va_A [(h, .inr (10, mdF qa x0 (nI LL) x3 x4 x13 x14 x15 x16 x17 x18 x19 x20 x21 x22 x23 x24 x26 x27 x28)), (qa 1, .inl (cB, 9000, .inl ft))] sz)) 0 0 (va_A [(h, .inr (10, mdF qa x0 (nI LL) x3 x4 x13 x14 x15 x16 x17 x18 x19 x20 x21 x22 x23 x24 x26 x27 x28)), (qa 1, .inl (cB, 9000, .inl ft))] sz) := by
  refine Met.ofW (cc := cX11_put) (maxL := 2) (ret := none) (by decide) rfl ?_
  intro p e s m args below meth c s₁ B hml hv
  obtain ⟨rfl, hsz, hP, hK, hD0, hN, hZ⟩ := hv
  have hx := B.exec
  have hb := B.bytes
  have hr := B.returns
  have hts := atoms_spec (ws := (wsG (.code yX11_put cX11_put 2 none))) B.pre
  have hown : s.vm.findClass RX11 = some m.cls := findClass_of_methodNamed B.named
  have hlocks := B.notSynchronized
  subst hsz
  have hD := hD0.self (sz := s.heap.size)
  generalize hAe : va_A [(h, .inr (10, mdF qa x0 (nI LL) x3 x4 x13 x14 x15 x16 x17 x18 x19 x20 x21 x22 x23 x24 x26 x27 x28)), (qa 1, .inl (cB, 9000, .inl ft))] s.heap.size = A at hD hZ ⊢
  have hA : ∀ q : Nat, s.heap.size ≤ q → A q := fun q h => by rw [← hAe]; exact Or.inr h
  have hl := lv_entry ([.ref h, .int v]) (n := 2) (Nat.le_of_ble_eq_true rfl)
  rw [lg_entry_eq]
  generalize (lg_sl ([.ref h, .int v]) ++ List.replicate (2 - (lg_sl ([.ref h, .int v])).length) Slot.unset).toArray = ls at hl ⊢
  have hl : lv_has ls 2 [(0, .ref h), (1, .int v)] := hl
  refine g_start (A := A) hP (fun H locs hP hS => ?_)
  refine lv_aload_n hx hb dX11_put_0 rfl (lv_at hl 0 rfl) ?_
  refine va_get (D := (dC, dI)) (ci := 10) (v := .ref (qa 1)) (C := RX11) (T := TX11) (N := 53) hx hb hts iwX11 hown hK hP 0 rfl rfl 1 (by decide) (hts (.fieldLink RX11 9 "ModulePlayerModel" "tape" "[B") (List.mem_cons_of_mem _ kw_171)) (fun _ h9 => h9) rfl dX11_put_1 ?_
  refine lv_aload_n hx hb dX11_put_4 rfl (lv_at hl 0 rfl) ?_
  refine va_get (D := (dC, dI)) (ci := 10) (v := .int (nI LL)) (C := RX11) (T := TX11) (N := 53) hx hb hts iwX11 hown hK hP 0 rfl rfl 2 (by decide) (hts (.fieldLink RX11 138 "ModulePlayerModel" "taped" "I") (List.mem_cons_of_mem _ kw_253)) (fun _ h9 => h9) rfl dX11_put_5 ?_
  refine lv_iload_n hx hb dX11_put_8 rfl (lv_at hl 1 rfl) ?_
  refine lv_i2b (v := v.toInt8.toInt32) hx hb dX11_put_9 rfl ?_
  refine g_bast hx hb hK hP hD hS 1 0 rfl rfl (x' := v.toInt8.toInt32) (pk_vb _) LL (nI_clamp (Nat.lt_trans (show LL < 9000 from hLL) (by decide))) (vp_in_nI (hLL) (by decide)) dX11_put_10 (fun H locs hP hD hS => ?_)
  have hP : va_P (dC, dI) vwCl [(h, .inr (10, mdF qa x0 (nI LL) x3 x4 x13 x14 x15 x16 x17 x18 x19 x20 x21 x22 x23 x24 x26 x27 x28)), (qa 1, .inl (cB, 9000, .inl (upd ft LL v.toInt8.toInt32)))] H := hP
  have hD : va_D A [(h, .inr (10, mdF qa x0 (nI LL) x3 x4 x13 x14 x15 x16 x17 x18 x19 x20 x21 x22 x23 x24 x26 x27 x28)), (qa 1, .inl (cB, 9000, .inl (upd ft LL v.toInt8.toInt32)))] := hD
  refine lv_aload_n hx hb dX11_put_11 rfl (lv_at hl 0 rfl) ?_
  refine lv_dup hx hb dX11_put_12 rfl ?_
  refine va_get (D := (dC, dI)) (ci := 10) (v := .int (nI LL)) (C := RX11) (T := TX11) (N := 53) hx hb hts iwX11 hown hK hP 0 rfl rfl 2 (by decide) (hts (.fieldLink RX11 138 "ModulePlayerModel" "taped" "I") (List.mem_cons_of_mem _ kw_253)) (fun _ h9 => h9) rfl dX11_put_13 ?_
  refine lv_iconst (v := 1) hx hb dX11_put_16 (by decide) ?_
  refine lv_iadd hx hb dX11_put_17 ?_
  refine g_topi (y := nI (LL + 1)) (nI_1 _) ?_
  refine va_put (D := (dC, dI)) (ci := 10) (v := .int (nI (LL + 1))) (ty := tyX11 2) (C := RX11) (T := TX11) (N := 53) hx hb hts iwX11 tyX11 tyX11_ok nmX11 hown hK hP hD hS 0 rfl rfl 2 (by decide) (hts (.fieldLink RX11 138 "ModulePlayerModel" "taped" "I") (List.mem_cons_of_mem _ kw_253)) (fun _ h9 => h9) rfl (by decide +kernel) (rfl) (rfl) (Nat.le_of_ble_eq_true rfl) dX11_put_18 (fun H locs hP hD hS => ?_)
  have hP : va_P (dC, dI) vwCl [(h, .inr (10, mdF qa x0 (nI (LL + 1)) x3 x4 x13 x14 x15 x16 x17 x18 x19 x20 x21 x22 x23 x24 x26 x27 x28)), (qa 1, .inl (cB, 9000, .inl (upd ft LL v.toInt8.toInt32)))] H := hP
  have hD : va_D A [(h, .inr (10, mdF qa x0 (nI (LL + 1)) x3 x4 x13 x14 x15 x16 x17 x18 x19 x20 x21 x22 x23 x24 x26 x27 x28)), (qa 1, .inl (cB, 9000, .inl (upd ft LL v.toInt8.toInt32)))] := hD
  have hP9 := hP
  have hD9 := hD
  have hK9 := hK.sub (tys' := []) [] rfl
  exact W.vret hx hb hr (fun t ht hW => ⟨⟨([(h, .inr (10, mdF qa x0 (nI (LL + 1)) x3 x4 x13 x14 x15 x16 x17 x18 x19 x20 x21 x22 x23 x24 x26 x27 x28)), (qa 1, .inl (cB, 9000, .inl (upd ft LL v.toInt8.toInt32)))], []), rfl, rfl, by rw [ht]; exact hP9, va_K.moved hW.alike hK9, hD9⟩, hS.F ht⟩) hS.2.2 dX11_put_21

set_option maxHeartbeats 400000 in
set_option maxRecDepth 100000 in
theorem g_types (l : Launch) (dC : Nat → ClassId) (dI : Nat → Nat → Nat) (sz : Nat) (h : Nat) (qa : Nat → Nat) (x0 x3 x4 x13 x14 x15 x16 x17 x18 x19 x20 x21 x22 x23 x24 x26 x27 x28 : Int32) (cB : ClassId) (LL : Nat) (ft : Nat → Int32) (v : Int32) (hLL : LL + 4 ≤ 9000) : Met l yX11_types (wsG (.code yX11_types cX11_types 3 none)) ({ frames := 0, cells := 0, slots := 0, locals := 0 }) (va_Pc [.ref h, .int v] (gP (dC, dI) [(cB, .byte)] [(h, .inr (10, mdF qa x0 (nI LL) x3 x4 x13 x14 x15 x16 x17 x18 x19 x20 x21 x22 x23 x24 x26 x27 x28)), (qa 1, .inl (cB, 9000, .inl ft))] sz)) (va_Qv (fun u : va_W × gT => u = ([(h, .inr (10, mdF qa x0 (nI (LL + 4)) x3 x4 x13 x14 x15 x16 x17 x18 x19 x20 x21 x22 x23 x24 x26 x27 x28)), (qa 1, .inl (cB, 9000, .inl (fb4 ft LL v)))], [])) (gB (dC, dI) (va_A [(h, .inr (10, mdF qa x0 (nI LL) x3 x4 x13 x14 x15 x16 x17 x18 x19 x20 x21 x22 x23 x24 x26 x27 x28)), (qa 1, .inl (cB, 9000, .inl ft))] sz)) (va_A [(h, .inr (10, mdF qa x0 (nI LL) x3 x4 x13 x14 x15 x16 x17 x18 x19 x20 x21 x22 x23 x24 x26 x27 x28)), (qa 1, .inl (cB, 9000, .inl ft))] sz)) 0 0 (va_A [(h, .inr (10, mdF qa x0 (nI LL) x3 x4 x13 x14 x15 x16 x17 x18 x19 x20 x21 x22 x23 x24 x26 x27 x28)), (qa 1, .inl (cB, 9000, .inl ft))] sz) := by
  refine Met.ofW (cc := cX11_types) (maxL := 3) (ret := none) (by decide) rfl ?_
  intro p e s m args below meth c s₁ B hml hv
  obtain ⟨rfl, hsz, hP, hK, hD0, hN, hZ⟩ := hv
  have hx := B.exec
  have hb := B.bytes
  have hr := B.returns
  have hts := atoms_spec (ws := (wsG (.code yX11_types cX11_types 3 none))) B.pre
  have hown : s.vm.findClass RX11 = some m.cls := findClass_of_methodNamed B.named
  have hlocks := B.notSynchronized
  subst hsz
  have hD := hD0.self (sz := s.heap.size)
  generalize hAe : va_A [(h, .inr (10, mdF qa x0 (nI LL) x3 x4 x13 x14 x15 x16 x17 x18 x19 x20 x21 x22 x23 x24 x26 x27 x28)), (qa 1, .inl (cB, 9000, .inl ft))] s.heap.size = A at hD hZ ⊢
  have hA : ∀ q : Nat, s.heap.size ≤ q → A q := fun q h => by rw [← hAe]; exact Or.inr h
  have hl := lv_entry ([.ref h, .int v]) (n := 3) (Nat.le_of_ble_eq_true rfl)
  rw [lg_entry_eq]
  generalize (lg_sl ([.ref h, .int v]) ++ List.replicate (3 - (lg_sl ([.ref h, .int v])).length) Slot.unset).toArray = ls at hl ⊢
  have hl : lv_has ls 3 [(0, .ref h), (1, .int v)] := hl
  refine g_start (A := A) hP (fun H locs hP hS => ?_)
  refine lv_bipush (v := 24) hx hb dX11_types_0 (by decide) ?_
  refine lv_istore_n (lv' := [(2, .int 24), (0, .ref h), (1, .int v)]) hx hb dX11_types_2 rfl hl (by decide) rfl (fun ls hl => ?_)
  refine lv_iload_n hx hb dX11_types_3 rfl (lv_at hl 0 rfl) ?_
  refine lv_if_lt (tgt := 36) hx hb dX11_types_4 (by decide) (fun c_4 => absurd c_4 (by decide)) (fun c_4 => ?_)
  refine lv_aload_n hx hb dX11_types_7 rfl (lv_at hl 1 rfl) ?_
  refine va_get (D := (dC, dI)) (ci := 10) (v := .ref (qa 1)) (C := RX11) (T := TX11) (N := 53) hx hb hts iwX11 hown hK hP 0 rfl rfl 1 (by decide) (hts (.fieldLink RX11 9 "ModulePlayerModel" "tape" "[B") (List.mem_cons_of_mem _ kw_171)) (fun _ h9 => h9) rfl dX11_types_8 ?_
  refine lv_aload_n hx hb dX11_types_11 rfl (lv_at hl 1 rfl) ?_
  refine va_get (D := (dC, dI)) (ci := 10) (v := .int (nI LL)) (C := RX11) (T := TX11) (N := 53) hx hb hts iwX11 hown hK hP 0 rfl rfl 2 (by decide) (hts (.fieldLink RX11 138 "ModulePlayerModel" "taped" "I") (List.mem_cons_of_mem _ kw_253)) (fun _ h9 => h9) rfl dX11_types_12 ?_
  refine lv_iload_n hx hb dX11_types_15 rfl (lv_at hl 2 rfl) ?_
  refine lv_iload_n hx hb dX11_types_16 rfl (lv_at hl 0 rfl) ?_
  refine lv_ishr hx hb dX11_types_17 ?_
  refine lv_i2b (v := (v >>> (24 &&& 31)).toInt8.toInt32) hx hb dX11_types_18 rfl ?_
  refine g_bast hx hb hK hP hD hS 1 0 rfl rfl (x' := ((v >>> (24 &&& 31)).toInt8.toInt32)) (pk_vb _) LL (nI_clamp (Nat.lt_trans (show LL < 9000 from by omega) (by decide))) (vp_in_nI (by omega) (by decide)) dX11_types_19 (fun H locs hP hD hS => ?_)
  have hP : va_P (dC, dI) vwCl [(h, .inr (10, mdF qa x0 (nI LL) x3 x4 x13 x14 x15 x16 x17 x18 x19 x20 x21 x22 x23 x24 x26 x27 x28)), (qa 1, .inl (cB, 9000, .inl (upd ft LL ((v >>> (24 &&& 31)).toInt8.toInt32))))] H := hP
  have hD : va_D A [(h, .inr (10, mdF qa x0 (nI LL) x3 x4 x13 x14 x15 x16 x17 x18 x19 x20 x21 x22 x23 x24 x26 x27 x28)), (qa 1, .inl (cB, 9000, .inl (upd ft LL ((v >>> (24 &&& 31)).toInt8.toInt32))))] := hD
  refine lv_aload_n hx hb dX11_types_20 rfl (lv_at hl 1 rfl) ?_
  refine lv_dup hx hb dX11_types_21 rfl ?_
  refine va_get (D := (dC, dI)) (ci := 10) (v := .int (nI LL)) (C := RX11) (T := TX11) (N := 53) hx hb hts iwX11 hown hK hP 0 rfl rfl 2 (by decide) (hts (.fieldLink RX11 138 "ModulePlayerModel" "taped" "I") (List.mem_cons_of_mem _ kw_253)) (fun _ h9 => h9) rfl dX11_types_22 ?_
  refine lv_iconst (v := 1) hx hb dX11_types_25 (by decide) ?_
  refine lv_iadd hx hb dX11_types_26 ?_
  refine g_topi (y := nI (LL + 1)) (nI_1 _) ?_
  refine va_put (D := (dC, dI)) (ci := 10) (v := .int (nI (LL + 1))) (ty := tyX11 2) (C := RX11) (T := TX11) (N := 53) hx hb hts iwX11 tyX11 tyX11_ok nmX11 hown hK hP hD hS 0 rfl rfl 2 (by decide) (hts (.fieldLink RX11 138 "ModulePlayerModel" "taped" "I") (List.mem_cons_of_mem _ kw_253)) (fun _ h9 => h9) rfl (by decide +kernel) (rfl) (rfl) (Nat.le_of_ble_eq_true rfl) dX11_types_27 (fun H locs hP hD hS => ?_)
  have hP : va_P (dC, dI) vwCl [(h, .inr (10, mdF qa x0 (nI (LL + 1)) x3 x4 x13 x14 x15 x16 x17 x18 x19 x20 x21 x22 x23 x24 x26 x27 x28)), (qa 1, .inl (cB, 9000, .inl (upd ft LL ((v >>> (24 &&& 31)).toInt8.toInt32))))] H := hP
  have hD : va_D A [(h, .inr (10, mdF qa x0 (nI (LL + 1)) x3 x4 x13 x14 x15 x16 x17 x18 x19 x20 x21 x22 x23 x24 x26 x27 x28)), (qa 1, .inl (cB, 9000, .inl (upd ft LL ((v >>> (24 &&& 31)).toInt8.toInt32))))] := hD
  refine lv_iinc (v := 16) (lv' := [(2, .int 16), (0, .ref h), (1, .int v)]) hx hb dX11_types_30 hl (k := 0) rfl (by decide) (by decide) rfl (fun ls hl => ?_)
  refine lv_goto (tgt := 3) hx hb dX11_types_33 (by decide) ?_
  refine lv_iload_n hx hb dX11_types_3 rfl (lv_at hl 0 rfl) ?_
  refine lv_if_lt (tgt := 36) hx hb dX11_types_4 (by decide) (fun c_4_2 => absurd c_4_2 (by decide)) (fun c_4_2 => ?_)
  refine lv_aload_n hx hb dX11_types_7 rfl (lv_at hl 1 rfl) ?_
  refine va_get (D := (dC, dI)) (ci := 10) (v := .ref (qa 1)) (C := RX11) (T := TX11) (N := 53) hx hb hts iwX11 hown hK hP 0 rfl rfl 1 (by decide) (hts (.fieldLink RX11 9 "ModulePlayerModel" "tape" "[B") (List.mem_cons_of_mem _ kw_171)) (fun _ h9 => h9) rfl dX11_types_8 ?_
  refine lv_aload_n hx hb dX11_types_11 rfl (lv_at hl 1 rfl) ?_
  refine va_get (D := (dC, dI)) (ci := 10) (v := .int (nI (LL + 1))) (C := RX11) (T := TX11) (N := 53) hx hb hts iwX11 hown hK hP 0 rfl rfl 2 (by decide) (hts (.fieldLink RX11 138 "ModulePlayerModel" "taped" "I") (List.mem_cons_of_mem _ kw_253)) (fun _ h9 => h9) rfl dX11_types_12 ?_
  refine lv_iload_n hx hb dX11_types_15 rfl (lv_at hl 2 rfl) ?_
  refine lv_iload_n hx hb dX11_types_16 rfl (lv_at hl 0 rfl) ?_
  refine lv_ishr hx hb dX11_types_17 ?_
  refine lv_i2b (v := (v >>> (16 &&& 31)).toInt8.toInt32) hx hb dX11_types_18 rfl ?_
  refine g_bast hx hb hK hP hD hS 1 0 rfl rfl (x' := ((v >>> (16 &&& 31)).toInt8.toInt32)) (pk_vb _) (LL + 1) (nI_clamp (Nat.lt_trans (show LL + 1 < 9000 from by omega) (by decide))) (vp_in_nI (by omega) (by decide)) dX11_types_19 (fun H locs hP hD hS => ?_)
  have hP : va_P (dC, dI) vwCl [(h, .inr (10, mdF qa x0 (nI (LL + 1)) x3 x4 x13 x14 x15 x16 x17 x18 x19 x20 x21 x22 x23 x24 x26 x27 x28)), (qa 1, .inl (cB, 9000, .inl (upd (upd ft LL ((v >>> (24 &&& 31)).toInt8.toInt32)) (LL + 1) ((v >>> (16 &&& 31)).toInt8.toInt32))))] H := hP
  have hD : va_D A [(h, .inr (10, mdF qa x0 (nI (LL + 1)) x3 x4 x13 x14 x15 x16 x17 x18 x19 x20 x21 x22 x23 x24 x26 x27 x28)), (qa 1, .inl (cB, 9000, .inl (upd (upd ft LL ((v >>> (24 &&& 31)).toInt8.toInt32)) (LL + 1) ((v >>> (16 &&& 31)).toInt8.toInt32))))] := hD
  refine lv_aload_n hx hb dX11_types_20 rfl (lv_at hl 1 rfl) ?_
  refine lv_dup hx hb dX11_types_21 rfl ?_
  refine va_get (D := (dC, dI)) (ci := 10) (v := .int (nI (LL + 1))) (C := RX11) (T := TX11) (N := 53) hx hb hts iwX11 hown hK hP 0 rfl rfl 2 (by decide) (hts (.fieldLink RX11 138 "ModulePlayerModel" "taped" "I") (List.mem_cons_of_mem _ kw_253)) (fun _ h9 => h9) rfl dX11_types_22 ?_
  refine lv_iconst (v := 1) hx hb dX11_types_25 (by decide) ?_
  refine lv_iadd hx hb dX11_types_26 ?_
  refine g_topi (y := nI ((LL + 1) + 1)) (nI_1 _) ?_
  refine va_put (D := (dC, dI)) (ci := 10) (v := .int (nI ((LL + 1) + 1))) (ty := tyX11 2) (C := RX11) (T := TX11) (N := 53) hx hb hts iwX11 tyX11 tyX11_ok nmX11 hown hK hP hD hS 0 rfl rfl 2 (by decide) (hts (.fieldLink RX11 138 "ModulePlayerModel" "taped" "I") (List.mem_cons_of_mem _ kw_253)) (fun _ h9 => h9) rfl (by decide +kernel) (rfl) (rfl) (Nat.le_of_ble_eq_true rfl) dX11_types_27 (fun H locs hP hD hS => ?_)
  have hP : va_P (dC, dI) vwCl [(h, .inr (10, mdF qa x0 (nI ((LL + 1) + 1)) x3 x4 x13 x14 x15 x16 x17 x18 x19 x20 x21 x22 x23 x24 x26 x27 x28)), (qa 1, .inl (cB, 9000, .inl (upd (upd ft LL ((v >>> (24 &&& 31)).toInt8.toInt32)) (LL + 1) ((v >>> (16 &&& 31)).toInt8.toInt32))))] H := hP
  have hD : va_D A [(h, .inr (10, mdF qa x0 (nI ((LL + 1) + 1)) x3 x4 x13 x14 x15 x16 x17 x18 x19 x20 x21 x22 x23 x24 x26 x27 x28)), (qa 1, .inl (cB, 9000, .inl (upd (upd ft LL ((v >>> (24 &&& 31)).toInt8.toInt32)) (LL + 1) ((v >>> (16 &&& 31)).toInt8.toInt32))))] := hD
  refine lv_iinc (v := 8) (lv' := [(2, .int 8), (0, .ref h), (1, .int v)]) hx hb dX11_types_30 hl (k := 0) rfl (by decide) (by decide) rfl (fun ls hl => ?_)
  refine lv_goto (tgt := 3) hx hb dX11_types_33 (by decide) ?_
  refine lv_iload_n hx hb dX11_types_3 rfl (lv_at hl 0 rfl) ?_
  refine lv_if_lt (tgt := 36) hx hb dX11_types_4 (by decide) (fun c_4_3 => absurd c_4_3 (by decide)) (fun c_4_3 => ?_)
  refine lv_aload_n hx hb dX11_types_7 rfl (lv_at hl 1 rfl) ?_
  refine va_get (D := (dC, dI)) (ci := 10) (v := .ref (qa 1)) (C := RX11) (T := TX11) (N := 53) hx hb hts iwX11 hown hK hP 0 rfl rfl 1 (by decide) (hts (.fieldLink RX11 9 "ModulePlayerModel" "tape" "[B") (List.mem_cons_of_mem _ kw_171)) (fun _ h9 => h9) rfl dX11_types_8 ?_
  refine lv_aload_n hx hb dX11_types_11 rfl (lv_at hl 1 rfl) ?_
  refine va_get (D := (dC, dI)) (ci := 10) (v := .int (nI ((LL + 1) + 1))) (C := RX11) (T := TX11) (N := 53) hx hb hts iwX11 hown hK hP 0 rfl rfl 2 (by decide) (hts (.fieldLink RX11 138 "ModulePlayerModel" "taped" "I") (List.mem_cons_of_mem _ kw_253)) (fun _ h9 => h9) rfl dX11_types_12 ?_
  refine lv_iload_n hx hb dX11_types_15 rfl (lv_at hl 2 rfl) ?_
  refine lv_iload_n hx hb dX11_types_16 rfl (lv_at hl 0 rfl) ?_
  refine lv_ishr hx hb dX11_types_17 ?_
  refine lv_i2b (v := (v >>> (8 &&& 31)).toInt8.toInt32) hx hb dX11_types_18 rfl ?_
  refine g_bast hx hb hK hP hD hS 1 0 rfl rfl (x' := ((v >>> (8 &&& 31)).toInt8.toInt32)) (pk_vb _) ((LL + 1) + 1) (nI_clamp (Nat.lt_trans (show (LL + 1) + 1 < 9000 from by omega) (by decide))) (vp_in_nI (by omega) (by decide)) dX11_types_19 (fun H locs hP hD hS => ?_)
  have hP : va_P (dC, dI) vwCl [(h, .inr (10, mdF qa x0 (nI ((LL + 1) + 1)) x3 x4 x13 x14 x15 x16 x17 x18 x19 x20 x21 x22 x23 x24 x26 x27 x28)), (qa 1, .inl (cB, 9000, .inl (upd (upd (upd ft LL ((v >>> (24 &&& 31)).toInt8.toInt32)) (LL + 1) ((v >>> (16 &&& 31)).toInt8.toInt32)) ((LL + 1) + 1) ((v >>> (8 &&& 31)).toInt8.toInt32))))] H := hP
  have hD : va_D A [(h, .inr (10, mdF qa x0 (nI ((LL + 1) + 1)) x3 x4 x13 x14 x15 x16 x17 x18 x19 x20 x21 x22 x23 x24 x26 x27 x28)), (qa 1, .inl (cB, 9000, .inl (upd (upd (upd ft LL ((v >>> (24 &&& 31)).toInt8.toInt32)) (LL + 1) ((v >>> (16 &&& 31)).toInt8.toInt32)) ((LL + 1) + 1) ((v >>> (8 &&& 31)).toInt8.toInt32))))] := hD
  refine lv_aload_n hx hb dX11_types_20 rfl (lv_at hl 1 rfl) ?_
  refine lv_dup hx hb dX11_types_21 rfl ?_
  refine va_get (D := (dC, dI)) (ci := 10) (v := .int (nI ((LL + 1) + 1))) (C := RX11) (T := TX11) (N := 53) hx hb hts iwX11 hown hK hP 0 rfl rfl 2 (by decide) (hts (.fieldLink RX11 138 "ModulePlayerModel" "taped" "I") (List.mem_cons_of_mem _ kw_253)) (fun _ h9 => h9) rfl dX11_types_22 ?_
  refine lv_iconst (v := 1) hx hb dX11_types_25 (by decide) ?_
  refine lv_iadd hx hb dX11_types_26 ?_
  refine g_topi (y := nI (((LL + 1) + 1) + 1)) (nI_1 _) ?_
  refine va_put (D := (dC, dI)) (ci := 10) (v := .int (nI (((LL + 1) + 1) + 1))) (ty := tyX11 2) (C := RX11) (T := TX11) (N := 53) hx hb hts iwX11 tyX11 tyX11_ok nmX11 hown hK hP hD hS 0 rfl rfl 2 (by decide) (hts (.fieldLink RX11 138 "ModulePlayerModel" "taped" "I") (List.mem_cons_of_mem _ kw_253)) (fun _ h9 => h9) rfl (by decide +kernel) (rfl) (rfl) (Nat.le_of_ble_eq_true rfl) dX11_types_27 (fun H locs hP hD hS => ?_)
  have hP : va_P (dC, dI) vwCl [(h, .inr (10, mdF qa x0 (nI (((LL + 1) + 1) + 1)) x3 x4 x13 x14 x15 x16 x17 x18 x19 x20 x21 x22 x23 x24 x26 x27 x28)), (qa 1, .inl (cB, 9000, .inl (upd (upd (upd ft LL ((v >>> (24 &&& 31)).toInt8.toInt32)) (LL + 1) ((v >>> (16 &&& 31)).toInt8.toInt32)) ((LL + 1) + 1) ((v >>> (8 &&& 31)).toInt8.toInt32))))] H := hP
  have hD : va_D A [(h, .inr (10, mdF qa x0 (nI (((LL + 1) + 1) + 1)) x3 x4 x13 x14 x15 x16 x17 x18 x19 x20 x21 x22 x23 x24 x26 x27 x28)), (qa 1, .inl (cB, 9000, .inl (upd (upd (upd ft LL ((v >>> (24 &&& 31)).toInt8.toInt32)) (LL + 1) ((v >>> (16 &&& 31)).toInt8.toInt32)) ((LL + 1) + 1) ((v >>> (8 &&& 31)).toInt8.toInt32))))] := hD
  refine lv_iinc (v := 0) (lv' := [(2, .int 0), (0, .ref h), (1, .int v)]) hx hb dX11_types_30 hl (k := 0) rfl (by decide) (by decide) rfl (fun ls hl => ?_)
  refine lv_goto (tgt := 3) hx hb dX11_types_33 (by decide) ?_
  refine lv_iload_n hx hb dX11_types_3 rfl (lv_at hl 0 rfl) ?_
  refine lv_if_lt (tgt := 36) hx hb dX11_types_4 (by decide) (fun c_4_4 => absurd c_4_4 (by decide)) (fun c_4_4 => ?_)
  refine lv_aload_n hx hb dX11_types_7 rfl (lv_at hl 1 rfl) ?_
  refine va_get (D := (dC, dI)) (ci := 10) (v := .ref (qa 1)) (C := RX11) (T := TX11) (N := 53) hx hb hts iwX11 hown hK hP 0 rfl rfl 1 (by decide) (hts (.fieldLink RX11 9 "ModulePlayerModel" "tape" "[B") (List.mem_cons_of_mem _ kw_171)) (fun _ h9 => h9) rfl dX11_types_8 ?_
  refine lv_aload_n hx hb dX11_types_11 rfl (lv_at hl 1 rfl) ?_
  refine va_get (D := (dC, dI)) (ci := 10) (v := .int (nI (((LL + 1) + 1) + 1))) (C := RX11) (T := TX11) (N := 53) hx hb hts iwX11 hown hK hP 0 rfl rfl 2 (by decide) (hts (.fieldLink RX11 138 "ModulePlayerModel" "taped" "I") (List.mem_cons_of_mem _ kw_253)) (fun _ h9 => h9) rfl dX11_types_12 ?_
  refine lv_iload_n hx hb dX11_types_15 rfl (lv_at hl 2 rfl) ?_
  refine lv_iload_n hx hb dX11_types_16 rfl (lv_at hl 0 rfl) ?_
  refine lv_ishr hx hb dX11_types_17 ?_
  refine lv_i2b (v := (v >>> (0 &&& 31)).toInt8.toInt32) hx hb dX11_types_18 rfl ?_
  refine g_bast hx hb hK hP hD hS 1 0 rfl rfl (x' := ((v >>> (0 &&& 31)).toInt8.toInt32)) (pk_vb _) (((LL + 1) + 1) + 1) (nI_clamp (Nat.lt_trans (show ((LL + 1) + 1) + 1 < 9000 from by omega) (by decide))) (vp_in_nI (by omega) (by decide)) dX11_types_19 (fun H locs hP hD hS => ?_)
  have hP : va_P (dC, dI) vwCl [(h, .inr (10, mdF qa x0 (nI (((LL + 1) + 1) + 1)) x3 x4 x13 x14 x15 x16 x17 x18 x19 x20 x21 x22 x23 x24 x26 x27 x28)), (qa 1, .inl (cB, 9000, .inl (upd (upd (upd (upd ft LL ((v >>> (24 &&& 31)).toInt8.toInt32)) (LL + 1) ((v >>> (16 &&& 31)).toInt8.toInt32)) ((LL + 1) + 1) ((v >>> (8 &&& 31)).toInt8.toInt32)) (((LL + 1) + 1) + 1) ((v >>> (0 &&& 31)).toInt8.toInt32))))] H := hP
  have hD : va_D A [(h, .inr (10, mdF qa x0 (nI (((LL + 1) + 1) + 1)) x3 x4 x13 x14 x15 x16 x17 x18 x19 x20 x21 x22 x23 x24 x26 x27 x28)), (qa 1, .inl (cB, 9000, .inl (upd (upd (upd (upd ft LL ((v >>> (24 &&& 31)).toInt8.toInt32)) (LL + 1) ((v >>> (16 &&& 31)).toInt8.toInt32)) ((LL + 1) + 1) ((v >>> (8 &&& 31)).toInt8.toInt32)) (((LL + 1) + 1) + 1) ((v >>> (0 &&& 31)).toInt8.toInt32))))] := hD
  refine lv_aload_n hx hb dX11_types_20 rfl (lv_at hl 1 rfl) ?_
  refine lv_dup hx hb dX11_types_21 rfl ?_
  refine va_get (D := (dC, dI)) (ci := 10) (v := .int (nI (((LL + 1) + 1) + 1))) (C := RX11) (T := TX11) (N := 53) hx hb hts iwX11 hown hK hP 0 rfl rfl 2 (by decide) (hts (.fieldLink RX11 138 "ModulePlayerModel" "taped" "I") (List.mem_cons_of_mem _ kw_253)) (fun _ h9 => h9) rfl dX11_types_22 ?_
  refine lv_iconst (v := 1) hx hb dX11_types_25 (by decide) ?_
  refine lv_iadd hx hb dX11_types_26 ?_
  refine g_topi (y := nI ((((LL + 1) + 1) + 1) + 1)) (nI_1 _) ?_
  refine va_put (D := (dC, dI)) (ci := 10) (v := .int (nI ((((LL + 1) + 1) + 1) + 1))) (ty := tyX11 2) (C := RX11) (T := TX11) (N := 53) hx hb hts iwX11 tyX11 tyX11_ok nmX11 hown hK hP hD hS 0 rfl rfl 2 (by decide) (hts (.fieldLink RX11 138 "ModulePlayerModel" "taped" "I") (List.mem_cons_of_mem _ kw_253)) (fun _ h9 => h9) rfl (by decide +kernel) (rfl) (rfl) (Nat.le_of_ble_eq_true rfl) dX11_types_27 (fun H locs hP hD hS => ?_)
  have hP : va_P (dC, dI) vwCl [(h, .inr (10, mdF qa x0 (nI ((((LL + 1) + 1) + 1) + 1)) x3 x4 x13 x14 x15 x16 x17 x18 x19 x20 x21 x22 x23 x24 x26 x27 x28)), (qa 1, .inl (cB, 9000, .inl (upd (upd (upd (upd ft LL ((v >>> (24 &&& 31)).toInt8.toInt32)) (LL + 1) ((v >>> (16 &&& 31)).toInt8.toInt32)) ((LL + 1) + 1) ((v >>> (8 &&& 31)).toInt8.toInt32)) (((LL + 1) + 1) + 1) ((v >>> (0 &&& 31)).toInt8.toInt32))))] H := hP
  have hD : va_D A [(h, .inr (10, mdF qa x0 (nI ((((LL + 1) + 1) + 1) + 1)) x3 x4 x13 x14 x15 x16 x17 x18 x19 x20 x21 x22 x23 x24 x26 x27 x28)), (qa 1, .inl (cB, 9000, .inl (upd (upd (upd (upd ft LL ((v >>> (24 &&& 31)).toInt8.toInt32)) (LL + 1) ((v >>> (16 &&& 31)).toInt8.toInt32)) ((LL + 1) + 1) ((v >>> (8 &&& 31)).toInt8.toInt32)) (((LL + 1) + 1) + 1) ((v >>> (0 &&& 31)).toInt8.toInt32))))] := hD
  refine lv_iinc (v := (-8)) (lv' := [(2, .int (-8)), (0, .ref h), (1, .int v)]) hx hb dX11_types_30 hl (k := 0) rfl (by decide) (by decide) rfl (fun ls hl => ?_)
  refine lv_goto (tgt := 3) hx hb dX11_types_33 (by decide) ?_
  refine lv_iload_n hx hb dX11_types_3 rfl (lv_at hl 0 rfl) ?_
  refine lv_if_lt (tgt := 36) hx hb dX11_types_4 (by decide) (fun c_4_5 => ?_) (fun c_4_5 => absurd c_4_5 (by decide))
  have hP9 := hP
  have hD9 := hD
  have hK9 := hK.sub (tys' := []) [] rfl
  exact W.vret hx hb hr (fun t ht hW => ⟨⟨([(h, .inr (10, mdF qa x0 (nI ((((LL + 1) + 1) + 1) + 1)) x3 x4 x13 x14 x15 x16 x17 x18 x19 x20 x21 x22 x23 x24 x26 x27 x28)), (qa 1, .inl (cB, 9000, .inl (upd (upd (upd (upd ft LL ((v >>> (24 &&& 31)).toInt8.toInt32)) (LL + 1) ((v >>> (16 &&& 31)).toInt8.toInt32)) ((LL + 1) + 1) ((v >>> (8 &&& 31)).toInt8.toInt32)) (((LL + 1) + 1) + 1) ((v >>> (0 &&& 31)).toInt8.toInt32))))], []), rfl, rfl, by rw [ht]; exact hP9, va_K.moved hW.alike hK9, hD9⟩, hS.F ht⟩) hS.2.2 dX11_types_36

