set_option maxHeartbeats 400000 in
set_option maxRecDepth 100000 in
/-- Tape.put, whatever the bytes -/
theorem c_putx (l : Launch) (dC : Nat → ClassId) (dI : Nat → Nat → Nat) (sz : Nat) (h b : Nat) (cB : ClassId) (f : Nat → Int32) (L : Nat) (j : Nat) (v : Int32) (L2 : Nat) (hL : L ≤ 9000) (hj : j < 9000) (hL2 : max L (j + 1) = L2) : Met l yX7_put (wsG (.code yX7_put cX7_put 4 none)) ({ frames := 1, cells := 0, slots := 0, locals := 21 }) (va_Pc [.ref h, .int (nI j), .int v] (gP (dC, dI) [(cB, .byte)] [(h, .inr (7, [.ref b, .int (nI L)])), (b, .inl (cB, 9000, .inl f))] sz)) (va_Qv (fun u : va_W × gT => ∃ (f2 : Nat → Int32), u = ([(h, .inr (7, [.ref b, .int (nI L2)])), (b, .inl (cB, 9000, .inl f2))], [])) (gB (dC, dI) (va_A [(h, .inr (7, [.ref b, .int (nI L)])), (b, .inl (cB, 9000, .inl f))] sz)) (va_A [(h, .inr (7, [.ref b, .int (nI L)])), (b, .inl (cB, 9000, .inl f))] sz)) 0 0 (va_A [(h, .inr (7, [.ref b, .int (nI L)])), (b, .inl (cB, 9000, .inl f))] sz) := by
  refine Met.ofW (cc := cX7_put) (maxL := 4) (ret := none) (by decide) rfl ?_
  intro p e s m args below meth c s₁ B hml hv
  obtain ⟨rfl, hsz, hP, hK, hD0, hN, hZ⟩ := hv
  have hx := B.exec
  have hb := B.bytes
  have hr := B.returns
  have hts := atoms_spec (ws := (wsG (.code yX7_put cX7_put 4 none))) B.pre
  have hown : s.vm.findClass RX7 = some m.cls := findClass_of_methodNamed B.named
  have hlocks := B.notSynchronized
  subst hsz
  have hD := hD0.self (sz := s.heap.size)
  generalize hAe : va_A [(h, .inr (7, [.ref b, .int (nI L)])), (b, .inl (cB, 9000, .inl f))] s.heap.size = A at hD hZ ⊢
  have hA : ∀ q : Nat, s.heap.size ≤ q → A q := fun q h => by rw [← hAe]; exact Or.inr h
  have hl := lv_entry ([.ref h, .int (nI j), .int v]) (n := 4) (Nat.le_of_ble_eq_true rfl)
  rw [lg_entry_eq]
  generalize (lg_sl ([.ref h, .int (nI j), .int v]) ++ List.replicate (4 - (lg_sl ([.ref h, .int (nI j), .int v])).length) Slot.unset).toArray = ls at hl ⊢
  have hl : lv_has ls 4 [(0, .ref h), (1, .int (nI j)), (2, .int v)] := hl
  refine g_start (A := A) hP (fun H locs hP hS => ?_)
  refine lv_iload_n hx hb dX7_put_0 rfl (lv_at hl 1 rfl) ?_
  refine lv_sipush (v := 9000) hx hb dX7_put_1 (by decide) ?_
  refine g_calli (wr := [(h, .inr (7, [.ref b, .int (nI L)])), (b, .inl (cB, 9000, .inl f))]) (va_runSN (As := [.int (nI j), .int 9000]) (rest := []) ⟨hx, hb, hml, hown, hts⟩ (c_isIn l dC dI H.size (nI j) 9000 ) ⟨va_cnB 2 hts (wsG_good kw_248) rfl rfl rfl (hN.1 (.methodLinkNest RX7 19 yX10_isIn RX10) (by decide +kernel)) (hts (.initialized RX10) (List.mem_cons_of_mem _ kw_2)) (by decide +kernel) ⟨Nat.le_of_ble_eq_true rfl, Nat.le_of_ble_eq_true rfl⟩, (hts (.static yX10_isIn) (List.mem_cons_of_mem _ kw_247)), trivial⟩ (g_preS hP hD hK hS hA hN hZ [] (by decide) rfl [] rfl) rfl rfl hl.1 rfl (lv_room (Nat.le_of_ble_eq_true rfl)) dX7_put_4 ⟨Nat.le_of_ble_eq_true rfl, Nat.le_of_ble_eq_true rfl⟩) hP hD hK hS hA [] [0, 1] rfl rfl (by decide) (by decide) (fun r_4 w ty1 H locs hw_4 hP hD _ hS => ?_)
  rcases hw_4 with ⟨hu, hr_4, h_4⟩ | ⟨hu, hr_4, h_4⟩
  · cases hu
    have hP : va_P (dC, dI) vwCl [(h, .inr (7, [.ref b, .int (nI L)])), (b, .inl (cB, 9000, .inl f))] H := hP
    have hD : va_D A [(h, .inr (7, [.ref b, .int (nI L)])), (b, .inl (cB, 9000, .inl f))] := hD
    refine g_topi (y := 1) hr_4 ?_
    refine lv_if_ne (tgt := 11) hx hb dX7_put_7 (by decide) (fun c_7 => ?_) (fun c_7 => absurd c_7 (by decide))
    refine lv_aload_n hx hb dX7_put_11 rfl (lv_at hl 0 rfl) ?_
    refine va_get (D := (dC, dI)) (ci := 7) (v := .int (nI L)) (C := RX7) (T := TX7) (N := 2) hx hb hts iwX7 hown hK hP 0 rfl rfl 1 (by decide) (hts (.fieldLink RX7 15 "ModulePlayer$Tape" "length" "I") (List.mem_cons_of_mem _ kw_241)) (fun _ h9 => h9) rfl dX7_put_12 ?_
    refine lv_istore_n (lv' := [(3, .int (nI L)), (0, .ref h), (1, .int (nI j)), (2, .int v)]) hx hb dX7_put_15 rfl hl (by decide) rfl (fun ls hl => ?_)
    have LP16 : ∀ (fu16 : Nat) (k : Nat) (fk : Nat → Int32) (hk1 : L ≤ k) (hk2 : k ≤ j ∨ k = L) (hm16 : 9000 - k < fu16) (H : Heap) (locs : List Loc), va_P (dC, dI) vwCl [(h, .inr (7, [.ref b, .int (nI L)])), (b, .inl (cB, 9000, .inl fk))] H → va_D A [(h, .inr (7, [.ref b, .int (nI L)])), (b, .inl (cB, 9000, .inl fk))] → va_S A s.heap H locs → ∀ ls : Array Slot, lv_has ls 4 [(3, .int (nI k)), (0, .ref h), (1, .int (nI j)), (2, .int v)] → W p l e ({ frames := 1, cells := 0, slots := 0, locals := 21 }) s m ([.ref h, .int (nI j), .int v] : List Value).toArray below meth c H locs (0) (0) (MQ below (va_Qv (fun u : va_W × gT => ∃ (f2 : Nat → Int32), u = ([(h, .inr (7, [.ref b, .int (nI L2)])), (b, .inl (cB, 9000, .inl f2))], [])) (gB (dC, dI) A) A) ([.ref h, .int (nI j), .int v] : List Value).toArray s 0 0 A) (F0 m 16 ls []) := by
      intro fu16
      induction fu16 with
      | zero => intro k fk hk1 hk2 hm16; exact absurd hm16 (Nat.not_lt_zero _)
      | succ fu16 ih16 =>
        intro k fk hk1 hk2 hm16 H locs hP hD hS ls hl
        refine lv_iload_n hx hb dX7_put_16 rfl (lv_at hl 0 rfl) ?_
        refine lv_iload_n hx hb dX7_put_17 rfl (lv_at hl 2 rfl) ?_
        refine lv_icmp_ge (tgt := 34) hx hb dX7_put_18 (by decide) (fun c_18 => ?_) (fun c_18 => ?_)
        · refine lv_aload_n hx hb dX7_put_34 rfl (lv_at hl 1 rfl) ?_
          refine va_get (D := (dC, dI)) (ci := 7) (v := .ref b) (C := RX7) (T := TX7) (N := 2) hx hb hts iwX7 hown hK hP 0 rfl rfl 0 (by decide) (hts (.fieldLink RX7 9 "ModulePlayer$Tape" "bytes" "[B") (List.mem_cons_of_mem _ kw_48)) (fun _ h9 => h9) rfl dX7_put_35 ?_
          refine lv_iload_n hx hb dX7_put_38 rfl (lv_at hl 2 rfl) ?_
          refine lv_iload_n hx hb dX7_put_39 rfl (lv_at hl 3 rfl) ?_
          refine lv_i2b (v := v.toInt8.toInt32) hx hb dX7_put_40 rfl ?_
          refine g_bast hx hb hK hP hD hS 1 0 rfl rfl (x' := v.toInt8.toInt32) (pk_vb _) j (nI_clamp (Nat.lt_trans (show j < 9000 from hj) (by decide))) (vp_in_nI (hj) (by decide)) dX7_put_41 (fun H locs hP hD hS => ?_)
          have hP : va_P (dC, dI) vwCl [(h, .inr (7, [.ref b, .int (nI L)])), (b, .inl (cB, 9000, .inl (upd fk j v.toInt8.toInt32)))] H := hP
          have hD : va_D A [(h, .inr (7, [.ref b, .int (nI L)])), (b, .inl (cB, 9000, .inl (upd fk j v.toInt8.toInt32)))] := hD
          refine lv_aload_n hx hb dX7_put_42 rfl (lv_at hl 1 rfl) ?_
          refine lv_aload_n hx hb dX7_put_43 rfl (lv_at hl 1 rfl) ?_
          refine va_get (D := (dC, dI)) (ci := 7) (v := .int (nI L)) (C := RX7) (T := TX7) (N := 2) hx hb hts iwX7 hown hK hP 0 rfl rfl 1 (by decide) (hts (.fieldLink RX7 15 "ModulePlayer$Tape" "length" "I") (List.mem_cons_of_mem _ kw_241)) (fun _ h9 => h9) rfl dX7_put_44 ?_
          refine lv_iload_n hx hb dX7_put_47 rfl (lv_at hl 2 rfl) ?_
          refine lv_iconst (v := 1) hx hb dX7_put_48 (by decide) ?_
          refine lv_iadd hx hb dX7_put_49 ?_
          refine g_topi (y := nI (j + 1)) (nI_1 j) ?_
          refine va_mmax hx hb (by rw [hml]; exact hl.1.symm) hown (hts (.methodLink RX7 27 Lib.Math.max.name) (List.mem_cons_of_mem _ kw_246)) (hts (.static Lib.Math.max.name) (List.mem_cons_of_mem _ kw_102)) (hts (.initialized "java/lang/Math") (List.mem_cons_of_mem _ kw_103)) (hts (.code Lib.Math.max.name Lib.Math.max.code 2 (some .int)) (List.mem_cons_of_mem _ kw_104)) (Nat.le_of_ble_eq_true rfl) (Nat.le_of_ble_eq_true rfl) (Nat.le_of_ble_eq_true rfl) (Nat.le_of_ble_eq_true rfl) dX7_put_50 ?_
          refine g_topi (y := nI L2) (by rw [← hL2]; exact mx_nI (by omega) (by omega)) ?_
          refine va_put (D := (dC, dI)) (ci := 7) (v := .int (nI L2)) (ty := tyX7 1) (C := RX7) (T := TX7) (N := 2) hx hb hts iwX7 tyX7 tyX7_ok nmX7 hown hK hP hD hS 0 rfl rfl 1 (by decide) (hts (.fieldLink RX7 15 "ModulePlayer$Tape" "length" "I") (List.mem_cons_of_mem _ kw_241)) (fun _ h9 => h9) rfl (by decide +kernel) (rfl) (rfl) (Nat.le_of_ble_eq_true rfl) dX7_put_53 (fun H locs hP hD hS => ?_)
          have hP : va_P (dC, dI) vwCl [(h, .inr (7, [.ref b, .int (nI L2)])), (b, .inl (cB, 9000, .inl (upd fk j v.toInt8.toInt32)))] H := hP
          have hD : va_D A [(h, .inr (7, [.ref b, .int (nI L2)])), (b, .inl (cB, 9000, .inl (upd fk j v.toInt8.toInt32)))] := hD
          have hP9 := hP.sub (ws' := [(h, .inr (7, [.ref b, .int (nI L2)])), (b, .inl (cB, 9000, .inl (upd fk j v.toInt8.toInt32)))]) [0, 1] rfl
          have hD9 := hD.sub (ws' := [(h, .inr (7, [.ref b, .int (nI L2)])), (b, .inl (cB, 9000, .inl (upd fk j v.toInt8.toInt32)))]) [0, 1] (by decide) rfl
          have hK9 := hK.sub (tys' := []) [] rfl
          exact W.vret hx hb hr (fun t ht hW => ⟨⟨([(h, .inr (7, [.ref b, .int (nI L2)])), (b, .inl (cB, 9000, .inl (upd fk j v.toInt8.toInt32)))], []), rfl, ⟨(upd fk j v.toInt8.toInt32), rfl⟩, by rw [ht]; exact hP9, va_K.moved hW.alike hK9, hD9⟩, hS.F ht⟩) hS.2.2 dX7_put_56
        refine lv_aload_n hx hb dX7_put_21 rfl (lv_at hl 1 rfl) ?_
        refine va_get (D := (dC, dI)) (ci := 7) (v := .ref b) (C := RX7) (T := TX7) (N := 2) hx hb hts iwX7 hown hK hP 0 rfl rfl 0 (by decide) (hts (.fieldLink RX7 9 "ModulePlayer$Tape" "bytes" "[B") (List.mem_cons_of_mem _ kw_48)) (fun _ h9 => h9) rfl dX7_put_22 ?_
        refine lv_iload_n hx hb dX7_put_25 rfl (lv_at hl 0 rfl) ?_
        refine lv_iconst (v := 0) hx hb dX7_put_26 (by decide) ?_
        refine g_bast hx hb hK hP hD hS 1 0 rfl rfl (x' := 0) (by decide) k (nI_clamp (Nat.lt_trans (show k < 9000 from by have := nI_nle' c_18 (by omega); omega) (by decide))) (vp_in_nI (by have := nI_nle' c_18 (by omega); omega) (by decide)) dX7_put_27 (fun H locs hP hD hS => ?_)
        have hP : va_P (dC, dI) vwCl [(h, .inr (7, [.ref b, .int (nI L)])), (b, .inl (cB, 9000, .inl (upd fk k 0)))] H := hP
        have hD : va_D A [(h, .inr (7, [.ref b, .int (nI L)])), (b, .inl (cB, 9000, .inl (upd fk k 0)))] := hD
        refine lv_iinc (v := nI (k + 1)) (lv' := [(3, .int (nI (k + 1))), (0, .ref h), (1, .int (nI j)), (2, .int v)]) hx hb dX7_put_28 hl (k := 0) rfl (nI_1 k) (by decide) rfl (fun ls hl => ?_)
        refine lv_goto (tgt := 16) hx hb dX7_put_31 (by decide) ?_
        exact ih16 (k + 1) (upd fk k 0) (by omega) (by have := nI_nle' c_18 (by omega); omega) (by have := nI_nle' c_18 (by omega); omega) _ _ (hP.sub [0, 1] rfl) (hD.sub [0, 1] (by decide) rfl) hS _ (lv_sub hl [0, 1, 2, 3] rfl)
    exact LP16 _ L f (Nat.le_refl L) (Or.inr rfl) (Nat.lt_succ_self _) _ _ (hP.sub [0, 1] rfl) (hD.sub [0, 1] (by decide) rfl) hS _ (lv_sub hl [0, 1, 2, 3] rfl)
  exact False.elim (h_4 (isin0 hj (by decide)))

set_option maxHeartbeats 400000 in
set_option maxRecDepth 100000 in
/-- Tape.putPair -/
theorem c_pairx (l : Launch) (dC : Nat → ClassId) (dI : Nat → Nat → Nat) (sz : Nat) (h b : Nat) (cB : ClassId) (f : Nat → Int32) (L : Nat) (j : Nat) (v : Int32) (L2 : Nat) (hL : L ≤ 9000) (hj : j + 1 < 9000) (hL2 : max L (j + 2) = L2) : Met l yX7_putPair (wsG (.code yX7_putPair cX7_putPair 3 none)) ({ frames := 2, cells := 0, slots := 0, locals := 44 }) (va_Pc [.ref h, .int (nI j), .int v] (gP (dC, dI) [(cB, .byte)] [(h, .inr (7, [.ref b, .int (nI L)])), (b, .inl (cB, 9000, .inl f))] sz)) (va_Qv (fun u : va_W × gT => ∃ (f2 : Nat → Int32), u = ([(h, .inr (7, [.ref b, .int (nI L2)])), (b, .inl (cB, 9000, .inl f2))], [])) (gB (dC, dI) (va_A [(h, .inr (7, [.ref b, .int (nI L)])), (b, .inl (cB, 9000, .inl f))] sz)) (va_A [(h, .inr (7, [.ref b, .int (nI L)])), (b, .inl (cB, 9000, .inl f))] sz)) 0 0 (va_A [(h, .inr (7, [.ref b, .int (nI L)])), (b, .inl (cB, 9000, .inl f))] sz) := by
  refine Met.ofW (cc := cX7_putPair) (maxL := 3) (ret := none) (by decide) rfl ?_
  intro p e s m args below meth c s₁ B hml hv
  obtain ⟨rfl, hsz, hP, hK, hD0, hN, hZ⟩ := hv
  have hx := B.exec
  have hb := B.bytes
  have hr := B.returns
  have hts := atoms_spec (ws := (wsG (.code yX7_putPair cX7_putPair 3 none))) B.pre
  have hown : s.vm.findClass RX7 = some m.cls := findClass_of_methodNamed B.named
  have hlocks := B.notSynchronized
  subst hsz
  have hD := hD0.self (sz := s.heap.size)
  generalize hAe : va_A [(h, .inr (7, [.ref b, .int (nI L)])), (b, .inl (cB, 9000, .inl f))] s.heap.size = A at hD hZ ⊢
  have hA : ∀ q : Nat, s.heap.size ≤ q → A q := fun q h => by rw [← hAe]; exact Or.inr h
  have hl := lv_entry ([.ref h, .int (nI j), .int v]) (n := 3) (Nat.le_of_ble_eq_true rfl)
  rw [lg_entry_eq]
  generalize (lg_sl ([.ref h, .int (nI j), .int v]) ++ List.replicate (3 - (lg_sl ([.ref h, .int (nI j), .int v])).length) Slot.unset).toArray = ls at hl ⊢
  have hl : lv_has ls 3 [(0, .ref h), (1, .int (nI j)), (2, .int v)] := hl
  refine g_start (A := A) hP (fun H locs hP hS => ?_)
  refine lv_aload_n hx hb dX7_putPair_0 rfl (lv_at hl 0 rfl) ?_
  refine lv_iload_n hx hb dX7_putPair_1 rfl (lv_at hl 1 rfl) ?_
  refine lv_iload_n hx hb dX7_putPair_2 rfl (lv_at hl 2 rfl) ?_
  refine lv_bipush (v := 8) hx hb dX7_putPair_3 (by decide) ?_
  refine lv_ishr hx hb dX7_putPair_5 ?_
  refine g_callv (wr := []) (va_runV (As := [.int (nI j), .int (v >>> (8 &&& 31))]) (rest := []) ⟨hx, hb, hml, hown, hts⟩ (c_putx l dC dI H.size h b cB f L j (v >>> (8 &&& 31)) (max L (j + 1)) (hL) (by omega) (rfl)) (cwV 2 hts (gG_V kw_242 kw_243 kw_244 kw_18 kw_245) rfl rfl rfl (by decide +kernel) ⟨Nat.le_of_ble_eq_true rfl, Nat.le_of_ble_eq_true rfl⟩) (g_preV (C := RX7) (T := TX7) (N := 2) hP hD hK hS hA hN hZ (q0 := 0) rfl rfl [0, 1] (by decide) rfl [0] rfl) rfl rfl hl.1 rfl (lv_room (Nat.le_of_ble_eq_true rfl)) dX7_putPair_6 ⟨Nat.le_of_ble_eq_true rfl, Nat.le_of_ble_eq_true rfl⟩) hP hD hK hS hA [0, 1] [] rfl rfl (by decide) (by decide) (fun w ty1 H locs hw_6 hP hD _ hS => ?_)
  rcases hw_6 with ⟨f2_6, hu⟩
  cases hu
  have hP : va_P (dC, dI) vwCl [(h, .inr (7, [.ref b, .int (nI (max L (j + 1)))])), (b, .inl (cB, 9000, .inl f2_6))] H := hP
  have hD : va_D A [(h, .inr (7, [.ref b, .int (nI (max L (j + 1)))])), (b, .inl (cB, 9000, .inl f2_6))] := hD
  refine lv_aload_n hx hb dX7_putPair_9 rfl (lv_at hl 0 rfl) ?_
  refine lv_iload_n hx hb dX7_putPair_10 rfl (lv_at hl 1 rfl) ?_
  refine lv_iconst (v := 1) hx hb dX7_putPair_11 (by decide) ?_
  refine lv_iadd hx hb dX7_putPair_12 ?_
  refine g_topi (y := nI (j + 1)) (nI_1 j) ?_
  refine lv_iload_n hx hb dX7_putPair_13 rfl (lv_at hl 2 rfl) ?_
  refine g_callv (wr := []) (va_runV (As := [.int (nI (j + 1)), .int v]) (rest := []) ⟨hx, hb, hml, hown, hts⟩ (c_putx l dC dI H.size h b cB f2_6 (max L (j + 1)) (j + 1) v L2 (by omega) (hj) (by omega)) (cwV 2 hts (gG_V kw_242 kw_243 kw_244 kw_18 kw_245) rfl rfl rfl (by decide +kernel) ⟨Nat.le_of_ble_eq_true rfl, Nat.le_of_ble_eq_true rfl⟩) (g_preV (C := RX7) (T := TX7) (N := 2) hP hD hK hS hA hN hZ (q0 := 0) rfl rfl [0, 1] (by decide) rfl [0] rfl) rfl rfl hl.1 rfl (lv_room (Nat.le_of_ble_eq_true rfl)) dX7_putPair_14 ⟨Nat.le_of_ble_eq_true rfl, Nat.le_of_ble_eq_true rfl⟩) hP hD hK hS hA [0, 1] [] rfl rfl (by decide) (by decide) (fun w ty1 H locs hw_14 hP hD _ hS => ?_)
  rcases hw_14 with ⟨f2_14, hu⟩
  cases hu
  have hP : va_P (dC, dI) vwCl [(h, .inr (7, [.ref b, .int (nI L2)])), (b, .inl (cB, 9000, .inl f2_14))] H := hP
  have hD : va_D A [(h, .inr (7, [.ref b, .int (nI L2)])), (b, .inl (cB, 9000, .inl f2_14))] := hD
  have hP9 := hP.sub (ws' := [(h, .inr (7, [.ref b, .int (nI L2)])), (b, .inl (cB, 9000, .inl f2_14))]) [0, 1] rfl
  have hD9 := hD.sub (ws' := [(h, .inr (7, [.ref b, .int (nI L2)])), (b, .inl (cB, 9000, .inl f2_14))]) [0, 1] (by decide) rfl
  have hK9 := hK.sub (tys' := []) [] rfl
  exact W.vret hx hb hr (fun t ht hW => ⟨⟨([(h, .inr (7, [.ref b, .int (nI L2)])), (b, .inl (cB, 9000, .inl f2_14))], []), rfl, ⟨f2_14, rfl⟩, by rw [ht]; exact hP9, va_K.moved hW.alike hK9, hD9⟩, hS.F ht⟩) hS.2.2 dX7_putPair_17

set_option maxHeartbeats 400000 in
set_option maxRecDepth 100000 in
/-- sampleAt -/
theorem c_sampleAt (l : Launch) (dC : Nat → ClassId) (dI : Nat → Nat → Nat) (sz : Nat) (q : Nat) (hq : 1 ≤ q) : Met l yX4_sampleAt (wsG (.code yX4_sampleAt cX4_sampleAt 1 (some .int))) ({ frames := 0, cells := 0, slots := 0, locals := 0 }) (va_Pc [.int (nI q)] (gP (dC, dI) [] [] sz)) (va_Qi (fun (r : Int32) (u : va_W × gT) => u = ([], []) ∧ r = nI (20 + 30 * (q - 1))) (gB (dC, dI) (va_A [] sz)) (va_A [] sz)) 0 0 (va_A [] sz) := by
  refine Met.ofW (cc := cX4_sampleAt) (maxL := 1) (ret := (some .int)) (by decide) rfl ?_
  intro p e s m args below meth c s₁ B hml hv
  obtain ⟨rfl, hsz, hP, hK, hD0, hN, hZ⟩ := hv
  have hx := B.exec
  have hb := B.bytes
  have hr := B.returns
  have hts := atoms_spec (ws := (wsG (.code yX4_sampleAt cX4_sampleAt 1 (some .int)))) B.pre
  have hown : s.vm.findClass RX4 = some m.cls := findClass_of_methodNamed B.named
  have hlocks := B.notSynchronized
  subst hsz
  have hD := hD0.self (sz := s.heap.size)
  generalize hAe : va_A [] s.heap.size = A at hD hZ ⊢
  have hA : ∀ q : Nat, s.heap.size ≤ q → A q := fun q h => by rw [← hAe]; exact Or.inr h
  have hl := lv_entry ([.int (nI q)]) (n := 1) (Nat.le_of_ble_eq_true rfl)
  rw [lg_entry_eq]
  generalize (lg_sl ([.int (nI q)]) ++ List.replicate (1 - (lg_sl ([.int (nI q)])).length) Slot.unset).toArray = ls at hl ⊢
  have hl : lv_has ls 1 [(0, .int (nI q))] := hl
  refine g_start (A := A) hP (fun H locs hP hS => ?_)
  refine lv_bipush (v := 20) hx hb dX4_sampleAt_0 (by decide) ?_
  refine lv_bipush (v := 30) hx hb dX4_sampleAt_2 (by decide) ?_
  refine lv_iload_n hx hb dX4_sampleAt_4 rfl (lv_at hl 0 rfl) ?_
  refine lv_iconst (v := 1) hx hb dX4_sampleAt_5 (by decide) ?_
  refine lv_isub hx hb dX4_sampleAt_6 ?_
  refine g_topi (y := nI (q - 1)) (pk_sub hq) ?_
  refine lv_imul hx hb dX4_sampleAt_7 ?_
  refine g_topi (y := nI (30 * (q - 1))) (pk_mul 30 _) ?_
  refine lv_iadd hx hb dX4_sampleAt_8 ?_
  refine g_topi (y := nI (20 + 30 * (q - 1))) (nI_add 20 _) ?_
  have hP9 := hP.sub (ws' := []) [] rfl
  have hD9 := hD.sub (ws' := []) [] (by decide) rfl
  have hK9 := hK.sub (tys' := []) [] rfl
  exact W.iret (v := nI (20 + 30 * (q - 1))) hx hb hr (fun t ht hW => ⟨⟨nI (20 + 30 * (q - 1)), ([], []), rfl, ⟨rfl, rfl⟩, by rw [ht]; exact hP9, va_K.moved hW.alike hK9, hD9⟩, hS.F ht⟩) hS.2.2 dX4_sampleAt_9

set_option maxHeartbeats 400000 in
set_option maxRecDepth 100000 in
/-- patternsEnd -/
theorem c_patEnd (l : Launch) (dC : Nat → ClassId) (dI : Nat → Nat → Nat) (sz : Nat) (a : Nat) : Met l yX4_patternsEnd (wsG (.code yX4_patternsEnd cX4_patternsEnd 1 (some .int))) ({ frames := 0, cells := 0, slots := 0, locals := 0 }) (va_Pc [.int (nI a)] (gP (dC, dI) [] [] sz)) (va_Qi (fun (r : Int32) (u : va_W × gT) => u = ([], []) ∧ r = nI (1084 + 1024 * a)) (gB (dC, dI) (va_A [] sz)) (va_A [] sz)) 0 0 (va_A [] sz) := by
  refine Met.ofW (cc := cX4_patternsEnd) (maxL := 1) (ret := (some .int)) (by decide) rfl ?_
  intro p e s m args below meth c s₁ B hml hv
  obtain ⟨rfl, hsz, hP, hK, hD0, hN, hZ⟩ := hv
  have hx := B.exec
  have hb := B.bytes
  have hr := B.returns
  have hts := atoms_spec (ws := (wsG (.code yX4_patternsEnd cX4_patternsEnd 1 (some .int)))) B.pre
  have hown : s.vm.findClass RX4 = some m.cls := findClass_of_methodNamed B.named
  have hlocks := B.notSynchronized
  subst hsz
  have hD := hD0.self (sz := s.heap.size)
  generalize hAe : va_A [] s.heap.size = A at hD hZ ⊢
  have hA : ∀ q : Nat, s.heap.size ≤ q → A q := fun q h => by rw [← hAe]; exact Or.inr h
  have hl := lv_entry ([.int (nI a)]) (n := 1) (Nat.le_of_ble_eq_true rfl)
  rw [lg_entry_eq]
  generalize (lg_sl ([.int (nI a)]) ++ List.replicate (1 - (lg_sl ([.int (nI a)])).length) Slot.unset).toArray = ls at hl ⊢
  have hl : lv_has ls 1 [(0, .int (nI a))] := hl
  refine g_start (A := A) hP (fun H locs hP hS => ?_)
  refine lv_sipush (v := 1084) hx hb dX4_patternsEnd_0 (by decide) ?_
  refine lv_sipush (v := 1024) hx hb dX4_patternsEnd_3 (by decide) ?_
  refine lv_iload_n hx hb dX4_patternsEnd_6 rfl (lv_at hl 0 rfl) ?_
  refine lv_imul hx hb dX4_patternsEnd_7 ?_
  refine g_topi (y := nI (1024 * a)) (pk_mul 1024 a) ?_
  refine lv_iadd hx hb dX4_patternsEnd_8 ?_
  refine g_topi (y := nI (1084 + 1024 * a)) (nI_add 1084 _) ?_
  have hP9 := hP.sub (ws' := []) [] rfl
  have hD9 := hD.sub (ws' := []) [] (by decide) rfl
  have hK9 := hK.sub (tys' := []) [] rfl
  exact W.iret (v := nI (1084 + 1024 * a)) hx hb hr (fun t ht hW => ⟨⟨nI (1084 + 1024 * a), ([], []), rfl, ⟨rfl, rfl⟩, by rw [ht]; exact hP9, va_K.moved hW.alike hK9, hD9⟩, hS.F ht⟩) hS.2.2 dX4_patternsEnd_9

set_option maxHeartbeats 400000 in
set_option maxRecDepth 100000 in
/-- cellAt -/
theorem c_cellAt (l : Launch) (dC : Nat → ClassId) (dI : Nat → Nat → Nat) (sz : Nat) (a b d : Nat) : Met l yX4_cellAt (wsG (.code yX4_cellAt cX4_cellAt 3 (some .int))) ({ frames := 1, cells := 0, slots := 0, locals := 20 }) (va_Pc [.int (nI a), .int (nI b), .int (nI d)] (gP (dC, dI) [] [] sz)) (va_Qi (fun (r : Int32) (u : va_W × gT) => u = ([], []) ∧ r = nI (1084 + 1024 * a + (b * 4 + d) * 4)) (gB (dC, dI) (va_A [] sz)) (va_A [] sz)) 0 0 (va_A [] sz) := by
  refine Met.ofW (cc := cX4_cellAt) (maxL := 3) (ret := (some .int)) (by decide) rfl ?_
  intro p e s m args below meth c s₁ B hml hv
  obtain ⟨rfl, hsz, hP, hK, hD0, hN, hZ⟩ := hv
  have hx := B.exec
  have hb := B.bytes
  have hr := B.returns
  have hts := atoms_spec (ws := (wsG (.code yX4_cellAt cX4_cellAt 3 (some .int)))) B.pre
  have hown : s.vm.findClass RX4 = some m.cls := findClass_of_methodNamed B.named
  have hlocks := B.notSynchronized
  subst hsz
  have hD := hD0.self (sz := s.heap.size)
  generalize hAe : va_A [] s.heap.size = A at hD hZ ⊢
  have hA : ∀ q : Nat, s.heap.size ≤ q → A q := fun q h => by rw [← hAe]; exact Or.inr h
  have hl := lv_entry ([.int (nI a), .int (nI b), .int (nI d)]) (n := 3) (Nat.le_of_ble_eq_true rfl)
  rw [lg_entry_eq]
  generalize (lg_sl ([.int (nI a), .int (nI b), .int (nI d)]) ++ List.replicate (3 - (lg_sl ([.int (nI a), .int (nI b), .int (nI d)])).length) Slot.unset).toArray = ls at hl ⊢
  have hl : lv_has ls 3 [(0, .int (nI a)), (1, .int (nI b)), (2, .int (nI d))] := hl
  refine g_start (A := A) hP (fun H locs hP hS => ?_)
  refine lv_iload_n hx hb dX4_cellAt_0 rfl (lv_at hl 0 rfl) ?_
  refine g_calli (wr := []) (va_runS (As := [.int (nI a)]) (rest := []) ⟨hx, hb, hml, hown, hts⟩ (c_patEnd l dC dI H.size a ) (va_cwS 1 hts (gG_S kw_330 kw_331 kw_30 kw_332) rfl rfl rfl (by decide +kernel) ⟨Nat.le_of_ble_eq_true rfl, Nat.le_of_ble_eq_true rfl⟩) (g_preS hP hD hK hS hA hN hZ [] (by decide) rfl [] rfl) rfl rfl hl.1 rfl (lv_room (Nat.le_of_ble_eq_true rfl)) dX4_cellAt_1 ⟨Nat.le_of_ble_eq_true rfl, Nat.le_of_ble_eq_true rfl⟩) hP hD hK hS hA [] [] rfl rfl (by decide) (by decide) (fun r_1 w ty1 H locs hw_1 hP hD _ hS => ?_)
  rcases hw_1 with ⟨hu, hr_1⟩
  cases hu
  have hP : va_P (dC, dI) vwCl [] H := hP
  have hD : va_D A [] := hD
  refine g_topi (y := nI (1084 + 1024 * a)) hr_1 ?_
  refine lv_iload_n hx hb dX4_cellAt_4 rfl (lv_at hl 1 rfl) ?_
  refine lv_iconst (v := 4) hx hb dX4_cellAt_5 (by decide) ?_
  refine lv_imul hx hb dX4_cellAt_6 ?_
  refine g_topi (y := nI (b * 4)) (pk_mul b 4) ?_
  refine lv_iload_n hx hb dX4_cellAt_7 rfl (lv_at hl 2 rfl) ?_
  refine lv_iadd hx hb dX4_cellAt_8 ?_
  refine g_topi (y := nI (b * 4 + d)) (nI_add _ _) ?_
  refine lv_iconst (v := 4) hx hb dX4_cellAt_9 (by decide) ?_
  refine lv_imul hx hb dX4_cellAt_10 ?_
  refine g_topi (y := nI ((b * 4 + d) * 4)) (pk_mul _ 4) ?_
  refine lv_iadd hx hb dX4_cellAt_11 ?_
  refine g_topi (y := nI (1084 + 1024 * a + (b * 4 + d) * 4)) (nI_add _ _) ?_
  have hP9 := hP.sub (ws' := []) [] rfl
  have hD9 := hD.sub (ws' := []) [] (by decide) rfl
  have hK9 := hK.sub (tys' := []) [] rfl
  exact W.iret (v := nI (1084 + 1024 * a + (b * 4 + d) * 4)) hx hb hr (fun t ht hW => ⟨⟨nI (1084 + 1024 * a + (b * 4 + d) * 4), ([], []), rfl, ⟨rfl, rfl⟩, by rw [ht]; exact hP9, va_K.moved hW.alike hK9, hD9⟩, hS.F ht⟩) hS.2.2 dX4_cellAt_12

set_option maxHeartbeats 400000 in
set_option maxRecDepth 100000 in
/-- markByte -/
theorem c_mark (l : Launch) (dC : Nat → ClassId) (dI : Nat → Nat → Nat) (sz : Nat) (a : Nat) (ha : a < 4) : Met l yX4_markByte (wsG (.code yX4_markByte cX4_markByte 1 (some .int))) ({ frames := 1, cells := 0, slots := 0, locals := 21 }) (va_Pc [.int (nI a)] (gP (dC, dI) [] [] sz)) (va_Qi (fun (r : Int32) (u : va_W × gT) => u = ([], []) ∧ r = mkv a) (gB (dC, dI) (va_A [] sz)) (va_A [] sz)) 0 0 (va_A [] sz) := by
  refine Met.ofW (cc := cX4_markByte) (maxL := 1) (ret := (some .int)) (by decide) rfl ?_
  intro p e s m args below meth c s₁ B hml hv
  obtain ⟨rfl, hsz, hP, hK, hD0, hN, hZ⟩ := hv
  have hx := B.exec
  have hb := B.bytes
  have hr := B.returns
  have hts := atoms_spec (ws := (wsG (.code yX4_markByte cX4_markByte 1 (some .int)))) B.pre
  have hown : s.vm.findClass RX4 = some m.cls := findClass_of_methodNamed B.named
  have hlocks := B.notSynchronized
  subst hsz
  have hD := hD0.self (sz := s.heap.size)
  generalize hAe : va_A [] s.heap.size = A at hD hZ ⊢
  have hA : ∀ q : Nat, s.heap.size ≤ q → A q := fun q h => by rw [← hAe]; exact Or.inr h
  have hl := lv_entry ([.int (nI a)]) (n := 1) (Nat.le_of_ble_eq_true rfl)
  rw [lg_entry_eq]
  generalize (lg_sl ([.int (nI a)]) ++ List.replicate (1 - (lg_sl ([.int (nI a)])).length) Slot.unset).toArray = ls at hl ⊢
  have hl : lv_has ls 1 [(0, .int (nI a))] := hl
  refine g_start (A := A) hP (fun H locs hP hS => ?_)
  refine lv_iload_n hx hb dX4_markByte_0 rfl (lv_at hl 0 rfl) ?_
  refine lv_iconst (v := 4) hx hb dX4_markByte_1 (by decide) ?_
  refine g_calli (wr := []) (va_runSN (As := [.int (nI a), .int 4]) (rest := []) ⟨hx, hb, hml, hown, hts⟩ (c_isIn l dC dI H.size (nI a) 4 ) ⟨va_cnB 2 hts (wsG_good kw_248) rfl rfl rfl (hN.1 (.methodLinkNest RX4 18 yX10_isIn RX10) (by decide +kernel)) (hts (.initialized RX10) (List.mem_cons_of_mem _ kw_2)) (by decide +kernel) ⟨Nat.le_of_ble_eq_true rfl, Nat.le_of_ble_eq_true rfl⟩, (hts (.static yX10_isIn) (List.mem_cons_of_mem _ kw_247)), trivial⟩ (g_preS hP hD hK hS hA hN hZ [] (by decide) rfl [] rfl) rfl rfl hl.1 rfl (lv_room (Nat.le_of_ble_eq_true rfl)) dX4_markByte_2 ⟨Nat.le_of_ble_eq_true rfl, Nat.le_of_ble_eq_true rfl⟩) hP hD hK hS hA [] [] rfl rfl (by decide) (by decide) (fun r_2 w ty1 H locs hw_2 hP hD _ hS => ?_)
  rcases hw_2 with ⟨hu, hr_2, h_2⟩ | ⟨hu, hr_2, h_2⟩
  · cases hu
    have hP : va_P (dC, dI) vwCl [] H := hP
    have hD : va_D A [] := hD
    refine g_topi (y := 1) hr_2 ?_
    refine lv_if_eq (tgt := 16) hx hb dX4_markByte_5 (by decide) (fun c_5 => absurd c_5 (by decide)) (fun c_5 => ?_)
    obtain ⟨tz1, hZ1, hT1⟩ := hZ.1
    refine va_gets hx hb hZ1 hS hown (hts (.fieldLink RX4 22 "ModulePlayer$Reader" "MARK" "[I") (List.mem_cons_of_mem _ kw_302)) (fun _ h9 => h9) dX4_markByte_8 ?_
    refine lv_iload_n hx hb dX4_markByte_11 rfl (lv_at hl 0 rfl) ?_
    refine va_ti (v := .int (mkv a)) hx hb hT1 hS (vp_in_nI ha (by decide)) (mkv_v ha) dX4_markByte_12 ?_
    refine lv_goto (tgt := 17) hx hb dX4_markByte_13 (by decide) ?_
    have hP9 := hP.sub (ws' := []) [] rfl
    have hD9 := hD.sub (ws' := []) [] (by decide) rfl
    have hK9 := hK.sub (tys' := []) [] rfl
    exact W.iret (v := mkv a) hx hb hr (fun t ht hW => ⟨⟨mkv a, ([], []), rfl, ⟨rfl, rfl⟩, by rw [ht]; exact hP9, va_K.moved hW.alike hK9, hD9⟩, hS.F ht⟩) hS.2.2 dX4_markByte_17
  exact False.elim (h_2 (isin0 ha (by decide)))

set_option maxHeartbeats 400000 in
set_option maxRecDepth 100000 in
/-- countPatterns of a new one -/
theorem c_count1 (l : Launch) (dC : Nat → ClassId) (dI : Nat → Nat → Nat) (sz : Nat) (h ce pl : Nat) (cI : ClassId) (x3 : Int32) : Met l yX6_countPatterns (wsG (.code yX6_countPatterns cX6_countPatterns 3 (some .int))) ({ frames := 1, cells := 0, slots := 0, locals := 13 }) (va_Pc [.ref h] (gP (dC, dI) [(cI, .int)] [(h, .inr (6, [.ref ce, .ref pl, .int 1, .int x3])), (pl, .inl (cI, 128, .inl (fun _ => 0)))] sz)) (va_Qi (fun (r : Int32) (u : va_W × gT) => u = ([(h, .inr (6, [.ref ce, .ref pl, .int 1, .int x3])), (pl, .inl (cI, 128, .inl (fun _ => 0)))], []) ∧ r = 1) (gB (dC, dI) (va_A [(h, .inr (6, [.ref ce, .ref pl, .int 1, .int x3])), (pl, .inl (cI, 128, .inl (fun _ => 0)))] sz)) (va_A [(h, .inr (6, [.ref ce, .ref pl, .int 1, .int x3])), (pl, .inl (cI, 128, .inl (fun _ => 0)))] sz)) 0 0 (va_A [(h, .inr (6, [.ref ce, .ref pl, .int 1, .int x3])), (pl, .inl (cI, 128, .inl (fun _ => 0)))] sz) := by
  refine Met.ofW (cc := cX6_countPatterns) (maxL := 3) (ret := (some .int)) (by decide) rfl ?_
  intro p e s m args below meth c s₁ B hml hv
  obtain ⟨rfl, hsz, hP, hK, hD0, hN, hZ⟩ := hv
  have hx := B.exec
  have hb := B.bytes
  have hr := B.returns
  have hts := atoms_spec (ws := (wsG (.code yX6_countPatterns cX6_countPatterns 3 (some .int)))) B.pre
  have hown : s.vm.findClass RX6 = some m.cls := findClass_of_methodNamed B.named
  have hlocks := B.notSynchronized
  subst hsz
  have hD := hD0.self (sz := s.heap.size)
  generalize hAe : va_A [(h, .inr (6, [.ref ce, .ref pl, .int 1, .int x3])), (pl, .inl (cI, 128, .inl (fun _ => 0)))] s.heap.size = A at hD hZ ⊢
  have hA : ∀ q : Nat, s.heap.size ≤ q → A q := fun q h => by rw [← hAe]; exact Or.inr h
  have hl := lv_entry ([.ref h]) (n := 3) (Nat.le_of_ble_eq_true rfl)
  rw [lg_entry_eq]
  generalize (lg_sl ([.ref h]) ++ List.replicate (3 - (lg_sl ([.ref h])).length) Slot.unset).toArray = ls at hl ⊢
  have hl : lv_has ls 3 [(0, .ref h)] := hl
  refine g_start (A := A) hP (fun H locs hP hS => ?_)
  refine lv_iconst (v := 0) hx hb dX6_countPatterns_0 (by decide) ?_
  refine lv_istore_n (lv' := [(1, .int 0), (0, .ref h)]) hx hb dX6_countPatterns_1 rfl hl (by decide) rfl (fun ls hl => ?_)
  refine lv_iconst (v := 0) hx hb dX6_countPatterns_2 (by decide) ?_
  refine lv_istore_n (lv' := [(2, .int 0), (1, .int 0), (0, .ref h)]) hx hb dX6_countPatterns_3 rfl hl (by decide) rfl (fun ls hl => ?_)
  refine lv_iload_n hx hb dX6_countPatterns_4 rfl (lv_at hl 0 rfl) ?_
  refine lv_aload_n hx hb dX6_countPatterns_5 rfl (lv_at hl 2 rfl) ?_
  refine va_get (D := (dC, dI)) (ci := 6) (v := .int 1) (C := RX6) (T := TX6) (N := 4) hx hb hts iwX6 hown hK hP 0 rfl rfl 2 (by decide) (hts (.fieldLink RX6 18 "ModulePlayer$Score" "length" "I") (List.mem_cons_of_mem _ kw_67)) (fun _ h9 => h9) rfl dX6_countPatterns_6 ?_
  refine lv_icmp_ge (tgt := 36) hx hb dX6_countPatterns_9 (by decide) (fun c_9 => absurd c_9 (by decide)) (fun c_9 => ?_)
  refine lv_iload_n hx hb dX6_countPatterns_12 rfl (lv_at hl 0 rfl) ?_
  refine lv_sipush (v := 128) hx hb dX6_countPatterns_13 (by decide) ?_
  refine lv_icmp_ge (tgt := 36) hx hb dX6_countPatterns_16 (by decide) (fun c_16 => absurd c_16 (by decide)) (fun c_16 => ?_)
  refine lv_iload_n hx hb dX6_countPatterns_19 rfl (lv_at hl 1 rfl) ?_
  refine lv_aload_n hx hb dX6_countPatterns_20 rfl (lv_at hl 2 rfl) ?_
  refine va_get (D := (dC, dI)) (ci := 6) (v := .ref pl) (C := RX6) (T := TX6) (N := 4) hx hb hts iwX6 hown hK hP 0 rfl rfl 1 (by decide) (hts (.fieldLink RX6 15 "ModulePlayer$Score" "places" "[I") (List.mem_cons_of_mem _ kw_66)) (fun _ h9 => h9) rfl dX6_countPatterns_21 ?_
  refine lv_iload_n hx hb dX6_countPatterns_24 rfl (lv_at hl 0 rfl) ?_
  refine g_iald hx hb hK hP 1 0 rfl rfl 0 (by decide) (by unfold vp_in; decide) dX6_countPatterns_25 ?_
  refine va_mmax hx hb (by rw [hml]; exact hl.1.symm) hown (hts (.methodLink RX6 34 Lib.Math.max.name) (List.mem_cons_of_mem _ kw_350)) (hts (.static Lib.Math.max.name) (List.mem_cons_of_mem _ kw_102)) (hts (.initialized "java/lang/Math") (List.mem_cons_of_mem _ kw_103)) (hts (.code Lib.Math.max.name Lib.Math.max.code 2 (some .int)) (List.mem_cons_of_mem _ kw_104)) (Nat.le_of_ble_eq_true rfl) (Nat.le_of_ble_eq_true rfl) (Nat.le_of_ble_eq_true rfl) (Nat.le_of_ble_eq_true rfl) dX6_countPatterns_26 ?_
  refine g_topi (y := 0) (by decide) ?_
  refine lv_istore_n (lv' := [(1, .int 0), (2, .int 0), (0, .ref h)]) hx hb dX6_countPatterns_29 rfl hl (by decide) rfl (fun ls hl => ?_)
  refine lv_iinc (v := 1) (lv' := [(2, .int 1), (1, .int 0), (0, .ref h)]) hx hb dX6_countPatterns_30 hl (k := 1) rfl (by decide) (by decide) rfl (fun ls hl => ?_)
  refine lv_goto (tgt := 4) hx hb dX6_countPatterns_33 (by decide) ?_
  refine lv_iload_n hx hb dX6_countPatterns_4 rfl (lv_at hl 0 rfl) ?_
  refine lv_aload_n hx hb dX6_countPatterns_5 rfl (lv_at hl 2 rfl) ?_
  refine va_get (D := (dC, dI)) (ci := 6) (v := .int 1) (C := RX6) (T := TX6) (N := 4) hx hb hts iwX6 hown hK hP 0 rfl rfl 2 (by decide) (hts (.fieldLink RX6 18 "ModulePlayer$Score" "length" "I") (List.mem_cons_of_mem _ kw_67)) (fun _ h9 => h9) rfl dX6_countPatterns_6 ?_
  refine lv_icmp_ge (tgt := 36) hx hb dX6_countPatterns_9 (by decide) (fun c_9_2 => ?_) (fun c_9_2 => absurd c_9_2 (by decide))
  refine lv_iload_n hx hb dX6_countPatterns_36 rfl (lv_at hl 1 rfl) ?_
  refine lv_iconst (v := 1) hx hb dX6_countPatterns_37 (by decide) ?_
  refine lv_iadd hx hb dX6_countPatterns_38 ?_
  refine g_topi (y := 1) (by decide) ?_
  have hP9 := hP.sub (ws' := [(h, .inr (6, [.ref ce, .ref pl, .int 1, .int x3])), (pl, .inl (cI, 128, .inl (fun _ => 0)))]) [0, 1] rfl
  have hD9 := hD.sub (ws' := [(h, .inr (6, [.ref ce, .ref pl, .int 1, .int x3])), (pl, .inl (cI, 128, .inl (fun _ => 0)))]) [0, 1] (by decide) rfl
  have hK9 := hK.sub (tys' := []) [] rfl
  exact W.iret (v := 1) hx hb hr (fun t ht hW => ⟨⟨1, ([(h, .inr (6, [.ref ce, .ref pl, .int 1, .int x3])), (pl, .inl (cI, 128, .inl (fun _ => 0)))], []), rfl, ⟨rfl, rfl⟩, by rw [ht]; exact hP9, va_K.moved hW.alike hK9, hD9⟩, hS.F ht⟩) hS.2.2 dX6_countPatterns_39

set_option maxHeartbeats 400000 in
set_option maxRecDepth 100000 in
/-- writeCell at the end -/
theorem c_writeCell (l : Launch) (dC : Nat → ClassId) (dI : Nat → Nat → Nat) (sz : Nat) (ta tb : Nat) (cB : ClassId) (f : Nat → Int32) (j : Nat) (v : Int32) (hj : j + 4 ≤ 9000) : Met l yX9_writeCell (wsG (.code yX9_writeCell cX9_writeCell 5 none)) ({ frames := 2, cells := 0, slots := 0, locals := 44 }) (va_Pc [.ref ta, .int (nI j), .int v] (gP (dC, dI) [(cB, .byte)] [(ta, .inr (7, [.ref tb, .int (nI j)])), (tb, .inl (cB, 9000, .inl f))] sz)) (va_Qv (fun u : va_W × gT => ∃ (f2 : Nat → Int32), u = ([(ta, .inr (7, [.ref tb, .int (nI (j + 4))])), (tb, .inl (cB, 9000, .inl f2))], [])) (gB (dC, dI) (va_A [(ta, .inr (7, [.ref tb, .int (nI j)])), (tb, .inl (cB, 9000, .inl f))] sz)) (va_A [(ta, .inr (7, [.ref tb, .int (nI j)])), (tb, .inl (cB, 9000, .inl f))] sz)) 0 0 (va_A [(ta, .inr (7, [.ref tb, .int (nI j)])), (tb, .inl (cB, 9000, .inl f))] sz) := by
  refine Met.ofW (cc := cX9_writeCell) (maxL := 5) (ret := none) (by decide) rfl ?_
  intro p e s m args below meth c s₁ B hml hv
  obtain ⟨rfl, hsz, hP, hK, hD0, hN, hZ⟩ := hv
  have hx := B.exec
  have hb := B.bytes
  have hr := B.returns
  have hts := atoms_spec (ws := (wsG (.code yX9_writeCell cX9_writeCell 5 none))) B.pre
  have hown : s.vm.findClass RX9 = some m.cls := findClass_of_methodNamed B.named
  have hlocks := B.notSynchronized
  subst hsz
  have hD := hD0.self (sz := s.heap.size)
  generalize hAe : va_A [(ta, .inr (7, [.ref tb, .int (nI j)])), (tb, .inl (cB, 9000, .inl f))] s.heap.size = A at hD hZ ⊢
  have hA : ∀ q : Nat, s.heap.size ≤ q → A q := fun q h => by rw [← hAe]; exact Or.inr h
  have hl := lv_entry ([.ref ta, .int (nI j), .int v]) (n := 5) (Nat.le_of_ble_eq_true rfl)
  rw [lg_entry_eq]
  generalize (lg_sl ([.ref ta, .int (nI j), .int v]) ++ List.replicate (5 - (lg_sl ([.ref ta, .int (nI j), .int v])).length) Slot.unset).toArray = ls at hl ⊢
  have hl : lv_has ls 5 [(0, .ref ta), (1, .int (nI j)), (2, .int v)] := hl
  refine g_start (A := A) hP (fun H locs hP hS => ?_)
  refine lv_iload_n hx hb dX9_writeCell_0 rfl (lv_at hl 2 rfl) ?_
  refine lv_bipush (v := 17) hx hb dX9_writeCell_1 (by decide) ?_
  refine lv_ishr hx hb dX9_writeCell_3 ?_
  refine lv_topi (fun u3 eu3 => ?_)
  refine lv_istore_n (lv' := [(3, .int u3), (0, .ref ta), (1, .int (nI j)), (2, .int v)]) hx hb dX9_writeCell_4 rfl hl (by decide) rfl (fun ls hl => ?_)
  refine lv_iload_n hx hb dX9_writeCell_5 rfl (lv_at hl 3 rfl) ?_
  refine lv_bipush (v := 12) hx hb dX9_writeCell_6 (by decide) ?_
  refine lv_ishr hx hb dX9_writeCell_8 ?_
  refine lv_topi (fun u8 eu8 => ?_)
  refine lv_bipush (v := 31) hx hb dX9_writeCell_9 (by decide) ?_
  refine lv_iand hx hb dX9_writeCell_11 ?_
  refine lv_topi (fun u11 eu11 => ?_)
  refine lv_istore (lv' := [(4, .int u11), (3, .int u3), (0, .ref ta), (1, .int (nI j)), (2, .int v)]) hx hb dX9_writeCell_12 hl (by decide) rfl (fun ls hl => ?_)
  refine lv_aload_n hx hb dX9_writeCell_14 rfl (lv_at hl 2 rfl) ?_
  refine lv_iload_n hx hb dX9_writeCell_15 rfl (lv_at hl 3 rfl) ?_
  refine lv_iload hx hb dX9_writeCell_16 (lv_at hl 0 rfl) ?_
  refine lv_bipush (v := 16) hx hb dX9_writeCell_18 (by decide) ?_
  refine lv_iand hx hb dX9_writeCell_20 ?_
  refine lv_topi (fun u20 eu20 => ?_)
  refine lv_iload_n hx hb dX9_writeCell_21 rfl (lv_at hl 1 rfl) ?_
  refine lv_bipush (v := 8) hx hb dX9_writeCell_22 (by decide) ?_
  refine lv_ishr hx hb dX9_writeCell_24 ?_
  refine lv_topi (fun u24 eu24 => ?_)
  refine lv_ior hx hb dX9_writeCell_25 ?_
  refine lv_topi (fun u25 eu25 => ?_)
  refine g_callv (wr := []) (va_runV (As := [.int (nI j), .int u25]) (rest := []) ⟨hx, hb, hml, hown, hts⟩ (c_putx l dC dI H.size ta tb cB f j j u25 (j + 1) (by omega) (by omega) (by omega)) (cwV 2 hts (gG_V kw_474 kw_243 kw_244 kw_18 kw_245) rfl rfl rfl (by decide +kernel) ⟨Nat.le_of_ble_eq_true rfl, Nat.le_of_ble_eq_true rfl⟩) (g_preV (C := RX7) (T := TX7) (N := 2) hP hD hK hS hA hN hZ (q0 := 0) rfl rfl [0, 1] (by decide) rfl [0] rfl) rfl rfl hl.1 rfl (lv_room (Nat.le_of_ble_eq_true rfl)) dX9_writeCell_26 ⟨Nat.le_of_ble_eq_true rfl, Nat.le_of_ble_eq_true rfl⟩) hP hD hK hS hA [0, 1] [] rfl rfl (by decide) (by decide) (fun w ty1 H locs hw_26 hP hD _ hS => ?_)
  rcases hw_26 with ⟨f2_26, hu⟩
  cases hu
  have hP : va_P (dC, dI) vwCl [(ta, .inr (7, [.ref tb, .int (nI (j + 1))])), (tb, .inl (cB, 9000, .inl f2_26))] H := hP
  have hD : va_D A [(ta, .inr (7, [.ref tb, .int (nI (j + 1))])), (tb, .inl (cB, 9000, .inl f2_26))] := hD
  refine lv_aload_n hx hb dX9_writeCell_29 rfl (lv_at hl 2 rfl) ?_
  refine lv_iload_n hx hb dX9_writeCell_30 rfl (lv_at hl 3 rfl) ?_
  refine lv_iconst (v := 1) hx hb dX9_writeCell_31 (by decide) ?_
  refine lv_iadd hx hb dX9_writeCell_32 ?_
  refine g_topi (y := nI (j + 1)) (nI_1 j) ?_
  refine lv_iload_n hx hb dX9_writeCell_33 rfl (lv_at hl 1 rfl) ?_
  refine lv_sipush (v := 255) hx hb dX9_writeCell_34 (by decide) ?_
  refine lv_iand hx hb dX9_writeCell_37 ?_
  refine lv_topi (fun u37 eu37 => ?_)
  refine g_callv (wr := []) (va_runV (As := [.int (nI (j + 1)), .int u37]) (rest := []) ⟨hx, hb, hml, hown, hts⟩ (c_putx l dC dI H.size ta tb cB f2_26 (j + 1) (j + 1) u37 (j + 2) (by omega) (by omega) (by omega)) (cwV 2 hts (gG_V kw_474 kw_243 kw_244 kw_18 kw_245) rfl rfl rfl (by decide +kernel) ⟨Nat.le_of_ble_eq_true rfl, Nat.le_of_ble_eq_true rfl⟩) (g_preV (C := RX7) (T := TX7) (N := 2) hP hD hK hS hA hN hZ (q0 := 0) rfl rfl [0, 1] (by decide) rfl [0] rfl) rfl rfl hl.1 rfl (lv_room (Nat.le_of_ble_eq_true rfl)) dX9_writeCell_38 ⟨Nat.le_of_ble_eq_true rfl, Nat.le_of_ble_eq_true rfl⟩) hP hD hK hS hA [0, 1] [] rfl rfl (by decide) (by decide) (fun w ty1 H locs hw_38 hP hD _ hS => ?_)
  rcases hw_38 with ⟨f2_38, hu⟩
  cases hu
  have hP : va_P (dC, dI) vwCl [(ta, .inr (7, [.ref tb, .int (nI (j + 2))])), (tb, .inl (cB, 9000, .inl f2_38))] H := hP
  have hD : va_D A [(ta, .inr (7, [.ref tb, .int (nI (j + 2))])), (tb, .inl (cB, 9000, .inl f2_38))] := hD
  refine lv_aload_n hx hb dX9_writeCell_41 rfl (lv_at hl 2 rfl) ?_
  refine lv_iload_n hx hb dX9_writeCell_42 rfl (lv_at hl 3 rfl) ?_
  refine lv_iconst (v := 2) hx hb dX9_writeCell_43 (by decide) ?_
  refine lv_iadd hx hb dX9_writeCell_44 ?_
  refine g_topi (y := nI (j + 2)) (nI_add j 2) ?_
  refine lv_iload hx hb dX9_writeCell_45 (lv_at hl 0 rfl) ?_
  refine lv_bipush (v := 15) hx hb dX9_writeCell_47 (by decide) ?_
  refine lv_iand hx hb dX9_writeCell_49 ?_
  refine lv_topi (fun u49 eu49 => ?_)
  refine lv_iconst (v := 4) hx hb dX9_writeCell_50 (by decide) ?_
  refine lv_ishl hx hb dX9_writeCell_51 ?_
  refine lv_topi (fun u51 eu51 => ?_)
  refine lv_iload_n hx hb dX9_writeCell_52 rfl (lv_at hl 4 rfl) ?_
  refine lv_bipush (v := 8) hx hb dX9_writeCell_53 (by decide) ?_
  refine lv_ishr hx hb dX9_writeCell_55 ?_
  refine lv_topi (fun u55 eu55 => ?_)
  refine lv_bipush (v := 15) hx hb dX9_writeCell_56 (by decide) ?_
  refine lv_iand hx hb dX9_writeCell_58 ?_
  refine lv_topi (fun u58 eu58 => ?_)
  refine lv_ior hx hb dX9_writeCell_59 ?_
  refine lv_topi (fun u59 eu59 => ?_)
  refine g_callv (wr := []) (va_runV (As := [.int (nI (j + 2)), .int u59]) (rest := []) ⟨hx, hb, hml, hown, hts⟩ (c_putx l dC dI H.size ta tb cB f2_38 (j + 2) (j + 2) u59 (j + 3) (by omega) (by omega) (by omega)) (cwV 2 hts (gG_V kw_474 kw_243 kw_244 kw_18 kw_245) rfl rfl rfl (by decide +kernel) ⟨Nat.le_of_ble_eq_true rfl, Nat.le_of_ble_eq_true rfl⟩) (g_preV (C := RX7) (T := TX7) (N := 2) hP hD hK hS hA hN hZ (q0 := 0) rfl rfl [0, 1] (by decide) rfl [0] rfl) rfl rfl hl.1 rfl (lv_room (Nat.le_of_ble_eq_true rfl)) dX9_writeCell_60 ⟨Nat.le_of_ble_eq_true rfl, Nat.le_of_ble_eq_true rfl⟩) hP hD hK hS hA [0, 1] [] rfl rfl (by decide) (by decide) (fun w ty1 H locs hw_60 hP hD _ hS => ?_)
  rcases hw_60 with ⟨f2_60, hu⟩
  cases hu
  have hP : va_P (dC, dI) vwCl [(ta, .inr (7, [.ref tb, .int (nI (j + 3))])), (tb, .inl (cB, 9000, .inl f2_60))] H := hP
  have hD : va_D A [(ta, .inr (7, [.ref tb, .int (nI (j + 3))])), (tb, .inl (cB, 9000, .inl f2_60))] := hD
  refine lv_aload_n hx hb dX9_writeCell_63 rfl (lv_at hl 2 rfl) ?_
  refine lv_iload_n hx hb dX9_writeCell_64 rfl (lv_at hl 3 rfl) ?_
  refine lv_iconst (v := 3) hx hb dX9_writeCell_65 (by decide) ?_
  refine lv_iadd hx hb dX9_writeCell_66 ?_
  refine g_topi (y := nI (j + 3)) (nI_add j 3) ?_
  refine lv_iload_n hx hb dX9_writeCell_67 rfl (lv_at hl 4 rfl) ?_
  refine lv_sipush (v := 255) hx hb dX9_writeCell_68 (by decide) ?_
  refine lv_iand hx hb dX9_writeCell_71 ?_
  refine lv_topi (fun u71 eu71 => ?_)
  refine g_callv (wr := []) (va_runV (As := [.int (nI (j + 3)), .int u71]) (rest := []) ⟨hx, hb, hml, hown, hts⟩ (c_putx l dC dI H.size ta tb cB f2_60 (j + 3) (j + 3) u71 (j + 4) (by omega) (by omega) (by omega)) (cwV 2 hts (gG_V kw_474 kw_243 kw_244 kw_18 kw_245) rfl rfl rfl (by decide +kernel) ⟨Nat.le_of_ble_eq_true rfl, Nat.le_of_ble_eq_true rfl⟩) (g_preV (C := RX7) (T := TX7) (N := 2) hP hD hK hS hA hN hZ (q0 := 0) rfl rfl [0, 1] (by decide) rfl [0] rfl) rfl rfl hl.1 rfl (lv_room (Nat.le_of_ble_eq_true rfl)) dX9_writeCell_72 ⟨Nat.le_of_ble_eq_true rfl, Nat.le_of_ble_eq_true rfl⟩) hP hD hK hS hA [0, 1] [] rfl rfl (by decide) (by decide) (fun w ty1 H locs hw_72 hP hD _ hS => ?_)
  rcases hw_72 with ⟨f2_72, hu⟩
  cases hu
  have hP : va_P (dC, dI) vwCl [(ta, .inr (7, [.ref tb, .int (nI (j + 4))])), (tb, .inl (cB, 9000, .inl f2_72))] H := hP
  have hD : va_D A [(ta, .inr (7, [.ref tb, .int (nI (j + 4))])), (tb, .inl (cB, 9000, .inl f2_72))] := hD
  have hP9 := hP.sub (ws' := [(ta, .inr (7, [.ref tb, .int (nI (j + 4))])), (tb, .inl (cB, 9000, .inl f2_72))]) [0, 1] rfl
  have hD9 := hD.sub (ws' := [(ta, .inr (7, [.ref tb, .int (nI (j + 4))])), (tb, .inl (cB, 9000, .inl f2_72))]) [0, 1] (by decide) rfl
  have hK9 := hK.sub (tys' := []) [] rfl
  exact W.vret hx hb hr (fun t ht hW => ⟨⟨([(ta, .inr (7, [.ref tb, .int (nI (j + 4))])), (tb, .inl (cB, 9000, .inl f2_72))], []), rfl, ⟨f2_72, rfl⟩, by rw [ht]; exact hP9, va_K.moved hW.alike hK9, hD9⟩, hS.F ht⟩) hS.2.2 dX9_writeCell_75

set_option maxHeartbeats 400000 in
set_option maxRecDepth 100000 in
/-- writePattern at the end -/
theorem c_writePattern (l : Launch) (dC : Nat → ClassId) (dI : Nat → Nat → Nat) (sz : Nat) (ta tb aS ce pl : Nat) (cB cI : ClassId) (f fc : Nat → Int32) (x2 x3 : Int32) (a L : Nat) (ha : a < 8) (hL : L = 1084 + 1024 * a) (hL9 : L + 1024 ≤ 9000) : Met l yX9_writePattern (wsG (.code yX9_writePattern cX9_writePattern 6 none)) ({ frames := 3, cells := 0, slots := 0, locals := 68 }) (va_Pc [.ref ta, .ref aS, .int (nI a)] (gP (dC, dI) [(cB, .byte), (cI, .int)] [(ta, .inr (7, [.ref tb, .int (nI L)])), (tb, .inl (cB, 9000, .inl f)), (aS, .inr (6, [.ref ce, .ref pl, .int x2, .int x3])), (ce, .inl (cI, 2048, .inl fc))] sz)) (va_Qv (fun u : va_W × gT => ∃ (f2 : Nat → Int32), u = ([(ta, .inr (7, [.ref tb, .int (nI (L + 1024))])), (tb, .inl (cB, 9000, .inl f2)), (aS, .inr (6, [.ref ce, .ref pl, .int x2, .int x3])), (ce, .inl (cI, 2048, .inl fc))], [])) (gB (dC, dI) (va_A [(ta, .inr (7, [.ref tb, .int (nI L)])), (tb, .inl (cB, 9000, .inl f)), (aS, .inr (6, [.ref ce, .ref pl, .int x2, .int x3])), (ce, .inl (cI, 2048, .inl fc))] sz)) (va_A [(ta, .inr (7, [.ref tb, .int (nI L)])), (tb, .inl (cB, 9000, .inl f)), (aS, .inr (6, [.ref ce, .ref pl, .int x2, .int x3])), (ce, .inl (cI, 2048, .inl fc))] sz)) 0 0 (va_A [(ta, .inr (7, [.ref tb, .int (nI L)])), (tb, .inl (cB, 9000, .inl f)), (aS, .inr (6, [.ref ce, .ref pl, .int x2, .int x3])), (ce, .inl (cI, 2048, .inl fc))] sz) := by
  refine Met.ofW (cc := cX9_writePattern) (maxL := 6) (ret := none) (by decide) rfl ?_
  intro p e s m args below meth c s₁ B hml hv
  obtain ⟨rfl, hsz, hP, hK, hD0, hN, hZ⟩ := hv
  have hx := B.exec
  have hb := B.bytes
  have hr := B.returns
  have hts := atoms_spec (ws := (wsG (.code yX9_writePattern cX9_writePattern 6 none))) B.pre
  have hown : s.vm.findClass RX9 = some m.cls := findClass_of_methodNamed B.named
  have hlocks := B.notSynchronized
  subst hsz
  have hD := hD0.self (sz := s.heap.size)
  generalize hAe : va_A [(ta, .inr (7, [.ref tb, .int (nI L)])), (tb, .inl (cB, 9000, .inl f)), (aS, .inr (6, [.ref ce, .ref pl, .int x2, .int x3])), (ce, .inl (cI, 2048, .inl fc))] s.heap.size = A at hD hZ ⊢
  have hA : ∀ q : Nat, s.heap.size ≤ q → A q := fun q h => by rw [← hAe]; exact Or.inr h
  have hl := lv_entry ([.ref ta, .ref aS, .int (nI a)]) (n := 6) (Nat.le_of_ble_eq_true rfl)
  rw [lg_entry_eq]
  generalize (lg_sl ([.ref ta, .ref aS, .int (nI a)]) ++ List.replicate (6 - (lg_sl ([.ref ta, .ref aS, .int (nI a)])).length) Slot.unset).toArray = ls at hl ⊢
  have hl : lv_has ls 6 [(0, .ref ta), (1, .ref aS), (2, .int (nI a))] := hl
  refine g_start (A := A) hP (fun H locs hP hS => ?_)
  refine lv_iconst (v := 0) hx hb dX9_writePattern_0 (by decide) ?_
  refine lv_istore_n (lv' := [(3, .int 0), (0, .ref ta), (1, .ref aS), (2, .int (nI a))]) hx hb dX9_writePattern_1 rfl hl (by decide) rfl (fun ls hl => ?_)
  have LP2 : ∀ (fu2 : Nat) (r : Nat) (g0 : Nat → Int32) (hr64 : r ≤ 64) (hm2 : 64 - r < fu2) (H : Heap) (locs : List Loc), va_P (dC, dI) vwCl [(ta, .inr (7, [.ref tb, .int (nI (L + 16 * r))])), (tb, .inl (cB, 9000, .inl g0)), (aS, .inr (6, [.ref ce, .ref pl, .int x2, .int x3])), (ce, .inl (cI, 2048, .inl fc))] H → va_D A [(ta, .inr (7, [.ref tb, .int (nI (L + 16 * r))])), (tb, .inl (cB, 9000, .inl g0)), (aS, .inr (6, [.ref ce, .ref pl, .int x2, .int x3])), (ce, .inl (cI, 2048, .inl fc))] → va_S A s.heap H locs → ∀ ls : Array Slot, lv_has ls 6 [(3, .int (nI r)), (0, .ref ta), (1, .ref aS), (2, .int (nI a))] → W p l e ({ frames := 3, cells := 0, slots := 0, locals := 68 }) s m ([.ref ta, .ref aS, .int (nI a)] : List Value).toArray below meth c H locs (0) (0) (MQ below (va_Qv (fun u : va_W × gT => ∃ (f2 : Nat → Int32), u = ([(ta, .inr (7, [.ref tb, .int (nI (L + 1024))])), (tb, .inl (cB, 9000, .inl f2)), (aS, .inr (6, [.ref ce, .ref pl, .int x2, .int x3])), (ce, .inl (cI, 2048, .inl fc))], [])) (gB (dC, dI) A) A) ([.ref ta, .ref aS, .int (nI a)] : List Value).toArray s 0 0 A) (F0 m 2 ls []) := by
    intro fu2
    induction fu2 with
    | zero => intro r g0 hr64 hm2; exact absurd hm2 (Nat.not_lt_zero _)
    | succ fu2 ih2 =>
      intro r g0 hr64 hm2 H locs hP hD hS ls hl
      refine lv_iload_n hx hb dX9_writePattern_2 rfl (lv_at hl 0 rfl) ?_
      refine lv_bipush (v := 64) hx hb dX9_writePattern_3 (by decide) ?_
      refine lv_icmp_ge (tgt := 52) hx hb dX9_writePattern_5 (by decide) (fun c_5 => ?_) (fun c_5 => ?_)
      · obtain rfl : r = 64 := by have := nI_le' (a := 64) c_5 (by decide) (by omega); omega
        have hP9 := hP.sub (ws' := [(ta, .inr (7, [.ref tb, .int (nI (L + 16 * 64))])), (tb, .inl (cB, 9000, .inl g0)), (aS, .inr (6, [.ref ce, .ref pl, .int x2, .int x3])), (ce, .inl (cI, 2048, .inl fc))]) [0, 1, 2, 3] rfl
        have hD9 := hD.sub (ws' := [(ta, .inr (7, [.ref tb, .int (nI (L + 16 * 64))])), (tb, .inl (cB, 9000, .inl g0)), (aS, .inr (6, [.ref ce, .ref pl, .int x2, .int x3])), (ce, .inl (cI, 2048, .inl fc))]) [0, 1, 2, 3] (by decide) rfl
        have hK9 := hK.sub (tys' := []) [] rfl
        exact W.vret hx hb hr (fun t ht hW => ⟨⟨([(ta, .inr (7, [.ref tb, .int (nI (L + 16 * 64))])), (tb, .inl (cB, 9000, .inl g0)), (aS, .inr (6, [.ref ce, .ref pl, .int x2, .int x3])), (ce, .inl (cI, 2048, .inl fc))], []), rfl, ⟨g0, rfl⟩, by rw [ht]; exact hP9, va_K.moved hW.alike hK9, hD9⟩, hS.F ht⟩) hS.2.2 dX9_writePattern_52
      have hr3 : r < 64 := by have := nI_nle' (a := 64) c_5 (by omega); omega
      refine lv_iconst (v := 0) hx hb dX9_writePattern_8 (by decide) ?_
      refine lv_istore (lv' := [(4, .int 0), (3, .int (nI r)), (0, .ref ta), (1, .ref aS), (2, .int (nI a))]) hx hb dX9_writePattern_9 hl (by decide) rfl (fun ls hl => ?_)
      refine lv_iload hx hb dX9_writePattern_11 (lv_at hl 0 rfl) ?_
      refine lv_iconst (v := 4) hx hb dX9_writePattern_13 (by decide) ?_
      refine lv_icmp_ge (tgt := 46) hx hb dX9_writePattern_14 (by decide) (fun c_14 => absurd c_14 (by decide)) (fun c_14 => ?_)
      refine lv_iload_n hx hb dX9_writePattern_17 rfl (lv_at hl 4 rfl) ?_
      refine lv_iload_n hx hb dX9_writePattern_18 rfl (lv_at hl 1 rfl) ?_
      refine lv_iload hx hb dX9_writePattern_19 (lv_at hl 0 rfl) ?_
      refine g_calli (wr := [(ta, .inr (7, [.ref tb, .int (nI (L + 16 * r))])), (tb, .inl (cB, 9000, .inl g0)), (aS, .inr (6, [.ref ce, .ref pl, .int x2, .int x3])), (ce, .inl (cI, 2048, .inl fc))]) (va_runS (As := [.int (nI a), .int (nI r), .int 0]) (rest := []) ⟨hx, hb, hml, hown, hts⟩ (c_cellAt l dC dI H.size a r 0 ) (va_cwS 3 hts (gG_S kw_480 kw_355 kw_30 kw_356) rfl rfl rfl (by decide +kernel) ⟨Nat.le_of_ble_eq_true rfl, Nat.le_of_ble_eq_true rfl⟩) (g_preS hP hD hK hS hA hN hZ [] (by decide) rfl [] rfl) rfl rfl hl.1 rfl (lv_room (Nat.le_of_ble_eq_true rfl)) dX9_writePattern_21 ⟨Nat.le_of_ble_eq_true rfl, Nat.le_of_ble_eq_true rfl⟩) hP hD hK hS hA [] [0, 1, 2, 3] rfl rfl (by decide) (by decide) (fun r_21 w ty1 H locs hw_21 hP hD _ hS => ?_)
      rcases hw_21 with ⟨hu, hr_21⟩
      cases hu
      have hP : va_P (dC, dI) vwCl [(ta, .inr (7, [.ref tb, .int (nI (L + 16 * r))])), (tb, .inl (cB, 9000, .inl g0)), (aS, .inr (6, [.ref ce, .ref pl, .int x2, .int x3])), (ce, .inl (cI, 2048, .inl fc))] H := hP
      have hD : va_D A [(ta, .inr (7, [.ref tb, .int (nI (L + 16 * r))])), (tb, .inl (cB, 9000, .inl g0)), (aS, .inr (6, [.ref ce, .ref pl, .int x2, .int x3])), (ce, .inl (cI, 2048, .inl fc))] := hD
      refine g_topi (y := nI (1084 + 1024 * a + (r * 4 + 0) * 4)) hr_21 ?_
      refine g_topi (y := nI (L + 16 * r)) (congrArg nI (by omega)) ?_
      refine lv_istore (lv' := [(5, .int (nI (L + 16 * r))), (4, .int 0), (3, .int (nI r)), (0, .ref ta), (1, .ref aS), (2, .int (nI a))]) hx hb dX9_writePattern_24 hl (by decide) rfl (fun ls hl => ?_)
      refine lv_aload_n hx hb dX9_writePattern_26 rfl (lv_at hl 3 rfl) ?_
      refine lv_iload hx hb dX9_writePattern_27 (lv_at hl 0 rfl) ?_
      refine lv_aload_n hx hb dX9_writePattern_29 rfl (lv_at hl 4 rfl) ?_
      refine lv_iload_n hx hb dX9_writePattern_30 rfl (lv_at hl 5 rfl) ?_
      refine lv_iload_n hx hb dX9_writePattern_31 rfl (lv_at hl 2 rfl) ?_
      refine lv_iload hx hb dX9_writePattern_32 (lv_at hl 1 rfl) ?_
      refine g_calli (wr := [(ta, .inr (7, [.ref tb, .int (nI (L + 16 * r))])), (tb, .inl (cB, 9000, .inl g0))]) (va_runV (As := [.int (nI a), .int (nI r), .int 0]) (rest := [.int (nI (L + 16 * r)), .ref ta]) ⟨hx, hb, hml, hown, hts⟩ (c_getCell l dC dI H.size aS ce pl x2 x3 cI fc a r 0 (ha) (hr3) (by decide)) (cwV 3 hts (gG_V kw_481 kw_482 kw_483 kw_26 kw_484) rfl rfl rfl (by decide +kernel) ⟨Nat.le_of_ble_eq_true rfl, Nat.le_of_ble_eq_true rfl⟩) (g_preV (C := RX6) (T := TX6) (N := 4) hP hD hK hS hA hN hZ (q0 := 2) rfl rfl [2, 3] (by decide) rfl [1] rfl) rfl rfl hl.1 rfl (lv_room (Nat.le_of_ble_eq_true rfl)) dX9_writePattern_34 ⟨Nat.le_of_ble_eq_true rfl, Nat.le_of_ble_eq_true rfl⟩) hP hD hK hS hA [2, 3] [0, 1] rfl rfl (by decide) (by decide) (fun r_34 w ty1 H locs hw_34 hP hD _ hS => ?_)
      rcases hw_34 with ⟨hu, hr_34⟩
      cases hu
      have hP : va_P (dC, dI) vwCl [(ta, .inr (7, [.ref tb, .int (nI (L + 16 * r))])), (tb, .inl (cB, 9000, .inl g0)), (aS, .inr (6, [.ref ce, .ref pl, .int x2, .int x3])), (ce, .inl (cI, 2048, .inl fc))] H := hP
      have hD : va_D A [(ta, .inr (7, [.ref tb, .int (nI (L + 16 * r))])), (tb, .inl (cB, 9000, .inl g0)), (aS, .inr (6, [.ref ce, .ref pl, .int x2, .int x3])), (ce, .inl (cI, 2048, .inl fc))] := hD
      refine g_topi (y := fc ((a * 64 + r) * 4 + 0)) hr_34 ?_
      refine g_callv (wr := [(aS, .inr (6, [.ref ce, .ref pl, .int x2, .int x3])), (ce, .inl (cI, 2048, .inl fc))]) (va_runS (As := [.ref ta, .int (nI (L + 16 * r)), .int (fc ((a * 64 + r) * 4 + 0))]) (rest := []) ⟨hx, hb, hml, hown, hts⟩ (c_writeCell l dC dI H.size ta tb cB g0 (L + 16 * r) (fc ((a * 64 + r) * 4 + 0)) (by omega)) (va_cwS 3 hts (gG_S kw_485 kw_486 kw_469 kw_487) rfl rfl rfl (by decide +kernel) ⟨Nat.le_of_ble_eq_true rfl, Nat.le_of_ble_eq_true rfl⟩) (g_preS hP hD hK hS hA hN hZ [0, 1] (by decide) rfl [0] rfl) rfl rfl hl.1 rfl (lv_room (Nat.le_of_ble_eq_true rfl)) dX9_writePattern_37 ⟨Nat.le_of_ble_eq_true rfl, Nat.le_of_ble_eq_true rfl⟩) hP hD hK hS hA [0, 1] [2, 3] rfl rfl (by decide) (by decide) (fun w ty1 H locs hw_37 hP hD _ hS => ?_)
      rcases hw_37 with ⟨f2_37, hu⟩
      cases hu
      have hP : va_P (dC, dI) vwCl [(aS, .inr (6, [.ref ce, .ref pl, .int x2, .int x3])), (ce, .inl (cI, 2048, .inl fc)), (ta, .inr (7, [.ref tb, .int (nI ((L + 16 * r) + 4))])), (tb, .inl (cB, 9000, .inl f2_37))] H := hP
      have hD : va_D A [(aS, .inr (6, [.ref ce, .ref pl, .int x2, .int x3])), (ce, .inl (cI, 2048, .inl fc)), (ta, .inr (7, [.ref tb, .int (nI ((L + 16 * r) + 4))])), (tb, .inl (cB, 9000, .inl f2_37))] := hD
      refine lv_iinc (v := 1) (lv' := [(4, .int 1), (5, .int (nI (L + 16 * r))), (3, .int (nI r)), (0, .ref ta), (1, .ref aS), (2, .int (nI a))]) hx hb dX9_writePattern_40 hl (k := 1) rfl (by decide) (by decide) rfl (fun ls hl => ?_)
      refine lv_goto (tgt := 11) hx hb dX9_writePattern_43 (by decide) ?_
      refine lv_iload hx hb dX9_writePattern_11 (lv_at hl 0 rfl) ?_
      refine lv_iconst (v := 4) hx hb dX9_writePattern_13 (by decide) ?_
      refine lv_icmp_ge (tgt := 46) hx hb dX9_writePattern_14 (by decide) (fun c_14_2 => absurd c_14_2 (by decide)) (fun c_14_2 => ?_)
      refine lv_iload_n hx hb dX9_writePattern_17 rfl (lv_at hl 5 rfl) ?_
      refine lv_iload_n hx hb dX9_writePattern_18 rfl (lv_at hl 2 rfl) ?_
      refine lv_iload hx hb dX9_writePattern_19 (lv_at hl 0 rfl) ?_
      refine g_calli (wr := [(aS, .inr (6, [.ref ce, .ref pl, .int x2, .int x3])), (ce, .inl (cI, 2048, .inl fc)), (ta, .inr (7, [.ref tb, .int (nI ((L + 16 * r) + 4))])), (tb, .inl (cB, 9000, .inl f2_37))]) (va_runS (As := [.int (nI a), .int (nI r), .int 1]) (rest := []) ⟨hx, hb, hml, hown, hts⟩ (c_cellAt l dC dI H.size a r 1 ) (va_cwS 3 hts (gG_S kw_480 kw_355 kw_30 kw_356) rfl rfl rfl (by decide +kernel) ⟨Nat.le_of_ble_eq_true rfl, Nat.le_of_ble_eq_true rfl⟩) (g_preS hP hD hK hS hA hN hZ [] (by decide) rfl [] rfl) rfl rfl hl.1 rfl (lv_room (Nat.le_of_ble_eq_true rfl)) dX9_writePattern_21 ⟨Nat.le_of_ble_eq_true rfl, Nat.le_of_ble_eq_true rfl⟩) hP hD hK hS hA [] [0, 1, 2, 3] rfl rfl (by decide) (by decide) (fun r_21_2 w ty1 H locs hw_21 hP hD _ hS => ?_)
      rcases hw_21 with ⟨hu, hr_21⟩
      cases hu
      have hP : va_P (dC, dI) vwCl [(aS, .inr (6, [.ref ce, .ref pl, .int x2, .int x3])), (ce, .inl (cI, 2048, .inl fc)), (ta, .inr (7, [.ref tb, .int (nI ((L + 16 * r) + 4))])), (tb, .inl (cB, 9000, .inl f2_37))] H := hP
      have hD : va_D A [(aS, .inr (6, [.ref ce, .ref pl, .int x2, .int x3])), (ce, .inl (cI, 2048, .inl fc)), (ta, .inr (7, [.ref tb, .int (nI ((L + 16 * r) + 4))])), (tb, .inl (cB, 9000, .inl f2_37))] := hD
      refine g_topi (y := nI (1084 + 1024 * a + (r * 4 + 1) * 4)) hr_21 ?_
      refine g_topi (y := nI ((L + 16 * r) + 4)) (congrArg nI (by omega)) ?_
      refine lv_istore (lv' := [(5, .int (nI ((L + 16 * r) + 4))), (4, .int 1), (3, .int (nI r)), (0, .ref ta), (1, .ref aS), (2, .int (nI a))]) hx hb dX9_writePattern_24 hl (by decide) rfl (fun ls hl => ?_)
      refine lv_aload_n hx hb dX9_writePattern_26 rfl (lv_at hl 3 rfl) ?_
      refine lv_iload hx hb dX9_writePattern_27 (lv_at hl 0 rfl) ?_
      refine lv_aload_n hx hb dX9_writePattern_29 rfl (lv_at hl 4 rfl) ?_
      refine lv_iload_n hx hb dX9_writePattern_30 rfl (lv_at hl 5 rfl) ?_
      refine lv_iload_n hx hb dX9_writePattern_31 rfl (lv_at hl 2 rfl) ?_
      refine lv_iload hx hb dX9_writePattern_32 (lv_at hl 1 rfl) ?_
      refine g_calli (wr := [(ta, .inr (7, [.ref tb, .int (nI ((L + 16 * r) + 4))])), (tb, .inl (cB, 9000, .inl f2_37))]) (va_runV (As := [.int (nI a), .int (nI r), .int 1]) (rest := [.int (nI ((L + 16 * r) + 4)), .ref ta]) ⟨hx, hb, hml, hown, hts⟩ (c_getCell l dC dI H.size aS ce pl x2 x3 cI fc a r 1 (ha) (hr3) (by decide)) (cwV 3 hts (gG_V kw_481 kw_482 kw_483 kw_26 kw_484) rfl rfl rfl (by decide +kernel) ⟨Nat.le_of_ble_eq_true rfl, Nat.le_of_ble_eq_true rfl⟩) (g_preV (C := RX6) (T := TX6) (N := 4) hP hD hK hS hA hN hZ (q0 := 0) rfl rfl [0, 1] (by decide) rfl [1] rfl) rfl rfl hl.1 rfl (lv_room (Nat.le_of_ble_eq_true rfl)) dX9_writePattern_34 ⟨Nat.le_of_ble_eq_true rfl, Nat.le_of_ble_eq_true rfl⟩) hP hD hK hS hA [0, 1] [2, 3] rfl rfl (by decide) (by decide) (fun r_34_2 w ty1 H locs hw_34 hP hD _ hS => ?_)
      rcases hw_34 with ⟨hu, hr_34⟩
      cases hu
      have hP : va_P (dC, dI) vwCl [(ta, .inr (7, [.ref tb, .int (nI ((L + 16 * r) + 4))])), (tb, .inl (cB, 9000, .inl f2_37)), (aS, .inr (6, [.ref ce, .ref pl, .int x2, .int x3])), (ce, .inl (cI, 2048, .inl fc))] H := hP
      have hD : va_D A [(ta, .inr (7, [.ref tb, .int (nI ((L + 16 * r) + 4))])), (tb, .inl (cB, 9000, .inl f2_37)), (aS, .inr (6, [.ref ce, .ref pl, .int x2, .int x3])), (ce, .inl (cI, 2048, .inl fc))] := hD
      refine g_topi (y := fc ((a * 64 + r) * 4 + 1)) hr_34 ?_
      refine g_callv (wr := [(aS, .inr (6, [.ref ce, .ref pl, .int x2, .int x3])), (ce, .inl (cI, 2048, .inl fc))]) (va_runS (As := [.ref ta, .int (nI ((L + 16 * r) + 4)), .int (fc ((a * 64 + r) * 4 + 1))]) (rest := []) ⟨hx, hb, hml, hown, hts⟩ (c_writeCell l dC dI H.size ta tb cB f2_37 ((L + 16 * r) + 4) (fc ((a * 64 + r) * 4 + 1)) (by omega)) (va_cwS 3 hts (gG_S kw_485 kw_486 kw_469 kw_487) rfl rfl rfl (by decide +kernel) ⟨Nat.le_of_ble_eq_true rfl, Nat.le_of_ble_eq_true rfl⟩) (g_preS hP hD hK hS hA hN hZ [0, 1] (by decide) rfl [0] rfl) rfl rfl hl.1 rfl (lv_room (Nat.le_of_ble_eq_true rfl)) dX9_writePattern_37 ⟨Nat.le_of_ble_eq_true rfl, Nat.le_of_ble_eq_true rfl⟩) hP hD hK hS hA [0, 1] [2, 3] rfl rfl (by decide) (by decide) (fun w ty1 H locs hw_37 hP hD _ hS => ?_)
      rcases hw_37 with ⟨f2_37_2, hu⟩
      cases hu
      have hP : va_P (dC, dI) vwCl [(aS, .inr (6, [.ref ce, .ref pl, .int x2, .int x3])), (ce, .inl (cI, 2048, .inl fc)), (ta, .inr (7, [.ref tb, .int (nI (((L + 16 * r) + 4) + 4))])), (tb, .inl (cB, 9000, .inl f2_37_2))] H := hP
      have hD : va_D A [(aS, .inr (6, [.ref ce, .ref pl, .int x2, .int x3])), (ce, .inl (cI, 2048, .inl fc)), (ta, .inr (7, [.ref tb, .int (nI (((L + 16 * r) + 4) + 4))])), (tb, .inl (cB, 9000, .inl f2_37_2))] := hD
      refine lv_iinc (v := 2) (lv' := [(4, .int 2), (5, .int (nI ((L + 16 * r) + 4))), (3, .int (nI r)), (0, .ref ta), (1, .ref aS), (2, .int (nI a))]) hx hb dX9_writePattern_40 hl (k := 1) rfl (by decide) (by decide) rfl (fun ls hl => ?_)
      refine lv_goto (tgt := 11) hx hb dX9_writePattern_43 (by decide) ?_
      refine lv_iload hx hb dX9_writePattern_11 (lv_at hl 0 rfl) ?_
      refine lv_iconst (v := 4) hx hb dX9_writePattern_13 (by decide) ?_
      refine lv_icmp_ge (tgt := 46) hx hb dX9_writePattern_14 (by decide) (fun c_14_3 => absurd c_14_3 (by decide)) (fun c_14_3 => ?_)
      refine lv_iload_n hx hb dX9_writePattern_17 rfl (lv_at hl 5 rfl) ?_
      refine lv_iload_n hx hb dX9_writePattern_18 rfl (lv_at hl 2 rfl) ?_
      refine lv_iload hx hb dX9_writePattern_19 (lv_at hl 0 rfl) ?_
      refine g_calli (wr := [(aS, .inr (6, [.ref ce, .ref pl, .int x2, .int x3])), (ce, .inl (cI, 2048, .inl fc)), (ta, .inr (7, [.ref tb, .int (nI (((L + 16 * r) + 4) + 4))])), (tb, .inl (cB, 9000, .inl f2_37_2))]) (va_runS (As := [.int (nI a), .int (nI r), .int 2]) (rest := []) ⟨hx, hb, hml, hown, hts⟩ (c_cellAt l dC dI H.size a r 2 ) (va_cwS 3 hts (gG_S kw_480 kw_355 kw_30 kw_356) rfl rfl rfl (by decide +kernel) ⟨Nat.le_of_ble_eq_true rfl, Nat.le_of_ble_eq_true rfl⟩) (g_preS hP hD hK hS hA hN hZ [] (by decide) rfl [] rfl) rfl rfl hl.1 rfl (lv_room (Nat.le_of_ble_eq_true rfl)) dX9_writePattern_21 ⟨Nat.le_of_ble_eq_true rfl, Nat.le_of_ble_eq_true rfl⟩) hP hD hK hS hA [] [0, 1, 2, 3] rfl rfl (by decide) (by decide) (fun r_21_3 w ty1 H locs hw_21 hP hD _ hS => ?_)
      rcases hw_21 with ⟨hu, hr_21⟩
      cases hu
      have hP : va_P (dC, dI) vwCl [(aS, .inr (6, [.ref ce, .ref pl, .int x2, .int x3])), (ce, .inl (cI, 2048, .inl fc)), (ta, .inr (7, [.ref tb, .int (nI (((L + 16 * r) + 4) + 4))])), (tb, .inl (cB, 9000, .inl f2_37_2))] H := hP
      have hD : va_D A [(aS, .inr (6, [.ref ce, .ref pl, .int x2, .int x3])), (ce, .inl (cI, 2048, .inl fc)), (ta, .inr (7, [.ref tb, .int (nI (((L + 16 * r) + 4) + 4))])), (tb, .inl (cB, 9000, .inl f2_37_2))] := hD
      refine g_topi (y := nI (1084 + 1024 * a + (r * 4 + 2) * 4)) hr_21 ?_
      refine g_topi (y := nI (((L + 16 * r) + 4) + 4)) (congrArg nI (by omega)) ?_
      refine lv_istore (lv' := [(5, .int (nI (((L + 16 * r) + 4) + 4))), (4, .int 2), (3, .int (nI r)), (0, .ref ta), (1, .ref aS), (2, .int (nI a))]) hx hb dX9_writePattern_24 hl (by decide) rfl (fun ls hl => ?_)
      refine lv_aload_n hx hb dX9_writePattern_26 rfl (lv_at hl 3 rfl) ?_
      refine lv_iload hx hb dX9_writePattern_27 (lv_at hl 0 rfl) ?_
      refine lv_aload_n hx hb dX9_writePattern_29 rfl (lv_at hl 4 rfl) ?_
      refine lv_iload_n hx hb dX9_writePattern_30 rfl (lv_at hl 5 rfl) ?_
      refine lv_iload_n hx hb dX9_writePattern_31 rfl (lv_at hl 2 rfl) ?_
      refine lv_iload hx hb dX9_writePattern_32 (lv_at hl 1 rfl) ?_
      refine g_calli (wr := [(ta, .inr (7, [.ref tb, .int (nI (((L + 16 * r) + 4) + 4))])), (tb, .inl (cB, 9000, .inl f2_37_2))]) (va_runV (As := [.int (nI a), .int (nI r), .int 2]) (rest := [.int (nI (((L + 16 * r) + 4) + 4)), .ref ta]) ⟨hx, hb, hml, hown, hts⟩ (c_getCell l dC dI H.size aS ce pl x2 x3 cI fc a r 2 (ha) (hr3) (by decide)) (cwV 3 hts (gG_V kw_481 kw_482 kw_483 kw_26 kw_484) rfl rfl rfl (by decide +kernel) ⟨Nat.le_of_ble_eq_true rfl, Nat.le_of_ble_eq_true rfl⟩) (g_preV (C := RX6) (T := TX6) (N := 4) hP hD hK hS hA hN hZ (q0 := 0) rfl rfl [0, 1] (by decide) rfl [1] rfl) rfl rfl hl.1 rfl (lv_room (Nat.le_of_ble_eq_true rfl)) dX9_writePattern_34 ⟨Nat.le_of_ble_eq_true rfl, Nat.le_of_ble_eq_true rfl⟩) hP hD hK hS hA [0, 1] [2, 3] rfl rfl (by decide) (by decide) (fun r_34_3 w ty1 H locs hw_34 hP hD _ hS => ?_)
      rcases hw_34 with ⟨hu, hr_34⟩
      cases hu
      have hP : va_P (dC, dI) vwCl [(ta, .inr (7, [.ref tb, .int (nI (((L + 16 * r) + 4) + 4))])), (tb, .inl (cB, 9000, .inl f2_37_2)), (aS, .inr (6, [.ref ce, .ref pl, .int x2, .int x3])), (ce, .inl (cI, 2048, .inl fc))] H := hP
      have hD : va_D A [(ta, .inr (7, [.ref tb, .int (nI (((L + 16 * r) + 4) + 4))])), (tb, .inl (cB, 9000, .inl f2_37_2)), (aS, .inr (6, [.ref ce, .ref pl, .int x2, .int x3])), (ce, .inl (cI, 2048, .inl fc))] := hD
      refine g_topi (y := fc ((a * 64 + r) * 4 + 2)) hr_34 ?_
      refine g_callv (wr := [(aS, .inr (6, [.ref ce, .ref pl, .int x2, .int x3])), (ce, .inl (cI, 2048, .inl fc))]) (va_runS (As := [.ref ta, .int (nI (((L + 16 * r) + 4) + 4)), .int (fc ((a * 64 + r) * 4 + 2))]) (rest := []) ⟨hx, hb, hml, hown, hts⟩ (c_writeCell l dC dI H.size ta tb cB f2_37_2 (((L + 16 * r) + 4) + 4) (fc ((a * 64 + r) * 4 + 2)) (by omega)) (va_cwS 3 hts (gG_S kw_485 kw_486 kw_469 kw_487) rfl rfl rfl (by decide +kernel) ⟨Nat.le_of_ble_eq_true rfl, Nat.le_of_ble_eq_true rfl⟩) (g_preS hP hD hK hS hA hN hZ [0, 1] (by decide) rfl [0] rfl) rfl rfl hl.1 rfl (lv_room (Nat.le_of_ble_eq_true rfl)) dX9_writePattern_37 ⟨Nat.le_of_ble_eq_true rfl, Nat.le_of_ble_eq_true rfl⟩) hP hD hK hS hA [0, 1] [2, 3] rfl rfl (by decide) (by decide) (fun w ty1 H locs hw_37 hP hD _ hS => ?_)
      rcases hw_37 with ⟨f2_37_3, hu⟩
      cases hu
      have hP : va_P (dC, dI) vwCl [(aS, .inr (6, [.ref ce, .ref pl, .int x2, .int x3])), (ce, .inl (cI, 2048, .inl fc)), (ta, .inr (7, [.ref tb, .int (nI ((((L + 16 * r) + 4) + 4) + 4))])), (tb, .inl (cB, 9000, .inl f2_37_3))] H := hP
      have hD : va_D A [(aS, .inr (6, [.ref ce, .ref pl, .int x2, .int x3])), (ce, .inl (cI, 2048, .inl fc)), (ta, .inr (7, [.ref tb, .int (nI ((((L + 16 * r) + 4) + 4) + 4))])), (tb, .inl (cB, 9000, .inl f2_37_3))] := hD
      refine lv_iinc (v := 3) (lv' := [(4, .int 3), (5, .int (nI (((L + 16 * r) + 4) + 4))), (3, .int (nI r)), (0, .ref ta), (1, .ref aS), (2, .int (nI a))]) hx hb dX9_writePattern_40 hl (k := 1) rfl (by decide) (by decide) rfl (fun ls hl => ?_)
      refine lv_goto (tgt := 11) hx hb dX9_writePattern_43 (by decide) ?_
      refine lv_iload hx hb dX9_writePattern_11 (lv_at hl 0 rfl) ?_
      refine lv_iconst (v := 4) hx hb dX9_writePattern_13 (by decide) ?_
      refine lv_icmp_ge (tgt := 46) hx hb dX9_writePattern_14 (by decide) (fun c_14_4 => absurd c_14_4 (by decide)) (fun c_14_4 => ?_)
      refine lv_iload_n hx hb dX9_writePattern_17 rfl (lv_at hl 5 rfl) ?_
      refine lv_iload_n hx hb dX9_writePattern_18 rfl (lv_at hl 2 rfl) ?_
      refine lv_iload hx hb dX9_writePattern_19 (lv_at hl 0 rfl) ?_
      refine g_calli (wr := [(aS, .inr (6, [.ref ce, .ref pl, .int x2, .int x3])), (ce, .inl (cI, 2048, .inl fc)), (ta, .inr (7, [.ref tb, .int (nI ((((L + 16 * r) + 4) + 4) + 4))])), (tb, .inl (cB, 9000, .inl f2_37_3))]) (va_runS (As := [.int (nI a), .int (nI r), .int 3]) (rest := []) ⟨hx, hb, hml, hown, hts⟩ (c_cellAt l dC dI H.size a r 3 ) (va_cwS 3 hts (gG_S kw_480 kw_355 kw_30 kw_356) rfl rfl rfl (by decide +kernel) ⟨Nat.le_of_ble_eq_true rfl, Nat.le_of_ble_eq_true rfl⟩) (g_preS hP hD hK hS hA hN hZ [] (by decide) rfl [] rfl) rfl rfl hl.1 rfl (lv_room (Nat.le_of_ble_eq_true rfl)) dX9_writePattern_21 ⟨Nat.le_of_ble_eq_true rfl, Nat.le_of_ble_eq_true rfl⟩) hP hD hK hS hA [] [0, 1, 2, 3] rfl rfl (by decide) (by decide) (fun r_21_4 w ty1 H locs hw_21 hP hD _ hS => ?_)
      rcases hw_21 with ⟨hu, hr_21⟩
      cases hu
      have hP : va_P (dC, dI) vwCl [(aS, .inr (6, [.ref ce, .ref pl, .int x2, .int x3])), (ce, .inl (cI, 2048, .inl fc)), (ta, .inr (7, [.ref tb, .int (nI ((((L + 16 * r) + 4) + 4) + 4))])), (tb, .inl (cB, 9000, .inl f2_37_3))] H := hP
      have hD : va_D A [(aS, .inr (6, [.ref ce, .ref pl, .int x2, .int x3])), (ce, .inl (cI, 2048, .inl fc)), (ta, .inr (7, [.ref tb, .int (nI ((((L + 16 * r) + 4) + 4) + 4))])), (tb, .inl (cB, 9000, .inl f2_37_3))] := hD
      refine g_topi (y := nI (1084 + 1024 * a + (r * 4 + 3) * 4)) hr_21 ?_
      refine g_topi (y := nI ((((L + 16 * r) + 4) + 4) + 4)) (congrArg nI (by omega)) ?_
      refine lv_istore (lv' := [(5, .int (nI ((((L + 16 * r) + 4) + 4) + 4))), (4, .int 3), (3, .int (nI r)), (0, .ref ta), (1, .ref aS), (2, .int (nI a))]) hx hb dX9_writePattern_24 hl (by decide) rfl (fun ls hl => ?_)
      refine lv_aload_n hx hb dX9_writePattern_26 rfl (lv_at hl 3 rfl) ?_
      refine lv_iload hx hb dX9_writePattern_27 (lv_at hl 0 rfl) ?_
      refine lv_aload_n hx hb dX9_writePattern_29 rfl (lv_at hl 4 rfl) ?_
      refine lv_iload_n hx hb dX9_writePattern_30 rfl (lv_at hl 5 rfl) ?_
      refine lv_iload_n hx hb dX9_writePattern_31 rfl (lv_at hl 2 rfl) ?_
      refine lv_iload hx hb dX9_writePattern_32 (lv_at hl 1 rfl) ?_
      refine g_calli (wr := [(ta, .inr (7, [.ref tb, .int (nI ((((L + 16 * r) + 4) + 4) + 4))])), (tb, .inl (cB, 9000, .inl f2_37_3))]) (va_runV (As := [.int (nI a), .int (nI r), .int 3]) (rest := [.int (nI ((((L + 16 * r) + 4) + 4) + 4)), .ref ta]) ⟨hx, hb, hml, hown, hts⟩ (c_getCell l dC dI H.size aS ce pl x2 x3 cI fc a r 3 (ha) (hr3) (by decide)) (cwV 3 hts (gG_V kw_481 kw_482 kw_483 kw_26 kw_484) rfl rfl rfl (by decide +kernel) ⟨Nat.le_of_ble_eq_true rfl, Nat.le_of_ble_eq_true rfl⟩) (g_preV (C := RX6) (T := TX6) (N := 4) hP hD hK hS hA hN hZ (q0 := 0) rfl rfl [0, 1] (by decide) rfl [1] rfl) rfl rfl hl.1 rfl (lv_room (Nat.le_of_ble_eq_true rfl)) dX9_writePattern_34 ⟨Nat.le_of_ble_eq_true rfl, Nat.le_of_ble_eq_true rfl⟩) hP hD hK hS hA [0, 1] [2, 3] rfl rfl (by decide) (by decide) (fun r_34_4 w ty1 H locs hw_34 hP hD _ hS => ?_)
      rcases hw_34 with ⟨hu, hr_34⟩
      cases hu
      have hP : va_P (dC, dI) vwCl [(ta, .inr (7, [.ref tb, .int (nI ((((L + 16 * r) + 4) + 4) + 4))])), (tb, .inl (cB, 9000, .inl f2_37_3)), (aS, .inr (6, [.ref ce, .ref pl, .int x2, .int x3])), (ce, .inl (cI, 2048, .inl fc))] H := hP
      have hD : va_D A [(ta, .inr (7, [.ref tb, .int (nI ((((L + 16 * r) + 4) + 4) + 4))])), (tb, .inl (cB, 9000, .inl f2_37_3)), (aS, .inr (6, [.ref ce, .ref pl, .int x2, .int x3])), (ce, .inl (cI, 2048, .inl fc))] := hD
      refine g_topi (y := fc ((a * 64 + r) * 4 + 3)) hr_34 ?_
      refine g_callv (wr := [(aS, .inr (6, [.ref ce, .ref pl, .int x2, .int x3])), (ce, .inl (cI, 2048, .inl fc))]) (va_runS (As := [.ref ta, .int (nI ((((L + 16 * r) + 4) + 4) + 4)), .int (fc ((a * 64 + r) * 4 + 3))]) (rest := []) ⟨hx, hb, hml, hown, hts⟩ (c_writeCell l dC dI H.size ta tb cB f2_37_3 ((((L + 16 * r) + 4) + 4) + 4) (fc ((a * 64 + r) * 4 + 3)) (by omega)) (va_cwS 3 hts (gG_S kw_485 kw_486 kw_469 kw_487) rfl rfl rfl (by decide +kernel) ⟨Nat.le_of_ble_eq_true rfl, Nat.le_of_ble_eq_true rfl⟩) (g_preS hP hD hK hS hA hN hZ [0, 1] (by decide) rfl [0] rfl) rfl rfl hl.1 rfl (lv_room (Nat.le_of_ble_eq_true rfl)) dX9_writePattern_37 ⟨Nat.le_of_ble_eq_true rfl, Nat.le_of_ble_eq_true rfl⟩) hP hD hK hS hA [0, 1] [2, 3] rfl rfl (by decide) (by decide) (fun w ty1 H locs hw_37 hP hD _ hS => ?_)
      rcases hw_37 with ⟨f2_37_4, hu⟩
      cases hu
      have hP : va_P (dC, dI) vwCl [(aS, .inr (6, [.ref ce, .ref pl, .int x2, .int x3])), (ce, .inl (cI, 2048, .inl fc)), (ta, .inr (7, [.ref tb, .int (nI (((((L + 16 * r) + 4) + 4) + 4) + 4))])), (tb, .inl (cB, 9000, .inl f2_37_4))] H := hP
      have hD : va_D A [(aS, .inr (6, [.ref ce, .ref pl, .int x2, .int x3])), (ce, .inl (cI, 2048, .inl fc)), (ta, .inr (7, [.ref tb, .int (nI (((((L + 16 * r) + 4) + 4) + 4) + 4))])), (tb, .inl (cB, 9000, .inl f2_37_4))] := hD
      refine lv_iinc (v := 4) (lv' := [(4, .int 4), (5, .int (nI ((((L + 16 * r) + 4) + 4) + 4))), (3, .int (nI r)), (0, .ref ta), (1, .ref aS), (2, .int (nI a))]) hx hb dX9_writePattern_40 hl (k := 1) rfl (by decide) (by decide) rfl (fun ls hl => ?_)
      refine lv_goto (tgt := 11) hx hb dX9_writePattern_43 (by decide) ?_
      refine lv_iload hx hb dX9_writePattern_11 (lv_at hl 0 rfl) ?_
      refine lv_iconst (v := 4) hx hb dX9_writePattern_13 (by decide) ?_
      refine lv_icmp_ge (tgt := 46) hx hb dX9_writePattern_14 (by decide) (fun c_14_5 => ?_) (fun c_14_5 => absurd c_14_5 (by decide))
      refine lv_iinc (v := nI (r + 1)) (lv' := [(3, .int (nI (r + 1))), (4, .int 4), (5, .int (nI ((((L + 16 * r) + 4) + 4) + 4))), (0, .ref ta), (1, .ref aS), (2, .int (nI a))]) hx hb dX9_writePattern_46 hl (k := 2) rfl (nI_1 r) (by decide) rfl (fun ls hl => ?_)
      refine lv_goto (tgt := 2) hx hb dX9_writePattern_49 (by decide) ?_
      rw [show (((((L + 16 * r) + 4) + 4) + 4) + 4) = L + 16 * (r + 1) by omega] at hP hD
      exact ih2 (r + 1) f2_37_4 (hr3) (by omega) _ _ (hP.sub [2, 3, 0, 1] rfl) (hD.sub [2, 3, 0, 1] (by decide) rfl) hS _ (lv_sub hl [0, 3, 4, 5] rfl)
  exact LP2 _ 0 f (Nat.zero_le _) (Nat.lt_succ_self _) _ _ (hP.sub [0, 1, 2, 3] rfl) (hD.sub [0, 1, 2, 3] (by decide) rfl) hS _ (lv_sub hl [0, 1, 2, 3] rfl)

set_option maxHeartbeats 400000 in
set_option maxRecDepth 100000 in
/-- writeSong of a new one -/
theorem c_writeSong1 (l : Launch) (dC : Nat → ClassId) (dI : Nat → Nat → Nat) (sz : Nat) (ta tb aS ce pl : Nat) (cB cI : ClassId) (f : Nat → Int32) : Met l yX9_writeSong (wsG (.code yX9_writeSong cX9_writeSong 4 none)) ({ frames := 4, cells := 0, slots := 0, locals := 93 }) (va_Pc [.ref ta, .ref aS] (gP (dC, dI) [(cB, .byte), (cI, .int)] [(ta, .inr (7, [.ref tb, .int 0])), (tb, .inl (cB, 9000, .inl f)), (aS, .inr (6, [.ref ce, .ref pl, .int 1, .int 0])), (ce, .inl (cI, 2048, .inl (fun _ => 0))), (pl, .inl (cI, 128, .inl (fun _ => 0)))] sz)) (va_Qv (fun u : va_W × gT => ∃ (f2 : Nat → Int32), u = ([(ta, .inr (7, [.ref tb, .int (nI 2108)])), (tb, .inl (cB, 9000, .inl f2)), (aS, .inr (6, [.ref ce, .ref pl, .int 1, .int 0])), (ce, .inl (cI, 2048, .inl (fun _ => 0))), (pl, .inl (cI, 128, .inl (fun _ => 0)))], [])) (gB (dC, dI) (va_A [(ta, .inr (7, [.ref tb, .int 0])), (tb, .inl (cB, 9000, .inl f)), (aS, .inr (6, [.ref ce, .ref pl, .int 1, .int 0])), (ce, .inl (cI, 2048, .inl (fun _ => 0))), (pl, .inl (cI, 128, .inl (fun _ => 0)))] sz)) (va_A [(ta, .inr (7, [.ref tb, .int 0])), (tb, .inl (cB, 9000, .inl f)), (aS, .inr (6, [.ref ce, .ref pl, .int 1, .int 0])), (ce, .inl (cI, 2048, .inl (fun _ => 0))), (pl, .inl (cI, 128, .inl (fun _ => 0)))] sz)) 0 0 (va_A [(ta, .inr (7, [.ref tb, .int 0])), (tb, .inl (cB, 9000, .inl f)), (aS, .inr (6, [.ref ce, .ref pl, .int 1, .int 0])), (ce, .inl (cI, 2048, .inl (fun _ => 0))), (pl, .inl (cI, 128, .inl (fun _ => 0)))] sz) := by
  refine Met.ofW (cc := cX9_writeSong) (maxL := 4) (ret := none) (by decide) rfl ?_
  intro p e s m args below meth c s₁ B hml hv
  obtain ⟨rfl, hsz, hP, hK, hD0, hN, hZ⟩ := hv
  have hx := B.exec
  have hb := B.bytes
  have hr := B.returns
  have hts := atoms_spec (ws := (wsG (.code yX9_writeSong cX9_writeSong 4 none))) B.pre
  have hown : s.vm.findClass RX9 = some m.cls := findClass_of_methodNamed B.named
  have hlocks := B.notSynchronized
  subst hsz
  have hD := hD0.self (sz := s.heap.size)
  generalize hAe : va_A [(ta, .inr (7, [.ref tb, .int 0])), (tb, .inl (cB, 9000, .inl f)), (aS, .inr (6, [.ref ce, .ref pl, .int 1, .int 0])), (ce, .inl (cI, 2048, .inl (fun _ => 0))), (pl, .inl (cI, 128, .inl (fun _ => 0)))] s.heap.size = A at hD hZ ⊢
  have hA : ∀ q : Nat, s.heap.size ≤ q → A q := fun q h => by rw [← hAe]; exact Or.inr h
  have hl := lv_entry ([.ref ta, .ref aS]) (n := 4) (Nat.le_of_ble_eq_true rfl)
  rw [lg_entry_eq]
  generalize (lg_sl ([.ref ta, .ref aS]) ++ List.replicate (4 - (lg_sl ([.ref ta, .ref aS])).length) Slot.unset).toArray = ls at hl ⊢
  have hl : lv_has ls 4 [(0, .ref ta), (1, .ref aS)] := hl
  refine g_start (A := A) hP (fun H locs hP hS => ?_)
  refine lv_aload_n hx hb dX9_writeSong_0 rfl (lv_at hl 0 rfl) ?_
  refine lv_sipush (v := 950) hx hb dX9_writeSong_1 (by decide) ?_
  refine lv_aload_n hx hb dX9_writeSong_4 rfl (lv_at hl 1 rfl) ?_
  refine va_get (D := (dC, dI)) (ci := 6) (v := .int 1) (C := RX6) (T := TX6) (N := 4) hx hb hts iwX6 hown hK hP 2 rfl rfl 2 (by decide) (hts (.fieldLink RX9 11 "ModulePlayer$Score" "length" "I") (List.mem_cons_of_mem _ kw_471)) (fun _ h9 => h9) rfl dX9_writeSong_5 ?_
  refine g_callv (wr := [(aS, .inr (6, [.ref ce, .ref pl, .int 1, .int 0])), (ce, .inl (cI, 2048, .inl (fun _ => 0))), (pl, .inl (cI, 128, .inl (fun _ => 0)))]) (va_runV (As := [.int 950, .int 1]) (rest := []) ⟨hx, hb, hml, hown, hts⟩ (c_putx l dC dI H.size ta tb cB f 0 950 1 951 (by omega) (by omega) (by omega)) (cwV 2 hts (gG_V kw_474 kw_243 kw_244 kw_18 kw_245) rfl rfl rfl (by decide +kernel) ⟨Nat.le_of_ble_eq_true rfl, Nat.le_of_ble_eq_true rfl⟩) (g_preV (C := RX7) (T := TX7) (N := 2) hP hD hK hS hA hN hZ (q0 := 0) rfl rfl [0, 1] (by decide) rfl [0] rfl) rfl rfl hl.1 rfl (lv_room (Nat.le_of_ble_eq_true rfl)) dX9_writeSong_8 ⟨Nat.le_of_ble_eq_true rfl, Nat.le_of_ble_eq_true rfl⟩) hP hD hK hS hA [0, 1] [2, 3, 4] rfl rfl (by decide) (by decide) (fun w ty1 H locs hw_8 hP hD _ hS => ?_)
  rcases hw_8 with ⟨f2_8, hu⟩
  cases hu
  have hP : va_P (dC, dI) vwCl [(aS, .inr (6, [.ref ce, .ref pl, .int 1, .int 0])), (ce, .inl (cI, 2048, .inl (fun _ => 0))), (pl, .inl (cI, 128, .inl (fun _ => 0))), (ta, .inr (7, [.ref tb, .int (nI 951)])), (tb, .inl (cB, 9000, .inl f2_8))] H := hP
  have hD : va_D A [(aS, .inr (6, [.ref ce, .ref pl, .int 1, .int 0])), (ce, .inl (cI, 2048, .inl (fun _ => 0))), (pl, .inl (cI, 128, .inl (fun _ => 0))), (ta, .inr (7, [.ref tb, .int (nI 951)])), (tb, .inl (cB, 9000, .inl f2_8))] := hD
  refine lv_aload_n hx hb dX9_writeSong_11 rfl (lv_at hl 0 rfl) ?_
  refine lv_sipush (v := 951) hx hb dX9_writeSong_12 (by decide) ?_
  refine lv_aload_n hx hb dX9_writeSong_15 rfl (lv_at hl 1 rfl) ?_
  refine va_get (D := (dC, dI)) (ci := 6) (v := .int 0) (C := RX6) (T := TX6) (N := 4) hx hb hts iwX6 hown hK hP 0 rfl rfl 3 (by decide) (hts (.fieldLink RX9 23 "ModulePlayer$Score" "restart" "I") (List.mem_cons_of_mem _ kw_472)) (fun _ h9 => h9) rfl dX9_writeSong_16 ?_
  refine g_callv (wr := [(aS, .inr (6, [.ref ce, .ref pl, .int 1, .int 0])), (ce, .inl (cI, 2048, .inl (fun _ => 0))), (pl, .inl (cI, 128, .inl (fun _ => 0)))]) (va_runV (As := [.int 951, .int 0]) (rest := []) ⟨hx, hb, hml, hown, hts⟩ (c_putx l dC dI H.size ta tb cB f2_8 951 951 0 952 (by omega) (by omega) (by omega)) (cwV 2 hts (gG_V kw_474 kw_243 kw_244 kw_18 kw_245) rfl rfl rfl (by decide +kernel) ⟨Nat.le_of_ble_eq_true rfl, Nat.le_of_ble_eq_true rfl⟩) (g_preV (C := RX7) (T := TX7) (N := 2) hP hD hK hS hA hN hZ (q0 := 3) rfl rfl [3, 4] (by decide) rfl [0] rfl) rfl rfl hl.1 rfl (lv_room (Nat.le_of_ble_eq_true rfl)) dX9_writeSong_19 ⟨Nat.le_of_ble_eq_true rfl, Nat.le_of_ble_eq_true rfl⟩) hP hD hK hS hA [3, 4] [0, 1, 2] rfl rfl (by decide) (by decide) (fun w ty1 H locs hw_19 hP hD _ hS => ?_)
  rcases hw_19 with ⟨f2_19, hu⟩
  cases hu
  have hP : va_P (dC, dI) vwCl [(aS, .inr (6, [.ref ce, .ref pl, .int 1, .int 0])), (ce, .inl (cI, 2048, .inl (fun _ => 0))), (pl, .inl (cI, 128, .inl (fun _ => 0))), (ta, .inr (7, [.ref tb, .int (nI 952)])), (tb, .inl (cB, 9000, .inl f2_19))] H := hP
  have hD : va_D A [(aS, .inr (6, [.ref ce, .ref pl, .int 1, .int 0])), (ce, .inl (cI, 2048, .inl (fun _ => 0))), (pl, .inl (cI, 128, .inl (fun _ => 0))), (ta, .inr (7, [.ref tb, .int (nI 952)])), (tb, .inl (cB, 9000, .inl f2_19))] := hD
  refine lv_iconst (v := 0) hx hb dX9_writeSong_22 (by decide) ?_
  refine lv_istore_n (lv' := [(2, .int 0), (0, .ref ta), (1, .ref aS)]) hx hb dX9_writeSong_23 rfl hl (by decide) rfl (fun ls hl => ?_)
  refine lv_iload_n hx hb dX9_writeSong_24 rfl (lv_at hl 0 rfl) ?_
  refine lv_aload_n hx hb dX9_writeSong_25 rfl (lv_at hl 2 rfl) ?_
  refine va_get (D := (dC, dI)) (ci := 6) (v := .int 1) (C := RX6) (T := TX6) (N := 4) hx hb hts iwX6 hown hK hP 0 rfl rfl 2 (by decide) (hts (.fieldLink RX9 11 "ModulePlayer$Score" "length" "I") (List.mem_cons_of_mem _ kw_471)) (fun _ h9 => h9) rfl dX9_writeSong_26 ?_
  refine lv_icmp_ge (tgt := 60) hx hb dX9_writeSong_29 (by decide) (fun c_29 => absurd c_29 (by decide)) (fun c_29 => ?_)
  refine lv_iload_n hx hb dX9_writeSong_32 rfl (lv_at hl 0 rfl) ?_
  refine lv_sipush (v := 128) hx hb dX9_writeSong_33 (by decide) ?_
  refine lv_icmp_ge (tgt := 60) hx hb dX9_writeSong_36 (by decide) (fun c_36 => absurd c_36 (by decide)) (fun c_36 => ?_)
  refine lv_aload_n hx hb dX9_writeSong_39 rfl (lv_at hl 1 rfl) ?_
  refine lv_sipush (v := 952) hx hb dX9_writeSong_40 (by decide) ?_
  refine lv_iload_n hx hb dX9_writeSong_43 rfl (lv_at hl 0 rfl) ?_
  refine lv_iadd hx hb dX9_writeSong_44 ?_
  refine g_topi (y := 952) (by decide) ?_
  refine lv_aload_n hx hb dX9_writeSong_45 rfl (lv_at hl 2 rfl) ?_
  refine va_get (D := (dC, dI)) (ci := 6) (v := .ref pl) (C := RX6) (T := TX6) (N := 4) hx hb hts iwX6 hown hK hP 0 rfl rfl 1 (by decide) (hts (.fieldLink RX9 26 "ModulePlayer$Score" "places" "[I") (List.mem_cons_of_mem _ kw_473)) (fun _ h9 => h9) rfl dX9_writeSong_46 ?_
  refine lv_iload_n hx hb dX9_writeSong_49 rfl (lv_at hl 0 rfl) ?_
  refine g_iald hx hb hK hP 2 1 rfl rfl 0 (by decide) (by unfold vp_in; decide) dX9_writeSong_50 ?_
  refine g_callv (wr := [(aS, .inr (6, [.ref ce, .ref pl, .int 1, .int 0])), (ce, .inl (cI, 2048, .inl (fun _ => 0))), (pl, .inl (cI, 128, .inl (fun _ => 0)))]) (va_runV (As := [.int 952, .int 0]) (rest := []) ⟨hx, hb, hml, hown, hts⟩ (c_putx l dC dI H.size ta tb cB f2_19 952 952 0 953 (by omega) (by omega) (by omega)) (cwV 2 hts (gG_V kw_474 kw_243 kw_244 kw_18 kw_245) rfl rfl rfl (by decide +kernel) ⟨Nat.le_of_ble_eq_true rfl, Nat.le_of_ble_eq_true rfl⟩) (g_preV (C := RX7) (T := TX7) (N := 2) hP hD hK hS hA hN hZ (q0 := 3) rfl rfl [3, 4] (by decide) rfl [0] rfl) rfl rfl hl.1 rfl (lv_room (Nat.le_of_ble_eq_true rfl)) dX9_writeSong_51 ⟨Nat.le_of_ble_eq_true rfl, Nat.le_of_ble_eq_true rfl⟩) hP hD hK hS hA [3, 4] [0, 1, 2] rfl rfl (by decide) (by decide) (fun w ty1 H locs hw_51 hP hD _ hS => ?_)
  rcases hw_51 with ⟨f2_51, hu⟩
  cases hu
  have hP : va_P (dC, dI) vwCl [(aS, .inr (6, [.ref ce, .ref pl, .int 1, .int 0])), (ce, .inl (cI, 2048, .inl (fun _ => 0))), (pl, .inl (cI, 128, .inl (fun _ => 0))), (ta, .inr (7, [.ref tb, .int (nI 953)])), (tb, .inl (cB, 9000, .inl f2_51))] H := hP
  have hD : va_D A [(aS, .inr (6, [.ref ce, .ref pl, .int 1, .int 0])), (ce, .inl (cI, 2048, .inl (fun _ => 0))), (pl, .inl (cI, 128, .inl (fun _ => 0))), (ta, .inr (7, [.ref tb, .int (nI 953)])), (tb, .inl (cB, 9000, .inl f2_51))] := hD
  refine lv_iinc (v := 1) (lv' := [(2, .int 1), (0, .ref ta), (1, .ref aS)]) hx hb dX9_writeSong_54 hl (k := 0) rfl (by decide) (by decide) rfl (fun ls hl => ?_)
  refine lv_goto (tgt := 24) hx hb dX9_writeSong_57 (by decide) ?_
  refine lv_iload_n hx hb dX9_writeSong_24 rfl (lv_at hl 0 rfl) ?_
  refine lv_aload_n hx hb dX9_writeSong_25 rfl (lv_at hl 2 rfl) ?_
  refine va_get (D := (dC, dI)) (ci := 6) (v := .int 1) (C := RX6) (T := TX6) (N := 4) hx hb hts iwX6 hown hK hP 0 rfl rfl 2 (by decide) (hts (.fieldLink RX9 11 "ModulePlayer$Score" "length" "I") (List.mem_cons_of_mem _ kw_471)) (fun _ h9 => h9) rfl dX9_writeSong_26 ?_
  refine lv_icmp_ge (tgt := 60) hx hb dX9_writeSong_29 (by decide) (fun c_29_2 => ?_) (fun c_29_2 => absurd c_29_2 (by decide))
  refine lv_iconst (v := 0) hx hb dX9_writeSong_60 (by decide) ?_
  refine lv_istore_n (lv' := [(2, .int 0), (0, .ref ta), (1, .ref aS)]) hx hb dX9_writeSong_61 rfl hl (by decide) rfl (fun ls hl => ?_)
  refine lv_iload_n hx hb dX9_writeSong_62 rfl (lv_at hl 0 rfl) ?_
  refine lv_iconst (v := 4) hx hb dX9_writeSong_63 (by decide) ?_
  refine lv_icmp_ge (tgt := 86) hx hb dX9_writeSong_64 (by decide) (fun c_64 => absurd c_64 (by decide)) (fun c_64 => ?_)
  refine lv_aload_n hx hb dX9_writeSong_67 rfl (lv_at hl 1 rfl) ?_
  refine lv_sipush (v := 1080) hx hb dX9_writeSong_68 (by decide) ?_
  refine lv_iload_n hx hb dX9_writeSong_71 rfl (lv_at hl 0 rfl) ?_
  refine lv_iadd hx hb dX9_writeSong_72 ?_
  refine g_topi (y := 1080) (by decide) ?_
  refine lv_iload_n hx hb dX9_writeSong_73 rfl (lv_at hl 0 rfl) ?_
  refine g_calli (wr := [(aS, .inr (6, [.ref ce, .ref pl, .int 1, .int 0])), (ce, .inl (cI, 2048, .inl (fun _ => 0))), (pl, .inl (cI, 128, .inl (fun _ => 0))), (ta, .inr (7, [.ref tb, .int (nI 953)])), (tb, .inl (cB, 9000, .inl f2_51))]) (va_runS (As := [.int 0]) (rest := [.int 1080, .ref ta]) ⟨hx, hb, hml, hown, hts⟩ (c_mark l dC dI H.size 0 (by decide)) (va_cwS 1 hts (gG_S kw_475 kw_300 kw_30 kw_301) rfl rfl rfl (by decide +kernel) ⟨Nat.le_of_ble_eq_true rfl, Nat.le_of_ble_eq_true rfl⟩) (g_preS hP hD hK hS hA hN hZ [] (by decide) rfl [] rfl) rfl rfl hl.1 rfl (lv_room (Nat.le_of_ble_eq_true rfl)) dX9_writeSong_74 ⟨Nat.le_of_ble_eq_true rfl, Nat.le_of_ble_eq_true rfl⟩) hP hD hK hS hA [] [0, 1, 2, 3, 4] rfl rfl (by decide) (by decide) (fun r_74 w ty1 H locs hw_74 hP hD _ hS => ?_)
  rcases hw_74 with ⟨hu, hr_74⟩
  cases hu
  have hP : va_P (dC, dI) vwCl [(aS, .inr (6, [.ref ce, .ref pl, .int 1, .int 0])), (ce, .inl (cI, 2048, .inl (fun _ => 0))), (pl, .inl (cI, 128, .inl (fun _ => 0))), (ta, .inr (7, [.ref tb, .int (nI 953)])), (tb, .inl (cB, 9000, .inl f2_51))] H := hP
  have hD : va_D A [(aS, .inr (6, [.ref ce, .ref pl, .int 1, .int 0])), (ce, .inl (cI, 2048, .inl (fun _ => 0))), (pl, .inl (cI, 128, .inl (fun _ => 0))), (ta, .inr (7, [.ref tb, .int (nI 953)])), (tb, .inl (cB, 9000, .inl f2_51))] := hD
  refine g_topi (y := mkv 0) hr_74 ?_
  refine g_callv (wr := [(aS, .inr (6, [.ref ce, .ref pl, .int 1, .int 0])), (ce, .inl (cI, 2048, .inl (fun _ => 0))), (pl, .inl (cI, 128, .inl (fun _ => 0)))]) (va_runV (As := [.int 1080, .int (mkv 0)]) (rest := []) ⟨hx, hb, hml, hown, hts⟩ (c_putx l dC dI H.size ta tb cB f2_51 953 1080 (mkv 0) 1081 (by omega) (by omega) (by omega)) (cwV 2 hts (gG_V kw_474 kw_243 kw_244 kw_18 kw_245) rfl rfl rfl (by decide +kernel) ⟨Nat.le_of_ble_eq_true rfl, Nat.le_of_ble_eq_true rfl⟩) (g_preV (C := RX7) (T := TX7) (N := 2) hP hD hK hS hA hN hZ (q0 := 3) rfl rfl [3, 4] (by decide) rfl [0] rfl) rfl rfl hl.1 rfl (lv_room (Nat.le_of_ble_eq_true rfl)) dX9_writeSong_77 ⟨Nat.le_of_ble_eq_true rfl, Nat.le_of_ble_eq_true rfl⟩) hP hD hK hS hA [3, 4] [0, 1, 2] rfl rfl (by decide) (by decide) (fun w ty1 H locs hw_77 hP hD _ hS => ?_)
  rcases hw_77 with ⟨f2_77, hu⟩
  cases hu
  have hP : va_P (dC, dI) vwCl [(aS, .inr (6, [.ref ce, .ref pl, .int 1, .int 0])), (ce, .inl (cI, 2048, .inl (fun _ => 0))), (pl, .inl (cI, 128, .inl (fun _ => 0))), (ta, .inr (7, [.ref tb, .int (nI 1081)])), (tb, .inl (cB, 9000, .inl f2_77))] H := hP
  have hD : va_D A [(aS, .inr (6, [.ref ce, .ref pl, .int 1, .int 0])), (ce, .inl (cI, 2048, .inl (fun _ => 0))), (pl, .inl (cI, 128, .inl (fun _ => 0))), (ta, .inr (7, [.ref tb, .int (nI 1081)])), (tb, .inl (cB, 9000, .inl f2_77))] := hD
  refine lv_iinc (v := 1) (lv' := [(2, .int 1), (0, .ref ta), (1, .ref aS)]) hx hb dX9_writeSong_80 hl (k := 0) rfl (by decide) (by decide) rfl (fun ls hl => ?_)
  refine lv_goto (tgt := 62) hx hb dX9_writeSong_83 (by decide) ?_
  refine lv_iload_n hx hb dX9_writeSong_62 rfl (lv_at hl 0 rfl) ?_
  refine lv_iconst (v := 4) hx hb dX9_writeSong_63 (by decide) ?_
  refine lv_icmp_ge (tgt := 86) hx hb dX9_writeSong_64 (by decide) (fun c_64_2 => absurd c_64_2 (by decide)) (fun c_64_2 => ?_)
  refine lv_aload_n hx hb dX9_writeSong_67 rfl (lv_at hl 1 rfl) ?_
  refine lv_sipush (v := 1080) hx hb dX9_writeSong_68 (by decide) ?_
  refine lv_iload_n hx hb dX9_writeSong_71 rfl (lv_at hl 0 rfl) ?_
  refine lv_iadd hx hb dX9_writeSong_72 ?_
  refine g_topi (y := 1081) (by decide) ?_
  refine lv_iload_n hx hb dX9_writeSong_73 rfl (lv_at hl 0 rfl) ?_
  refine g_calli (wr := [(aS, .inr (6, [.ref ce, .ref pl, .int 1, .int 0])), (ce, .inl (cI, 2048, .inl (fun _ => 0))), (pl, .inl (cI, 128, .inl (fun _ => 0))), (ta, .inr (7, [.ref tb, .int (nI 1081)])), (tb, .inl (cB, 9000, .inl f2_77))]) (va_runS (As := [.int 1]) (rest := [.int 1081, .ref ta]) ⟨hx, hb, hml, hown, hts⟩ (c_mark l dC dI H.size 1 (by decide)) (va_cwS 1 hts (gG_S kw_475 kw_300 kw_30 kw_301) rfl rfl rfl (by decide +kernel) ⟨Nat.le_of_ble_eq_true rfl, Nat.le_of_ble_eq_true rfl⟩) (g_preS hP hD hK hS hA hN hZ [] (by decide) rfl [] rfl) rfl rfl hl.1 rfl (lv_room (Nat.le_of_ble_eq_true rfl)) dX9_writeSong_74 ⟨Nat.le_of_ble_eq_true rfl, Nat.le_of_ble_eq_true rfl⟩) hP hD hK hS hA [] [0, 1, 2, 3, 4] rfl rfl (by decide) (by decide) (fun r_74_2 w ty1 H locs hw_74 hP hD _ hS => ?_)
  rcases hw_74 with ⟨hu, hr_74⟩
  cases hu
  have hP : va_P (dC, dI) vwCl [(aS, .inr (6, [.ref ce, .ref pl, .int 1, .int 0])), (ce, .inl (cI, 2048, .inl (fun _ => 0))), (pl, .inl (cI, 128, .inl (fun _ => 0))), (ta, .inr (7, [.ref tb, .int (nI 1081)])), (tb, .inl (cB, 9000, .inl f2_77))] H := hP
  have hD : va_D A [(aS, .inr (6, [.ref ce, .ref pl, .int 1, .int 0])), (ce, .inl (cI, 2048, .inl (fun _ => 0))), (pl, .inl (cI, 128, .inl (fun _ => 0))), (ta, .inr (7, [.ref tb, .int (nI 1081)])), (tb, .inl (cB, 9000, .inl f2_77))] := hD
  refine g_topi (y := mkv 1) hr_74 ?_
  refine g_callv (wr := [(aS, .inr (6, [.ref ce, .ref pl, .int 1, .int 0])), (ce, .inl (cI, 2048, .inl (fun _ => 0))), (pl, .inl (cI, 128, .inl (fun _ => 0)))]) (va_runV (As := [.int 1081, .int (mkv 1)]) (rest := []) ⟨hx, hb, hml, hown, hts⟩ (c_putx l dC dI H.size ta tb cB f2_77 1081 1081 (mkv 1) 1082 (by omega) (by omega) (by omega)) (cwV 2 hts (gG_V kw_474 kw_243 kw_244 kw_18 kw_245) rfl rfl rfl (by decide +kernel) ⟨Nat.le_of_ble_eq_true rfl, Nat.le_of_ble_eq_true rfl⟩) (g_preV (C := RX7) (T := TX7) (N := 2) hP hD hK hS hA hN hZ (q0 := 3) rfl rfl [3, 4] (by decide) rfl [0] rfl) rfl rfl hl.1 rfl (lv_room (Nat.le_of_ble_eq_true rfl)) dX9_writeSong_77 ⟨Nat.le_of_ble_eq_true rfl, Nat.le_of_ble_eq_true rfl⟩) hP hD hK hS hA [3, 4] [0, 1, 2] rfl rfl (by decide) (by decide) (fun w ty1 H locs hw_77 hP hD _ hS => ?_)
  rcases hw_77 with ⟨f2_77_2, hu⟩
  cases hu
  have hP : va_P (dC, dI) vwCl [(aS, .inr (6, [.ref ce, .ref pl, .int 1, .int 0])), (ce, .inl (cI, 2048, .inl (fun _ => 0))), (pl, .inl (cI, 128, .inl (fun _ => 0))), (ta, .inr (7, [.ref tb, .int (nI 1082)])), (tb, .inl (cB, 9000, .inl f2_77_2))] H := hP
  have hD : va_D A [(aS, .inr (6, [.ref ce, .ref pl, .int 1, .int 0])), (ce, .inl (cI, 2048, .inl (fun _ => 0))), (pl, .inl (cI, 128, .inl (fun _ => 0))), (ta, .inr (7, [.ref tb, .int (nI 1082)])), (tb, .inl (cB, 9000, .inl f2_77_2))] := hD
  refine lv_iinc (v := 2) (lv' := [(2, .int 2), (0, .ref ta), (1, .ref aS)]) hx hb dX9_writeSong_80 hl (k := 0) rfl (by decide) (by decide) rfl (fun ls hl => ?_)
  refine lv_goto (tgt := 62) hx hb dX9_writeSong_83 (by decide) ?_
  refine lv_iload_n hx hb dX9_writeSong_62 rfl (lv_at hl 0 rfl) ?_
  refine lv_iconst (v := 4) hx hb dX9_writeSong_63 (by decide) ?_
  refine lv_icmp_ge (tgt := 86) hx hb dX9_writeSong_64 (by decide) (fun c_64_3 => absurd c_64_3 (by decide)) (fun c_64_3 => ?_)
  refine lv_aload_n hx hb dX9_writeSong_67 rfl (lv_at hl 1 rfl) ?_
  refine lv_sipush (v := 1080) hx hb dX9_writeSong_68 (by decide) ?_
  refine lv_iload_n hx hb dX9_writeSong_71 rfl (lv_at hl 0 rfl) ?_
  refine lv_iadd hx hb dX9_writeSong_72 ?_
  refine g_topi (y := 1082) (by decide) ?_
  refine lv_iload_n hx hb dX9_writeSong_73 rfl (lv_at hl 0 rfl) ?_
  refine g_calli (wr := [(aS, .inr (6, [.ref ce, .ref pl, .int 1, .int 0])), (ce, .inl (cI, 2048, .inl (fun _ => 0))), (pl, .inl (cI, 128, .inl (fun _ => 0))), (ta, .inr (7, [.ref tb, .int (nI 1082)])), (tb, .inl (cB, 9000, .inl f2_77_2))]) (va_runS (As := [.int 2]) (rest := [.int 1082, .ref ta]) ⟨hx, hb, hml, hown, hts⟩ (c_mark l dC dI H.size 2 (by decide)) (va_cwS 1 hts (gG_S kw_475 kw_300 kw_30 kw_301) rfl rfl rfl (by decide +kernel) ⟨Nat.le_of_ble_eq_true rfl, Nat.le_of_ble_eq_true rfl⟩) (g_preS hP hD hK hS hA hN hZ [] (by decide) rfl [] rfl) rfl rfl hl.1 rfl (lv_room (Nat.le_of_ble_eq_true rfl)) dX9_writeSong_74 ⟨Nat.le_of_ble_eq_true rfl, Nat.le_of_ble_eq_true rfl⟩) hP hD hK hS hA [] [0, 1, 2, 3, 4] rfl rfl (by decide) (by decide) (fun r_74_3 w ty1 H locs hw_74 hP hD _ hS => ?_)
  rcases hw_74 with ⟨hu, hr_74⟩
  cases hu
  have hP : va_P (dC, dI) vwCl [(aS, .inr (6, [.ref ce, .ref pl, .int 1, .int 0])), (ce, .inl (cI, 2048, .inl (fun _ => 0))), (pl, .inl (cI, 128, .inl (fun _ => 0))), (ta, .inr (7, [.ref tb, .int (nI 1082)])), (tb, .inl (cB, 9000, .inl f2_77_2))] H := hP
  have hD : va_D A [(aS, .inr (6, [.ref ce, .ref pl, .int 1, .int 0])), (ce, .inl (cI, 2048, .inl (fun _ => 0))), (pl, .inl (cI, 128, .inl (fun _ => 0))), (ta, .inr (7, [.ref tb, .int (nI 1082)])), (tb, .inl (cB, 9000, .inl f2_77_2))] := hD
  refine g_topi (y := mkv 2) hr_74 ?_
  refine g_callv (wr := [(aS, .inr (6, [.ref ce, .ref pl, .int 1, .int 0])), (ce, .inl (cI, 2048, .inl (fun _ => 0))), (pl, .inl (cI, 128, .inl (fun _ => 0)))]) (va_runV (As := [.int 1082, .int (mkv 2)]) (rest := []) ⟨hx, hb, hml, hown, hts⟩ (c_putx l dC dI H.size ta tb cB f2_77_2 1082 1082 (mkv 2) 1083 (by omega) (by omega) (by omega)) (cwV 2 hts (gG_V kw_474 kw_243 kw_244 kw_18 kw_245) rfl rfl rfl (by decide +kernel) ⟨Nat.le_of_ble_eq_true rfl, Nat.le_of_ble_eq_true rfl⟩) (g_preV (C := RX7) (T := TX7) (N := 2) hP hD hK hS hA hN hZ (q0 := 3) rfl rfl [3, 4] (by decide) rfl [0] rfl) rfl rfl hl.1 rfl (lv_room (Nat.le_of_ble_eq_true rfl)) dX9_writeSong_77 ⟨Nat.le_of_ble_eq_true rfl, Nat.le_of_ble_eq_true rfl⟩) hP hD hK hS hA [3, 4] [0, 1, 2] rfl rfl (by decide) (by decide) (fun w ty1 H locs hw_77 hP hD _ hS => ?_)
  rcases hw_77 with ⟨f2_77_3, hu⟩
  cases hu
  have hP : va_P (dC, dI) vwCl [(aS, .inr (6, [.ref ce, .ref pl, .int 1, .int 0])), (ce, .inl (cI, 2048, .inl (fun _ => 0))), (pl, .inl (cI, 128, .inl (fun _ => 0))), (ta, .inr (7, [.ref tb, .int (nI 1083)])), (tb, .inl (cB, 9000, .inl f2_77_3))] H := hP
  have hD : va_D A [(aS, .inr (6, [.ref ce, .ref pl, .int 1, .int 0])), (ce, .inl (cI, 2048, .inl (fun _ => 0))), (pl, .inl (cI, 128, .inl (fun _ => 0))), (ta, .inr (7, [.ref tb, .int (nI 1083)])), (tb, .inl (cB, 9000, .inl f2_77_3))] := hD
  refine lv_iinc (v := 3) (lv' := [(2, .int 3), (0, .ref ta), (1, .ref aS)]) hx hb dX9_writeSong_80 hl (k := 0) rfl (by decide) (by decide) rfl (fun ls hl => ?_)
  refine lv_goto (tgt := 62) hx hb dX9_writeSong_83 (by decide) ?_
  refine lv_iload_n hx hb dX9_writeSong_62 rfl (lv_at hl 0 rfl) ?_
  refine lv_iconst (v := 4) hx hb dX9_writeSong_63 (by decide) ?_
  refine lv_icmp_ge (tgt := 86) hx hb dX9_writeSong_64 (by decide) (fun c_64_4 => absurd c_64_4 (by decide)) (fun c_64_4 => ?_)
  refine lv_aload_n hx hb dX9_writeSong_67 rfl (lv_at hl 1 rfl) ?_
  refine lv_sipush (v := 1080) hx hb dX9_writeSong_68 (by decide) ?_
  refine lv_iload_n hx hb dX9_writeSong_71 rfl (lv_at hl 0 rfl) ?_
  refine lv_iadd hx hb dX9_writeSong_72 ?_
  refine g_topi (y := 1083) (by decide) ?_
  refine lv_iload_n hx hb dX9_writeSong_73 rfl (lv_at hl 0 rfl) ?_
  refine g_calli (wr := [(aS, .inr (6, [.ref ce, .ref pl, .int 1, .int 0])), (ce, .inl (cI, 2048, .inl (fun _ => 0))), (pl, .inl (cI, 128, .inl (fun _ => 0))), (ta, .inr (7, [.ref tb, .int (nI 1083)])), (tb, .inl (cB, 9000, .inl f2_77_3))]) (va_runS (As := [.int 3]) (rest := [.int 1083, .ref ta]) ⟨hx, hb, hml, hown, hts⟩ (c_mark l dC dI H.size 3 (by decide)) (va_cwS 1 hts (gG_S kw_475 kw_300 kw_30 kw_301) rfl rfl rfl (by decide +kernel) ⟨Nat.le_of_ble_eq_true rfl, Nat.le_of_ble_eq_true rfl⟩) (g_preS hP hD hK hS hA hN hZ [] (by decide) rfl [] rfl) rfl rfl hl.1 rfl (lv_room (Nat.le_of_ble_eq_true rfl)) dX9_writeSong_74 ⟨Nat.le_of_ble_eq_true rfl, Nat.le_of_ble_eq_true rfl⟩) hP hD hK hS hA [] [0, 1, 2, 3, 4] rfl rfl (by decide) (by decide) (fun r_74_4 w ty1 H locs hw_74 hP hD _ hS => ?_)
  rcases hw_74 with ⟨hu, hr_74⟩
  cases hu
  have hP : va_P (dC, dI) vwCl [(aS, .inr (6, [.ref ce, .ref pl, .int 1, .int 0])), (ce, .inl (cI, 2048, .inl (fun _ => 0))), (pl, .inl (cI, 128, .inl (fun _ => 0))), (ta, .inr (7, [.ref tb, .int (nI 1083)])), (tb, .inl (cB, 9000, .inl f2_77_3))] H := hP
  have hD : va_D A [(aS, .inr (6, [.ref ce, .ref pl, .int 1, .int 0])), (ce, .inl (cI, 2048, .inl (fun _ => 0))), (pl, .inl (cI, 128, .inl (fun _ => 0))), (ta, .inr (7, [.ref tb, .int (nI 1083)])), (tb, .inl (cB, 9000, .inl f2_77_3))] := hD
  refine g_topi (y := mkv 3) hr_74 ?_
  refine g_callv (wr := [(aS, .inr (6, [.ref ce, .ref pl, .int 1, .int 0])), (ce, .inl (cI, 2048, .inl (fun _ => 0))), (pl, .inl (cI, 128, .inl (fun _ => 0)))]) (va_runV (As := [.int 1083, .int (mkv 3)]) (rest := []) ⟨hx, hb, hml, hown, hts⟩ (c_putx l dC dI H.size ta tb cB f2_77_3 1083 1083 (mkv 3) 1084 (by omega) (by omega) (by omega)) (cwV 2 hts (gG_V kw_474 kw_243 kw_244 kw_18 kw_245) rfl rfl rfl (by decide +kernel) ⟨Nat.le_of_ble_eq_true rfl, Nat.le_of_ble_eq_true rfl⟩) (g_preV (C := RX7) (T := TX7) (N := 2) hP hD hK hS hA hN hZ (q0 := 3) rfl rfl [3, 4] (by decide) rfl [0] rfl) rfl rfl hl.1 rfl (lv_room (Nat.le_of_ble_eq_true rfl)) dX9_writeSong_77 ⟨Nat.le_of_ble_eq_true rfl, Nat.le_of_ble_eq_true rfl⟩) hP hD hK hS hA [3, 4] [0, 1, 2] rfl rfl (by decide) (by decide) (fun w ty1 H locs hw_77 hP hD _ hS => ?_)
  rcases hw_77 with ⟨f2_77_4, hu⟩
  cases hu
  have hP : va_P (dC, dI) vwCl [(aS, .inr (6, [.ref ce, .ref pl, .int 1, .int 0])), (ce, .inl (cI, 2048, .inl (fun _ => 0))), (pl, .inl (cI, 128, .inl (fun _ => 0))), (ta, .inr (7, [.ref tb, .int (nI 1084)])), (tb, .inl (cB, 9000, .inl f2_77_4))] H := hP
  have hD : va_D A [(aS, .inr (6, [.ref ce, .ref pl, .int 1, .int 0])), (ce, .inl (cI, 2048, .inl (fun _ => 0))), (pl, .inl (cI, 128, .inl (fun _ => 0))), (ta, .inr (7, [.ref tb, .int (nI 1084)])), (tb, .inl (cB, 9000, .inl f2_77_4))] := hD
  refine lv_iinc (v := 4) (lv' := [(2, .int 4), (0, .ref ta), (1, .ref aS)]) hx hb dX9_writeSong_80 hl (k := 0) rfl (by decide) (by decide) rfl (fun ls hl => ?_)
  refine lv_goto (tgt := 62) hx hb dX9_writeSong_83 (by decide) ?_
  refine lv_iload_n hx hb dX9_writeSong_62 rfl (lv_at hl 0 rfl) ?_
  refine lv_iconst (v := 4) hx hb dX9_writeSong_63 (by decide) ?_
  refine lv_icmp_ge (tgt := 86) hx hb dX9_writeSong_64 (by decide) (fun c_64_5 => ?_) (fun c_64_5 => absurd c_64_5 (by decide))
  refine lv_aload_n hx hb dX9_writeSong_86 rfl (lv_at hl 2 rfl) ?_
  refine g_calli (wr := [(ce, .inl (cI, 2048, .inl (fun _ => 0))), (ta, .inr (7, [.ref tb, .int (nI 1084)])), (tb, .inl (cB, 9000, .inl f2_77_4))]) (va_runV (As := []) (rest := []) ⟨hx, hb, hml, hown, hts⟩ (c_count1 l dC dI H.size aS ce pl cI 0 ) (cwV 0 hts (gG_V kw_476 kw_347 kw_348 kw_26 kw_349) rfl rfl rfl (by decide +kernel) ⟨Nat.le_of_ble_eq_true rfl, Nat.le_of_ble_eq_true rfl⟩) (g_preV (C := RX6) (T := TX6) (N := 4) hP hD hK hS hA hN hZ (q0 := 0) rfl rfl [0, 2] (by decide) rfl [1] rfl) rfl rfl hl.1 rfl (lv_room (Nat.le_of_ble_eq_true rfl)) dX9_writeSong_87 ⟨Nat.le_of_ble_eq_true rfl, Nat.le_of_ble_eq_true rfl⟩) hP hD hK hS hA [0, 2] [1, 3, 4] rfl rfl (by decide) (by decide) (fun r_87 w ty1 H locs hw_87 hP hD _ hS => ?_)
  rcases hw_87 with ⟨hu, hr_87⟩
  cases hu
  have hP : va_P (dC, dI) vwCl [(ce, .inl (cI, 2048, .inl (fun _ => 0))), (ta, .inr (7, [.ref tb, .int (nI 1084)])), (tb, .inl (cB, 9000, .inl f2_77_4)), (aS, .inr (6, [.ref ce, .ref pl, .int 1, .int 0])), (pl, .inl (cI, 128, .inl (fun _ => 0)))] H := hP
  have hD : va_D A [(ce, .inl (cI, 2048, .inl (fun _ => 0))), (ta, .inr (7, [.ref tb, .int (nI 1084)])), (tb, .inl (cB, 9000, .inl f2_77_4)), (aS, .inr (6, [.ref ce, .ref pl, .int 1, .int 0])), (pl, .inl (cI, 128, .inl (fun _ => 0)))] := hD
  refine g_topi (y := 1) hr_87 ?_
  refine lv_istore_n (lv' := [(2, .int 1), (0, .ref ta), (1, .ref aS)]) hx hb dX9_writeSong_90 rfl hl (by decide) rfl (fun ls hl => ?_)
  refine lv_iconst (v := 0) hx hb dX9_writeSong_91 (by decide) ?_
  refine lv_istore_n (lv' := [(3, .int 0), (2, .int 1), (0, .ref ta), (1, .ref aS)]) hx hb dX9_writeSong_92 rfl hl (by decide) rfl (fun ls hl => ?_)
  refine lv_iload_n hx hb dX9_writeSong_93 rfl (lv_at hl 0 rfl) ?_
  refine lv_iload_n hx hb dX9_writeSong_94 rfl (lv_at hl 1 rfl) ?_
  refine lv_icmp_ge (tgt := 110) hx hb dX9_writeSong_95 (by decide) (fun c_95 => absurd c_95 (by decide)) (fun c_95 => ?_)
  refine lv_aload_n hx hb dX9_writeSong_98 rfl (lv_at hl 2 rfl) ?_
  refine lv_aload_n hx hb dX9_writeSong_99 rfl (lv_at hl 3 rfl) ?_
  refine lv_iload_n hx hb dX9_writeSong_100 rfl (lv_at hl 0 rfl) ?_
  refine g_callv (wr := [(pl, .inl (cI, 128, .inl (fun _ => 0)))]) (va_runS (As := [.ref ta, .ref aS, .int 0]) (rest := []) ⟨hx, hb, hml, hown, hts⟩ (c_writePattern l dC dI H.size ta tb aS ce pl cB cI f2_77_4 (fun _ => 0) 1 0 0 1084 (by decide) (by decide) (by decide)) (va_cwS 3 hts (gG_S kw_477 kw_478 kw_469 kw_479) rfl rfl rfl (by decide +kernel) ⟨Nat.le_of_ble_eq_true rfl, Nat.le_of_ble_eq_true rfl⟩) (g_preS hP hD hK hS hA hN hZ [1, 2, 3, 0] (by decide) rfl [0, 1] rfl) rfl rfl hl.1 rfl (lv_room (Nat.le_of_ble_eq_true rfl)) dX9_writeSong_101 ⟨Nat.le_of_ble_eq_true rfl, Nat.le_of_ble_eq_true rfl⟩) hP hD hK hS hA [1, 2, 3, 0] [4] rfl rfl (by decide) (by decide) (fun w ty1 H locs hw_101 hP hD _ hS => ?_)
  rcases hw_101 with ⟨f2_101, hu⟩
  cases hu
  have hP : va_P (dC, dI) vwCl [(pl, .inl (cI, 128, .inl (fun _ => 0))), (ta, .inr (7, [.ref tb, .int (nI (1084 + 1024))])), (tb, .inl (cB, 9000, .inl f2_101)), (aS, .inr (6, [.ref ce, .ref pl, .int 1, .int 0])), (ce, .inl (cI, 2048, .inl (fun _ => 0)))] H := hP
  have hD : va_D A [(pl, .inl (cI, 128, .inl (fun _ => 0))), (ta, .inr (7, [.ref tb, .int (nI (1084 + 1024))])), (tb, .inl (cB, 9000, .inl f2_101)), (aS, .inr (6, [.ref ce, .ref pl, .int 1, .int 0])), (ce, .inl (cI, 2048, .inl (fun _ => 0)))] := hD
  refine lv_iinc (v := 1) (lv' := [(3, .int 1), (2, .int 1), (0, .ref ta), (1, .ref aS)]) hx hb dX9_writeSong_104 hl (k := 0) rfl (by decide) (by decide) rfl (fun ls hl => ?_)
  refine lv_goto (tgt := 93) hx hb dX9_writeSong_107 (by decide) ?_
  refine lv_iload_n hx hb dX9_writeSong_93 rfl (lv_at hl 0 rfl) ?_
  refine lv_iload_n hx hb dX9_writeSong_94 rfl (lv_at hl 1 rfl) ?_
  refine lv_icmp_ge (tgt := 110) hx hb dX9_writeSong_95 (by decide) (fun c_95_2 => ?_) (fun c_95_2 => absurd c_95_2 (by decide))
  have hP9 := hP.sub (ws' := [(ta, .inr (7, [.ref tb, .int (nI (1084 + 1024))])), (tb, .inl (cB, 9000, .inl f2_101)), (aS, .inr (6, [.ref ce, .ref pl, .int 1, .int 0])), (ce, .inl (cI, 2048, .inl (fun _ => 0))), (pl, .inl (cI, 128, .inl (fun _ => 0)))]) [1, 2, 3, 4, 0] rfl
  have hD9 := hD.sub (ws' := [(ta, .inr (7, [.ref tb, .int (nI (1084 + 1024))])), (tb, .inl (cB, 9000, .inl f2_101)), (aS, .inr (6, [.ref ce, .ref pl, .int 1, .int 0])), (ce, .inl (cI, 2048, .inl (fun _ => 0))), (pl, .inl (cI, 128, .inl (fun _ => 0)))]) [1, 2, 3, 4, 0] (by decide) rfl
  have hK9 := hK.sub (tys' := []) [] rfl
  exact W.vret hx hb hr (fun t ht hW => ⟨⟨([(ta, .inr (7, [.ref tb, .int (nI (1084 + 1024))])), (tb, .inl (cB, 9000, .inl f2_101)), (aS, .inr (6, [.ref ce, .ref pl, .int 1, .int 0])), (ce, .inl (cI, 2048, .inl (fun _ => 0))), (pl, .inl (cI, 128, .inl (fun _ => 0)))], []), rfl, ⟨f2_101, rfl⟩, by rw [ht]; exact hP9, va_K.moved hW.alike hK9, hD9⟩, hS.F ht⟩) hS.2.2 dX9_writeSong_110

set_option maxHeartbeats 400000 in
set_option maxRecDepth 100000 in
/-- writeSamples of a new one -/
theorem c_writeSamples1 (l : Launch) (dC : Nat → ClassId) (dI : Nat → Nat → Nat) (sz : Nat) (ta tb aB sa bb : Nat) (ad : Nat → Nat) (cB cS : ClassId) (g : Nat → Option Nat) (f : Nat → Int32) (L : Nat) (nx : Int32) (hg : ∀ x, x < 32 → g x = some (ad x)) (hL1 : 1084 ≤ L) (hL2 : L ≤ 9000) : Met l yX9_writeSamples (wsG (.code yX9_writeSamples cX9_writeSamples 8 none)) ({ frames := 3, cells := 0, slots := 0, locals := 66 }) (va_Pc [.ref ta, .ref aB, .int nx] (gP (dC, dI) [(cB, .byte), (cS, .object RX5)] ([(ta, .inr (7, [.ref tb, .int (nI L)])), (tb, .inl (cB, 9000, .inl f)), (aB, .inr (0, [.ref sa, .ref bb, .int 0])), (sa, .inl (cS, 32, .inr (.inr (.inr (.inr g)))))] ++ famN 32 ad (fun _ => 0) (fun _ => 0) (fun _ => 0) (fun _ => 0) (fun _ => 0) (fun _ => 0)) sz)) (va_Qv (fun u : va_W × gT => ∃ (f2 : Nat → Int32), u = ([(ta, .inr (7, [.ref tb, .int (nI L)])), (tb, .inl (cB, 9000, .inl f2))], [])) (gB (dC, dI) (va_A ([(ta, .inr (7, [.ref tb, .int (nI L)])), (tb, .inl (cB, 9000, .inl f)), (aB, .inr (0, [.ref sa, .ref bb, .int 0])), (sa, .inl (cS, 32, .inr (.inr (.inr (.inr g)))))] ++ famN 32 ad (fun _ => 0) (fun _ => 0) (fun _ => 0) (fun _ => 0) (fun _ => 0) (fun _ => 0)) sz)) (va_A ([(ta, .inr (7, [.ref tb, .int (nI L)])), (tb, .inl (cB, 9000, .inl f)), (aB, .inr (0, [.ref sa, .ref bb, .int 0])), (sa, .inl (cS, 32, .inr (.inr (.inr (.inr g)))))] ++ famN 32 ad (fun _ => 0) (fun _ => 0) (fun _ => 0) (fun _ => 0) (fun _ => 0) (fun _ => 0)) sz)) 0 0 (va_A ([(ta, .inr (7, [.ref tb, .int (nI L)])), (tb, .inl (cB, 9000, .inl f)), (aB, .inr (0, [.ref sa, .ref bb, .int 0])), (sa, .inl (cS, 32, .inr (.inr (.inr (.inr g)))))] ++ famN 32 ad (fun _ => 0) (fun _ => 0) (fun _ => 0) (fun _ => 0) (fun _ => 0) (fun _ => 0)) sz) := by
  refine Met.ofW (cc := cX9_writeSamples) (maxL := 8) (ret := none) (by decide) rfl ?_
  intro p e s m args below meth c s₁ B hml hv
  obtain ⟨rfl, hsz, hP, hK, hD0, hN, hZ⟩ := hv
  have hx := B.exec
  have hb := B.bytes
  have hr := B.returns
  have hts := atoms_spec (ws := (wsG (.code yX9_writeSamples cX9_writeSamples 8 none))) B.pre
  have hown : s.vm.findClass RX9 = some m.cls := findClass_of_methodNamed B.named
  have hlocks := B.notSynchronized
  subst hsz
  have hD := hD0.self (sz := s.heap.size)
  generalize hAe : va_A ([(ta, .inr (7, [.ref tb, .int (nI L)])), (tb, .inl (cB, 9000, .inl f)), (aB, .inr (0, [.ref sa, .ref bb, .int 0])), (sa, .inl (cS, 32, .inr (.inr (.inr (.inr g)))))] ++ famN 32 ad (fun _ => 0) (fun _ => 0) (fun _ => 0) (fun _ => 0) (fun _ => 0) (fun _ => 0)) s.heap.size = A at hD hZ ⊢
  have hA : ∀ q : Nat, s.heap.size ≤ q → A q := fun q h => by rw [← hAe]; exact Or.inr h
  have hl := lv_entry ([.ref ta, .ref aB, .int nx]) (n := 8) (Nat.le_of_ble_eq_true rfl)
  rw [lg_entry_eq]
  generalize (lg_sl ([.ref ta, .ref aB, .int nx]) ++ List.replicate (8 - (lg_sl ([.ref ta, .ref aB, .int nx])).length) Slot.unset).toArray = ls at hl ⊢
  have hl : lv_has ls 8 [(0, .ref ta), (1, .ref aB), (2, .int nx)] := hl
  refine g_start (A := A) hP (fun H locs hP hS => ?_)
  refine lv_iload_n hx hb dX9_writeSamples_0 rfl (lv_at hl 2 rfl) ?_
  refine lv_istore_n (lv' := [(3, .int nx), (0, .ref ta), (1, .ref aB), (2, .int nx)]) hx hb dX9_writeSamples_1 rfl hl (by decide) rfl (fun ls hl => ?_)
  refine lv_iconst (v := 1) hx hb dX9_writeSamples_2 (by decide) ?_
  refine lv_istore (lv' := [(4, .int 1), (3, .int nx), (0, .ref ta), (1, .ref aB), (2, .int nx)]) hx hb dX9_writeSamples_3 hl (by decide) rfl (fun ls hl => ?_)
  have LP5 : ∀ (fu5 : Nat) (qq : Nat) (nx1 : Int32) (g0 : Nat → Int32) (hq1 : 1 ≤ qq) (hq2 : qq ≤ 32) (hm5 : 32 - qq < fu5) (H : Heap) (locs : List Loc), va_P (dC, dI) vwCl ([(ta, .inr (7, [.ref tb, .int (nI L)])), (tb, .inl (cB, 9000, .inl g0)), (aB, .inr (0, [.ref sa, .ref bb, .int 0])), (sa, .inl (cS, 32, .inr (.inr (.inr (.inr g)))))] ++ famN 32 ad (fun _ => 0) (fun _ => 0) (fun _ => 0) (fun _ => 0) (fun _ => 0) (fun _ => 0)) H → va_D A ([(ta, .inr (7, [.ref tb, .int (nI L)])), (tb, .inl (cB, 9000, .inl g0)), (aB, .inr (0, [.ref sa, .ref bb, .int 0])), (sa, .inl (cS, 32, .inr (.inr (.inr (.inr g)))))] ++ famN 32 ad (fun _ => 0) (fun _ => 0) (fun _ => 0) (fun _ => 0) (fun _ => 0) (fun _ => 0)) → va_S A s.heap H locs → ∀ ls : Array Slot, lv_has ls 8 [(4, .int (nI qq)), (3, .int nx1), (0, .ref ta), (1, .ref aB), (2, .int nx)] → W p l e ({ frames := 3, cells := 0, slots := 0, locals := 66 }) s m ([.ref ta, .ref aB, .int nx] : List Value).toArray below meth c H locs (0) (0) (MQ below (va_Qv (fun u : va_W × gT => ∃ (f2 : Nat → Int32), u = ([(ta, .inr (7, [.ref tb, .int (nI L)])), (tb, .inl (cB, 9000, .inl f2))], [])) (gB (dC, dI) A) A) ([.ref ta, .ref aB, .int nx] : List Value).toArray s 0 0 A) (F0 m 5 ls []) := by
    intro fu5
    induction fu5 with
    | zero => intro qq nx1 g0 hq1 hq2 hm5; exact absurd hm5 (Nat.not_lt_zero _)
    | succ fu5 ih5 =>
      intro qq nx1 g0 hq1 hq2 hm5 H locs hP hD hS ls hl
      refine lv_iload hx hb dX9_writeSamples_5 (lv_at hl 0 rfl) ?_
      refine lv_bipush (v := 31) hx hb dX9_writeSamples_7 (by decide) ?_
      refine lv_icmp_gt (tgt := 155) hx hb dX9_writeSamples_9 (by decide) (fun c_9 => ?_) (fun c_9 => ?_)
      · have hP9 := hP.sub (ws' := [(ta, .inr (7, [.ref tb, .int (nI L)])), (tb, .inl (cB, 9000, .inl g0))]) [0, 1] rfl
        have hD9 := hD.sub (ws' := [(ta, .inr (7, [.ref tb, .int (nI L)])), (tb, .inl (cB, 9000, .inl g0))]) [0, 1] (by decide) rfl
        have hK9 := hK.sub (tys' := []) [] rfl
        exact W.vret hx hb hr (fun t ht hW => ⟨⟨([(ta, .inr (7, [.ref tb, .int (nI L)])), (tb, .inl (cB, 9000, .inl g0))], []), rfl, ⟨g0, rfl⟩, by rw [ht]; exact hP9, va_K.moved hW.alike hK9, hD9⟩, hS.F ht⟩) hS.2.2 dX9_writeSamples_155
      have hq3 : qq < 32 := by have := nI_nlt2 (a := 31) c_9 (by omega); omega
      refine lv_iload hx hb dX9_writeSamples_12 (lv_at hl 0 rfl) ?_
      refine g_calliQ (X := [(ta, .inr (7, [.ref tb, .int (nI L)])), (tb, .inl (cB, 9000, .inl g0)), (aB, .inr (0, [.ref sa, .ref bb, .int 0])), (sa, .inl (cS, 32, .inr (.inr (.inr (.inr g)))))]) (wr := [(ta, .inr (7, [.ref tb, .int (nI L)])), (tb, .inl (cB, 9000, .inl g0)), (aB, .inr (0, [.ref sa, .ref bb, .int 0])), (sa, .inl (cS, 32, .inr (.inr (.inr (.inr g)))))]) (va_runS (As := [.int (nI qq)]) (rest := []) ⟨hx, hb, hml, hown, hts⟩ (c_sampleAt l dC dI H.size qq (hq1)) (va_cwS 1 hts (gG_S kw_496 kw_307 kw_30 kw_308) rfl rfl rfl (by decide +kernel) ⟨Nat.le_of_ble_eq_true rfl, Nat.le_of_ble_eq_true rfl⟩) (g_preS (ws := [(ta, .inr (7, [.ref tb, .int (nI L)])), (tb, .inl (cB, 9000, .inl g0)), (aB, .inr (0, [.ref sa, .ref bb, .int 0])), (sa, .inl (cS, 32, .inr (.inr (.inr (.inr g)))))]) hP.left hD.left hK hS hA hN hZ [] (by decide) rfl [] rfl) rfl rfl hl.1 rfl (lv_room (Nat.le_of_ble_eq_true rfl)) dX9_writeSamples_14 ⟨Nat.le_of_ble_eq_true rfl, Nat.le_of_ble_eq_true rfl⟩) hP hD hK hS hA [] [0, 1, 2, 3] rfl rfl (by decide) (by decide) (fun r_14 w ty1 H locs hw_14 hP hD _ hS => ?_)
      rcases hw_14 with ⟨hu, hr_14⟩
      cases hu
      have hP : va_P (dC, dI) vwCl ([(ta, .inr (7, [.ref tb, .int (nI L)])), (tb, .inl (cB, 9000, .inl g0)), (aB, .inr (0, [.ref sa, .ref bb, .int 0])), (sa, .inl (cS, 32, .inr (.inr (.inr (.inr g)))))] ++ famN 32 ad (fun _ => 0) (fun _ => 0) (fun _ => 0) (fun _ => 0) (fun _ => 0) (fun _ => 0)) H := hP
      have hD : va_D A ([(ta, .inr (7, [.ref tb, .int (nI L)])), (tb, .inl (cB, 9000, .inl g0)), (aB, .inr (0, [.ref sa, .ref bb, .int 0])), (sa, .inl (cS, 32, .inr (.inr (.inr (.inr g)))))] ++ famN 32 ad (fun _ => 0) (fun _ => 0) (fun _ => 0) (fun _ => 0) (fun _ => 0) (fun _ => 0)) := hD
      refine g_topi (y := nI (20 + 30 * (qq - 1))) hr_14 ?_
      refine lv_istore (lv' := [(5, .int (nI (20 + 30 * (qq - 1)))), (4, .int (nI qq)), (3, .int nx1), (0, .ref ta), (1, .ref aB), (2, .int nx)]) hx hb dX9_writeSamples_17 hl (by decide) rfl (fun ls hl => ?_)
      refine lv_aload_n hx hb dX9_writeSamples_19 rfl (lv_at hl 4 rfl) ?_
      refine lv_iload hx hb dX9_writeSamples_20 (lv_at hl 1 rfl) ?_
      refine g_callqQ (X := [(ta, .inr (7, [.ref tb, .int (nI L)])), (tb, .inl (cB, 9000, .inl g0)), (aB, .inr (0, [.ref sa, .ref bb, .int 0])), (sa, .inl (cS, 32, .inr (.inr (.inr (.inr g)))))]) (wr := [(ta, .inr (7, [.ref tb, .int (nI L)])), (tb, .inl (cB, 9000, .inl g0))]) (va_runV (As := [.int (nI qq)]) (rest := []) ⟨hx, hb, hml, hown, hts⟩ (c_get l dC dI H.size aB sa bb 0 ad cS g qq (hg) (hq3)) (cwV 1 hts (gG_V kw_497 kw_405 kw_406 kw_22 kw_407) rfl rfl rfl (by decide +kernel) ⟨Nat.le_of_ble_eq_true rfl, Nat.le_of_ble_eq_true rfl⟩) (g_preV (ws := [(ta, .inr (7, [.ref tb, .int (nI L)])), (tb, .inl (cB, 9000, .inl g0)), (aB, .inr (0, [.ref sa, .ref bb, .int 0])), (sa, .inl (cS, 32, .inr (.inr (.inr (.inr g)))))]) (C := RX0) (T := TX0) (N := 3) hP.left hD.left hK hS hA hN hZ (q0 := 2) rfl rfl [2, 3] (by decide) rfl [1] rfl) rfl rfl hl.1 rfl (lv_room (Nat.le_of_ble_eq_true rfl)) dX9_writeSamples_22 ⟨Nat.le_of_ble_eq_true rfl, Nat.le_of_ble_eq_true rfl⟩) hP hD hK hS hA [2, 3] [0, 1] rfl rfl (by decide) (by decide) (fun r_22 w ty1 H locs hw_22 hP hD _ hS => ?_)
      rcases hw_22 with ⟨hu, hr_22⟩
      cases hu
      have hP : va_P (dC, dI) vwCl ([(ta, .inr (7, [.ref tb, .int (nI L)])), (tb, .inl (cB, 9000, .inl g0)), (aB, .inr (0, [.ref sa, .ref bb, .int 0])), (sa, .inl (cS, 32, .inr (.inr (.inr (.inr g)))))] ++ famN 32 ad (fun _ => 0) (fun _ => 0) (fun _ => 0) (fun _ => 0) (fun _ => 0) (fun _ => 0)) H := hP
      have hD : va_D A ([(ta, .inr (7, [.ref tb, .int (nI L)])), (tb, .inl (cB, 9000, .inl g0)), (aB, .inr (0, [.ref sa, .ref bb, .int 0])), (sa, .inl (cS, 32, .inr (.inr (.inr (.inr g)))))] ++ famN 32 ad (fun _ => 0) (fun _ => 0) (fun _ => 0) (fun _ => 0) (fun _ => 0) (fun _ => 0)) := hD
      subst hr_22
      refine W.eq (g2 := F0 m 25 ls [.ref (ad qq)]) rfl ?_
      refine lv_astore (lv' := [(6, .ref (ad qq)), (5, .int (nI (20 + 30 * (qq - 1)))), (4, .int (nI qq)), (3, .int nx1), (0, .ref ta), (1, .ref aB), (2, .int nx)]) hx hb dX9_writeSamples_25 hl (by decide) rfl (fun ls hl => ?_)
      refine lv_aload_n hx hb dX9_writeSamples_27 rfl (lv_at hl 4 rfl) ?_
      refine lv_iload hx hb dX9_writeSamples_28 (lv_at hl 1 rfl) ?_
      refine lv_bipush (v := 22) hx hb dX9_writeSamples_30 (by decide) ?_
      refine lv_iadd hx hb dX9_writeSamples_32 ?_
      refine g_topi (y := nI (20 + 30 * (qq - 1) + 22)) (nI_add _ 22) ?_
      refine lv_aload hx hb dX9_writeSamples_33 (lv_at hl 0 rfl) ?_
      refine va_get (D := (dC, dI)) (ci := 5) (v := .int ((fun _ => 0) qq)) (C := RX5) (T := TX5) (N := 6) hx hb hts iwX5 hown hK hP _ (fam_at (k := qq) (hq3)) rfl 0 (by decide) (hts (.fieldLink RX9 64 "ModulePlayer$Sample" "length" "I") (List.mem_cons_of_mem _ kw_491)) (fun _ h9 => h9) rfl dX9_writeSamples_35 ?_
      refine g_topi (y := 0) rfl ?_
      refine lv_iconst (v := 2) hx hb dX9_writeSamples_38 (by decide) ?_
      refine lv_idiv hx hb dX9_writeSamples_39 (by decide) ?_
      refine g_topi (y := 0) (by decide) ?_
      refine g_callvQ (X := [(ta, .inr (7, [.ref tb, .int (nI L)])), (tb, .inl (cB, 9000, .inl g0)), (aB, .inr (0, [.ref sa, .ref bb, .int 0])), (sa, .inl (cS, 32, .inr (.inr (.inr (.inr g)))))]) (wr := [(aB, .inr (0, [.ref sa, .ref bb, .int 0])), (sa, .inl (cS, 32, .inr (.inr (.inr (.inr g)))))]) (va_runV (As := [.int (nI (20 + 30 * (qq - 1) + 22)), .int 0]) (rest := []) ⟨hx, hb, hml, hown, hts⟩ (c_pairx l dC dI H.size ta tb cB g0 L (20 + 30 * (qq - 1) + 22) 0 L (hL2) (by omega) (by omega)) (cwV 2 hts (gG_V kw_498 kw_499 kw_500 kw_18 kw_501) rfl rfl rfl (by decide +kernel) ⟨Nat.le_of_ble_eq_true rfl, Nat.le_of_ble_eq_true rfl⟩) (g_preV (ws := [(ta, .inr (7, [.ref tb, .int (nI L)])), (tb, .inl (cB, 9000, .inl g0)), (aB, .inr (0, [.ref sa, .ref bb, .int 0])), (sa, .inl (cS, 32, .inr (.inr (.inr (.inr g)))))]) (C := RX7) (T := TX7) (N := 2) hP.left hD.left hK hS hA hN hZ (q0 := 0) rfl rfl [0, 1] (by decide) rfl [0] rfl) rfl rfl hl.1 rfl (lv_room (Nat.le_of_ble_eq_true rfl)) dX9_writeSamples_40 ⟨Nat.le_of_ble_eq_true rfl, Nat.le_of_ble_eq_true rfl⟩) hP hD hK hS hA [0, 1] [2, 3] rfl rfl (by decide) (by decide) (fun w ty1 H locs hw_40 hP hD _ hS => ?_)
      rcases hw_40 with ⟨f2_40, hu⟩
      cases hu
      have hP : va_P (dC, dI) vwCl ([(aB, .inr (0, [.ref sa, .ref bb, .int 0])), (sa, .inl (cS, 32, .inr (.inr (.inr (.inr g))))), (ta, .inr (7, [.ref tb, .int (nI L)])), (tb, .inl (cB, 9000, .inl f2_40))] ++ famN 32 ad (fun _ => 0) (fun _ => 0) (fun _ => 0) (fun _ => 0) (fun _ => 0) (fun _ => 0)) H := hP
      have hD : va_D A ([(aB, .inr (0, [.ref sa, .ref bb, .int 0])), (sa, .inl (cS, 32, .inr (.inr (.inr (.inr g))))), (ta, .inr (7, [.ref tb, .int (nI L)])), (tb, .inl (cB, 9000, .inl f2_40))] ++ famN 32 ad (fun _ => 0) (fun _ => 0) (fun _ => 0) (fun _ => 0) (fun _ => 0) (fun _ => 0)) := hD
      refine lv_aload_n hx hb dX9_writeSamples_43 rfl (lv_at hl 4 rfl) ?_
      refine lv_iload hx hb dX9_writeSamples_44 (lv_at hl 1 rfl) ?_
      refine lv_bipush (v := 24) hx hb dX9_writeSamples_46 (by decide) ?_
      refine lv_iadd hx hb dX9_writeSamples_48 ?_
      refine g_topi (y := nI (20 + 30 * (qq - 1) + 24)) (nI_add _ 24) ?_
      refine lv_aload hx hb dX9_writeSamples_49 (lv_at hl 0 rfl) ?_
      refine va_get (D := (dC, dI)) (ci := 5) (v := .int ((fun _ => 0) qq)) (C := RX5) (T := TX5) (N := 6) hx hb hts iwX5 hown hK hP _ (fam_at (k := qq) (hq3)) rfl 1 (by decide) (hts (.fieldLink RX9 70 "ModulePlayer$Sample" "tune" "I") (List.mem_cons_of_mem _ kw_492)) (fun _ h9 => h9) rfl dX9_writeSamples_51 ?_
      refine g_topi (y := 0) rfl ?_
      refine lv_bipush (v := 15) hx hb dX9_writeSamples_54 (by decide) ?_
      refine lv_iand hx hb dX9_writeSamples_56 ?_
      refine g_topi (y := 0) (by decide) ?_
      refine g_callvQ (X := [(aB, .inr (0, [.ref sa, .ref bb, .int 0])), (sa, .inl (cS, 32, .inr (.inr (.inr (.inr g))))), (ta, .inr (7, [.ref tb, .int (nI L)])), (tb, .inl (cB, 9000, .inl f2_40))]) (wr := [(aB, .inr (0, [.ref sa, .ref bb, .int 0])), (sa, .inl (cS, 32, .inr (.inr (.inr (.inr g)))))]) (va_runV (As := [.int (nI (20 + 30 * (qq - 1) + 24)), .int 0]) (rest := []) ⟨hx, hb, hml, hown, hts⟩ (c_putx l dC dI H.size ta tb cB f2_40 L (20 + 30 * (qq - 1) + 24) 0 L (hL2) (by omega) (by omega)) (cwV 2 hts (gG_V kw_474 kw_243 kw_244 kw_18 kw_245) rfl rfl rfl (by decide +kernel) ⟨Nat.le_of_ble_eq_true rfl, Nat.le_of_ble_eq_true rfl⟩) (g_preV (ws := [(aB, .inr (0, [.ref sa, .ref bb, .int 0])), (sa, .inl (cS, 32, .inr (.inr (.inr (.inr g))))), (ta, .inr (7, [.ref tb, .int (nI L)])), (tb, .inl (cB, 9000, .inl f2_40))]) (C := RX7) (T := TX7) (N := 2) hP.left hD.left hK hS hA hN hZ (q0 := 2) rfl rfl [2, 3] (by decide) rfl [0] rfl) rfl rfl hl.1 rfl (lv_room (Nat.le_of_ble_eq_true rfl)) dX9_writeSamples_57 ⟨Nat.le_of_ble_eq_true rfl, Nat.le_of_ble_eq_true rfl⟩) hP hD hK hS hA [2, 3] [0, 1] rfl rfl (by decide) (by decide) (fun w ty1 H locs hw_57 hP hD _ hS => ?_)
      rcases hw_57 with ⟨f2_57, hu⟩
      cases hu
      have hP : va_P (dC, dI) vwCl ([(aB, .inr (0, [.ref sa, .ref bb, .int 0])), (sa, .inl (cS, 32, .inr (.inr (.inr (.inr g))))), (ta, .inr (7, [.ref tb, .int (nI L)])), (tb, .inl (cB, 9000, .inl f2_57))] ++ famN 32 ad (fun _ => 0) (fun _ => 0) (fun _ => 0) (fun _ => 0) (fun _ => 0) (fun _ => 0)) H := hP
      have hD : va_D A ([(aB, .inr (0, [.ref sa, .ref bb, .int 0])), (sa, .inl (cS, 32, .inr (.inr (.inr (.inr g))))), (ta, .inr (7, [.ref tb, .int (nI L)])), (tb, .inl (cB, 9000, .inl f2_57))] ++ famN 32 ad (fun _ => 0) (fun _ => 0) (fun _ => 0) (fun _ => 0) (fun _ => 0) (fun _ => 0)) := hD
      refine lv_aload_n hx hb dX9_writeSamples_60 rfl (lv_at hl 4 rfl) ?_
      refine lv_iload hx hb dX9_writeSamples_61 (lv_at hl 1 rfl) ?_
      refine lv_bipush (v := 25) hx hb dX9_writeSamples_63 (by decide) ?_
      refine lv_iadd hx hb dX9_writeSamples_65 ?_
      refine g_topi (y := nI (20 + 30 * (qq - 1) + 25)) (nI_add _ 25) ?_
      refine lv_aload hx hb dX9_writeSamples_66 (lv_at hl 0 rfl) ?_
      refine va_get (D := (dC, dI)) (ci := 5) (v := .int ((fun _ => 0) qq)) (C := RX5) (T := TX5) (N := 6) hx hb hts iwX5 hown hK hP _ (fam_at (k := qq) (hq3)) rfl 2 (by decide) (hts (.fieldLink RX9 73 "ModulePlayer$Sample" "volume" "I") (List.mem_cons_of_mem _ kw_493)) (fun _ h9 => h9) rfl dX9_writeSamples_68 ?_
      refine g_topi (y := 0) rfl ?_
      refine g_callvQ (X := [(aB, .inr (0, [.ref sa, .ref bb, .int 0])), (sa, .inl (cS, 32, .inr (.inr (.inr (.inr g))))), (ta, .inr (7, [.ref tb, .int (nI L)])), (tb, .inl (cB, 9000, .inl f2_57))]) (wr := [(aB, .inr (0, [.ref sa, .ref bb, .int 0])), (sa, .inl (cS, 32, .inr (.inr (.inr (.inr g)))))]) (va_runV (As := [.int (nI (20 + 30 * (qq - 1) + 25)), .int 0]) (rest := []) ⟨hx, hb, hml, hown, hts⟩ (c_putx l dC dI H.size ta tb cB f2_57 L (20 + 30 * (qq - 1) + 25) 0 L (hL2) (by omega) (by omega)) (cwV 2 hts (gG_V kw_474 kw_243 kw_244 kw_18 kw_245) rfl rfl rfl (by decide +kernel) ⟨Nat.le_of_ble_eq_true rfl, Nat.le_of_ble_eq_true rfl⟩) (g_preV (ws := [(aB, .inr (0, [.ref sa, .ref bb, .int 0])), (sa, .inl (cS, 32, .inr (.inr (.inr (.inr g))))), (ta, .inr (7, [.ref tb, .int (nI L)])), (tb, .inl (cB, 9000, .inl f2_57))]) (C := RX7) (T := TX7) (N := 2) hP.left hD.left hK hS hA hN hZ (q0 := 2) rfl rfl [2, 3] (by decide) rfl [0] rfl) rfl rfl hl.1 rfl (lv_room (Nat.le_of_ble_eq_true rfl)) dX9_writeSamples_71 ⟨Nat.le_of_ble_eq_true rfl, Nat.le_of_ble_eq_true rfl⟩) hP hD hK hS hA [2, 3] [0, 1] rfl rfl (by decide) (by decide) (fun w ty1 H locs hw_71 hP hD _ hS => ?_)
      rcases hw_71 with ⟨f2_71, hu⟩
      cases hu
      have hP : va_P (dC, dI) vwCl ([(aB, .inr (0, [.ref sa, .ref bb, .int 0])), (sa, .inl (cS, 32, .inr (.inr (.inr (.inr g))))), (ta, .inr (7, [.ref tb, .int (nI L)])), (tb, .inl (cB, 9000, .inl f2_71))] ++ famN 32 ad (fun _ => 0) (fun _ => 0) (fun _ => 0) (fun _ => 0) (fun _ => 0) (fun _ => 0)) H := hP
      have hD : va_D A ([(aB, .inr (0, [.ref sa, .ref bb, .int 0])), (sa, .inl (cS, 32, .inr (.inr (.inr (.inr g))))), (ta, .inr (7, [.ref tb, .int (nI L)])), (tb, .inl (cB, 9000, .inl f2_71))] ++ famN 32 ad (fun _ => 0) (fun _ => 0) (fun _ => 0) (fun _ => 0) (fun _ => 0) (fun _ => 0)) := hD
      refine lv_aload_n hx hb dX9_writeSamples_74 rfl (lv_at hl 4 rfl) ?_
      refine lv_iload hx hb dX9_writeSamples_75 (lv_at hl 1 rfl) ?_
      refine lv_bipush (v := 26) hx hb dX9_writeSamples_77 (by decide) ?_
      refine lv_iadd hx hb dX9_writeSamples_79 ?_
      refine g_topi (y := nI (20 + 30 * (qq - 1) + 26)) (nI_add _ 26) ?_
      refine lv_aload hx hb dX9_writeSamples_80 (lv_at hl 0 rfl) ?_
      refine va_get (D := (dC, dI)) (ci := 5) (v := .int ((fun _ => 0) qq)) (C := RX5) (T := TX5) (N := 6) hx hb hts iwX5 hown hK hP _ (fam_at (k := qq) (hq3)) rfl 3 (by decide) (hts (.fieldLink RX9 76 "ModulePlayer$Sample" "start" "I") (List.mem_cons_of_mem _ kw_494)) (fun _ h9 => h9) rfl dX9_writeSamples_82 ?_
      refine g_topi (y := 0) rfl ?_
      refine lv_iconst (v := 2) hx hb dX9_writeSamples_85 (by decide) ?_
      refine lv_idiv hx hb dX9_writeSamples_86 (by decide) ?_
      refine g_topi (y := 0) (by decide) ?_
      refine g_callvQ (X := [(aB, .inr (0, [.ref sa, .ref bb, .int 0])), (sa, .inl (cS, 32, .inr (.inr (.inr (.inr g))))), (ta, .inr (7, [.ref tb, .int (nI L)])), (tb, .inl (cB, 9000, .inl f2_71))]) (wr := [(aB, .inr (0, [.ref sa, .ref bb, .int 0])), (sa, .inl (cS, 32, .inr (.inr (.inr (.inr g)))))]) (va_runV (As := [.int (nI (20 + 30 * (qq - 1) + 26)), .int 0]) (rest := []) ⟨hx, hb, hml, hown, hts⟩ (c_pairx l dC dI H.size ta tb cB f2_71 L (20 + 30 * (qq - 1) + 26) 0 L (hL2) (by omega) (by omega)) (cwV 2 hts (gG_V kw_498 kw_499 kw_500 kw_18 kw_501) rfl rfl rfl (by decide +kernel) ⟨Nat.le_of_ble_eq_true rfl, Nat.le_of_ble_eq_true rfl⟩) (g_preV (ws := [(aB, .inr (0, [.ref sa, .ref bb, .int 0])), (sa, .inl (cS, 32, .inr (.inr (.inr (.inr g))))), (ta, .inr (7, [.ref tb, .int (nI L)])), (tb, .inl (cB, 9000, .inl f2_71))]) (C := RX7) (T := TX7) (N := 2) hP.left hD.left hK hS hA hN hZ (q0 := 2) rfl rfl [2, 3] (by decide) rfl [0] rfl) rfl rfl hl.1 rfl (lv_room (Nat.le_of_ble_eq_true rfl)) dX9_writeSamples_87 ⟨Nat.le_of_ble_eq_true rfl, Nat.le_of_ble_eq_true rfl⟩) hP hD hK hS hA [2, 3] [0, 1] rfl rfl (by decide) (by decide) (fun w ty1 H locs hw_87 hP hD _ hS => ?_)
      rcases hw_87 with ⟨f2_87, hu⟩
      cases hu
      have hP : va_P (dC, dI) vwCl ([(aB, .inr (0, [.ref sa, .ref bb, .int 0])), (sa, .inl (cS, 32, .inr (.inr (.inr (.inr g))))), (ta, .inr (7, [.ref tb, .int (nI L)])), (tb, .inl (cB, 9000, .inl f2_87))] ++ famN 32 ad (fun _ => 0) (fun _ => 0) (fun _ => 0) (fun _ => 0) (fun _ => 0) (fun _ => 0)) H := hP
      have hD : va_D A ([(aB, .inr (0, [.ref sa, .ref bb, .int 0])), (sa, .inl (cS, 32, .inr (.inr (.inr (.inr g))))), (ta, .inr (7, [.ref tb, .int (nI L)])), (tb, .inl (cB, 9000, .inl f2_87))] ++ famN 32 ad (fun _ => 0) (fun _ => 0) (fun _ => 0) (fun _ => 0) (fun _ => 0) (fun _ => 0)) := hD
      refine lv_aload_n hx hb dX9_writeSamples_90 rfl (lv_at hl 4 rfl) ?_
      refine lv_iload hx hb dX9_writeSamples_91 (lv_at hl 1 rfl) ?_
      refine lv_bipush (v := 28) hx hb dX9_writeSamples_93 (by decide) ?_
      refine lv_iadd hx hb dX9_writeSamples_95 ?_
      refine g_topi (y := nI (20 + 30 * (qq - 1) + 28)) (nI_add _ 28) ?_
      refine lv_aload hx hb dX9_writeSamples_96 (lv_at hl 0 rfl) ?_
      refine va_get (D := (dC, dI)) (ci := 5) (v := .int ((fun _ => 0) qq)) (C := RX5) (T := TX5) (N := 6) hx hb hts iwX5 hown hK hP _ (fam_at (k := qq) (hq3)) rfl 4 (by decide) (hts (.fieldLink RX9 79 "ModulePlayer$Sample" "loop" "I") (List.mem_cons_of_mem _ kw_495)) (fun _ h9 => h9) rfl dX9_writeSamples_98 ?_
      refine g_topi (y := 0) rfl ?_
      refine lv_iconst (v := 2) hx hb dX9_writeSamples_101 (by decide) ?_
      refine lv_idiv hx hb dX9_writeSamples_102 (by decide) ?_
      refine g_topi (y := 0) (by decide) ?_
      refine g_callvQ (X := [(aB, .inr (0, [.ref sa, .ref bb, .int 0])), (sa, .inl (cS, 32, .inr (.inr (.inr (.inr g))))), (ta, .inr (7, [.ref tb, .int (nI L)])), (tb, .inl (cB, 9000, .inl f2_87))]) (wr := [(aB, .inr (0, [.ref sa, .ref bb, .int 0])), (sa, .inl (cS, 32, .inr (.inr (.inr (.inr g)))))]) (va_runV (As := [.int (nI (20 + 30 * (qq - 1) + 28)), .int 0]) (rest := []) ⟨hx, hb, hml, hown, hts⟩ (c_pairx l dC dI H.size ta tb cB f2_87 L (20 + 30 * (qq - 1) + 28) 0 L (hL2) (by omega) (by omega)) (cwV 2 hts (gG_V kw_498 kw_499 kw_500 kw_18 kw_501) rfl rfl rfl (by decide +kernel) ⟨Nat.le_of_ble_eq_true rfl, Nat.le_of_ble_eq_true rfl⟩) (g_preV (ws := [(aB, .inr (0, [.ref sa, .ref bb, .int 0])), (sa, .inl (cS, 32, .inr (.inr (.inr (.inr g))))), (ta, .inr (7, [.ref tb, .int (nI L)])), (tb, .inl (cB, 9000, .inl f2_87))]) (C := RX7) (T := TX7) (N := 2) hP.left hD.left hK hS hA hN hZ (q0 := 2) rfl rfl [2, 3] (by decide) rfl [0] rfl) rfl rfl hl.1 rfl (lv_room (Nat.le_of_ble_eq_true rfl)) dX9_writeSamples_103 ⟨Nat.le_of_ble_eq_true rfl, Nat.le_of_ble_eq_true rfl⟩) hP hD hK hS hA [2, 3] [0, 1] rfl rfl (by decide) (by decide) (fun w ty1 H locs hw_103 hP hD _ hS => ?_)
      rcases hw_103 with ⟨f2_103, hu⟩
      cases hu
      have hP : va_P (dC, dI) vwCl ([(aB, .inr (0, [.ref sa, .ref bb, .int 0])), (sa, .inl (cS, 32, .inr (.inr (.inr (.inr g))))), (ta, .inr (7, [.ref tb, .int (nI L)])), (tb, .inl (cB, 9000, .inl f2_103))] ++ famN 32 ad (fun _ => 0) (fun _ => 0) (fun _ => 0) (fun _ => 0) (fun _ => 0) (fun _ => 0)) H := hP
      have hD : va_D A ([(aB, .inr (0, [.ref sa, .ref bb, .int 0])), (sa, .inl (cS, 32, .inr (.inr (.inr (.inr g))))), (ta, .inr (7, [.ref tb, .int (nI L)])), (tb, .inl (cB, 9000, .inl f2_103))] ++ famN 32 ad (fun _ => 0) (fun _ => 0) (fun _ => 0) (fun _ => 0) (fun _ => 0) (fun _ => 0)) := hD
      refine lv_iconst (v := 0) hx hb dX9_writeSamples_106 (by decide) ?_
      refine lv_istore (lv' := [(7, .int 0), (6, .ref (ad qq)), (5, .int (nI (20 + 30 * (qq - 1)))), (4, .int (nI qq)), (3, .int nx1), (0, .ref ta), (1, .ref aB), (2, .int nx)]) hx hb dX9_writeSamples_107 hl (by decide) rfl (fun ls hl => ?_)
      refine lv_iload hx hb dX9_writeSamples_109 (lv_at hl 0 rfl) ?_
      refine lv_aload hx hb dX9_writeSamples_111 (lv_at hl 1 rfl) ?_
      refine va_get (D := (dC, dI)) (ci := 5) (v := .int ((fun _ => 0) qq)) (C := RX5) (T := TX5) (N := 6) hx hb hts iwX5 hown hK hP _ (fam_at (k := qq) (hq3)) rfl 0 (by decide) (hts (.fieldLink RX9 64 "ModulePlayer$Sample" "length" "I") (List.mem_cons_of_mem _ kw_491)) (fun _ h9 => h9) rfl dX9_writeSamples_113 ?_
      refine g_topi (y := 0) rfl ?_
      refine lv_icmp_ge (tgt := 141) hx hb dX9_writeSamples_116 (by decide) (fun c_116 => ?_) (fun c_116 => absurd c_116 (by decide))
      refine lv_iload_n hx hb dX9_writeSamples_141 rfl (lv_at hl 4 rfl) ?_
      refine lv_aload hx hb dX9_writeSamples_142 (lv_at hl 1 rfl) ?_
      refine va_get (D := (dC, dI)) (ci := 5) (v := .int ((fun _ => 0) qq)) (C := RX5) (T := TX5) (N := 6) hx hb hts iwX5 hown hK hP _ (fam_at (k := qq) (hq3)) rfl 0 (by decide) (hts (.fieldLink RX9 64 "ModulePlayer$Sample" "length" "I") (List.mem_cons_of_mem _ kw_491)) (fun _ h9 => h9) rfl dX9_writeSamples_144 ?_
      refine g_topi (y := 0) rfl ?_
      refine lv_iadd hx hb dX9_writeSamples_147 ?_
      refine lv_topi (fun nx2 enx2 => ?_)
      refine lv_istore_n (lv' := [(3, .int nx2), (7, .int 0), (6, .ref (ad qq)), (5, .int (nI (20 + 30 * (qq - 1)))), (4, .int (nI qq)), (0, .ref ta), (1, .ref aB), (2, .int nx)]) hx hb dX9_writeSamples_148 rfl hl (by decide) rfl (fun ls hl => ?_)
      refine lv_iinc (v := nI (qq + 1)) (lv' := [(4, .int (nI (qq + 1))), (3, .int nx2), (7, .int 0), (6, .ref (ad qq)), (5, .int (nI (20 + 30 * (qq - 1)))), (0, .ref ta), (1, .ref aB), (2, .int nx)]) hx hb dX9_writeSamples_149 hl (k := 4) rfl (nI_1 qq) (by decide) rfl (fun ls hl => ?_)
      refine lv_goto (tgt := 5) hx hb dX9_writeSamples_152 (by decide) ?_
      have hP := va_P.part (X := [(aB, .inr (0, [.ref sa, .ref bb, .int 0])), (sa, .inl (cS, 32, .inr (.inr (.inr (.inr g))))), (ta, .inr (7, [.ref tb, .int (nI L)])), (tb, .inl (cB, 9000, .inl f2_103))]) (cx := [(ta, .inr (7, [.ref tb, .int (nI L)])), (tb, .inl (cB, 9000, .inl f2_103)), (aB, .inr (0, [.ref sa, .ref bb, .int 0])), (sa, .inl (cS, 32, .inr (.inr (.inr (.inr g)))))]) hP [2, 3, 0, 1] rfl
      have hD := va_D.part (X := [(aB, .inr (0, [.ref sa, .ref bb, .int 0])), (sa, .inl (cS, 32, .inr (.inr (.inr (.inr g))))), (ta, .inr (7, [.ref tb, .int (nI L)])), (tb, .inl (cB, 9000, .inl f2_103))]) (cx := [(ta, .inr (7, [.ref tb, .int (nI L)])), (tb, .inl (cB, 9000, .inl f2_103)), (aB, .inr (0, [.ref sa, .ref bb, .int 0])), (sa, .inl (cS, 32, .inr (.inr (.inr (.inr g)))))]) hD [2, 3, 0, 1] (by decide) rfl
      have hP : va_P (dC, dI) vwCl ([(ta, .inr (7, [.ref tb, .int (nI L)])), (tb, .inl (cB, 9000, .inl f2_103)), (aB, .inr (0, [.ref sa, .ref bb, .int 0])), (sa, .inl (cS, 32, .inr (.inr (.inr (.inr g)))))] ++ famN 32 ad (fun _ => 0) (fun _ => 0) (fun _ => 0) (fun _ => 0) (fun _ => 0) (fun _ => 0)) H := hP
      have hD : va_D A ([(ta, .inr (7, [.ref tb, .int (nI L)])), (tb, .inl (cB, 9000, .inl f2_103)), (aB, .inr (0, [.ref sa, .ref bb, .int 0])), (sa, .inl (cS, 32, .inr (.inr (.inr (.inr g)))))] ++ famN 32 ad (fun _ => 0) (fun _ => 0) (fun _ => 0) (fun _ => 0) (fun _ => 0) (fun _ => 0)) := hD
      exact ih5 (qq + 1) nx2 f2_103 (by omega) (by omega) (by omega) _ _ hP hD hS _ (lv_sub hl [0, 1, 5, 6, 7] rfl)
  exact LP5 _ 1 nx f (Nat.le_refl 1) (by decide) (Nat.lt_succ_self _) _ _ hP hD hS _ (lv_sub hl [0, 1, 2, 3, 4] rfl)
