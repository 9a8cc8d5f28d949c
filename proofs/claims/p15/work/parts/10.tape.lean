set_option maxHeartbeats 400000 in
set_option maxRecDepth 100000 in
/-- isIn: 1 if 0 ≤ i < n, else 0 -/
theorem c_isIn (l : Launch) (dC : Nat → ClassId) (dI : Nat → Nat → Nat) (sz : Nat) (i n : Int32) : Met l yX10_isIn (wsG (.code yX10_isIn cX10_isIn 2 (some .boolean))) ({ frames := 0, cells := 0, slots := 0, locals := 0 }) (va_Pc [.int i, .int n] (gP (dC, dI) [] [] sz)) (va_Qi (fun (r : Int32) (u : va_W × gT) => (u = ([], []) ∧ r = 1 ∧ 0 ≤ i ∧ i < n) ∨ (u = ([], []) ∧ r = 0 ∧ ¬ (0 ≤ i ∧ i < n))) (gB (dC, dI) (va_A [] sz)) (va_A [] sz)) 0 0 (va_A [] sz) := by
  refine Met.ofW (cc := cX10_isIn) (maxL := 2) (ret := (some .boolean)) (by decide) rfl ?_
  intro p e s m args below meth c s₁ B hml hv
  obtain ⟨rfl, hsz, hP, hK, hD0, hN, hZ⟩ := hv
  have hx := B.exec
  have hb := B.bytes
  have hr := B.returns
  have hts := atoms_spec (ws := (wsG (.code yX10_isIn cX10_isIn 2 (some .boolean)))) B.pre
  have hown : s.vm.findClass RX10 = some m.cls := findClass_of_methodNamed B.named
  have hlocks := B.notSynchronized
  subst hsz
  have hD := hD0.self (sz := s.heap.size)
  generalize hAe : va_A [] s.heap.size = A at hD hZ ⊢
  have hA : ∀ q : Nat, s.heap.size ≤ q → A q := fun q h => by rw [← hAe]; exact Or.inr h
  have hl := lv_entry ([.int i, .int n]) (n := 2) (Nat.le_of_ble_eq_true rfl)
  rw [lg_entry_eq]
  generalize (lg_sl ([.int i, .int n]) ++ List.replicate (2 - (lg_sl ([.int i, .int n])).length) Slot.unset).toArray = ls at hl ⊢
  have hl : lv_has ls 2 [(0, .int i), (1, .int n)] := hl
  refine g_start (A := A) hP (fun H locs hP hS => ?_)
  refine lv_iload_n hx hb dX10_isIn_0 rfl (lv_at hl 0 rfl) ?_
  refine lv_if_lt (tgt := 13) hx hb dX10_isIn_1 (by decide) (fun c_1 => ?_) (fun c_1 => ?_)
  · refine lv_iconst (v := 0) hx hb dX10_isIn_13 (by decide) ?_
    have hP9 := hP.sub (ws' := []) [] rfl
    have hD9 := hD.sub (ws' := []) [] (by decide) rfl
    have hK9 := hK.sub (tys' := []) [] rfl
    exact W.zret (v := 0) hx hb hr (by decide) (fun t ht hW => ⟨⟨0, ([], []), rfl, (Or.inr ⟨rfl, rfl, (isin2 c_1)⟩), by rw [ht]; exact hP9, va_K.moved hW.alike hK9, hD9⟩, hS.F ht⟩) hS.2.2 dX10_isIn_14
  refine lv_iload_n hx hb dX10_isIn_4 rfl (lv_at hl 0 rfl) ?_
  refine lv_iload_n hx hb dX10_isIn_5 rfl (lv_at hl 1 rfl) ?_
  refine lv_icmp_ge (tgt := 13) hx hb dX10_isIn_6 (by decide) (fun c_6 => ?_) (fun c_6 => ?_)
  · refine lv_iconst (v := 0) hx hb dX10_isIn_13 (by decide) ?_
    have hP9 := hP.sub (ws' := []) [] rfl
    have hD9 := hD.sub (ws' := []) [] (by decide) rfl
    have hK9 := hK.sub (tys' := []) [] rfl
    exact W.zret (v := 0) hx hb hr (by decide) (fun t ht hW => ⟨⟨0, ([], []), rfl, (Or.inr ⟨rfl, rfl, (isin3 c_6)⟩), by rw [ht]; exact hP9, va_K.moved hW.alike hK9, hD9⟩, hS.F ht⟩) hS.2.2 dX10_isIn_14
  refine lv_iconst (v := 1) hx hb dX10_isIn_9 (by decide) ?_
  refine lv_goto (tgt := 14) hx hb dX10_isIn_10 (by decide) ?_
  have hP9 := hP.sub (ws' := []) [] rfl
  have hD9 := hD.sub (ws' := []) [] (by decide) rfl
  have hK9 := hK.sub (tys' := []) [] rfl
  exact W.zret (v := 1) hx hb hr (by decide) (fun t ht hW => ⟨⟨1, ([], []), rfl, (Or.inl ⟨rfl, rfl, (isin1 c_1 c_6)⟩), by rw [ht]; exact hP9, va_K.moved hW.alike hK9, hD9⟩, hS.F ht⟩) hS.2.2 dX10_isIn_14

set_option maxHeartbeats 400000 in
set_option maxRecDepth 100000 in
/-- Tape.put at a place of the tape -/
theorem c_put (l : Launch) (dC : Nat → ClassId) (dI : Nat → Nat → Nat) (sz : Nat) (h b : Nat) (cB : ClassId) (f : Nat → Int32) (L : Nat) (j : Nat) (v : Int32) (L2 : Nat) (hL : L ≤ 9000) (hj : j < 9000) (hL2 : max L (j + 1) = L2) : Met l yX7_put (wsG (.code yX7_put cX7_put 4 none)) ({ frames := 1, cells := 0, slots := 0, locals := 21 }) (va_Pc [.ref h, .int (nI j), .int v] (gP (dC, dI) [(cB, .byte)] [(h, .inr (7, [.ref b, .int (nI L)])), (b, .inl (cB, 9000, .inl f))] sz)) (va_Qv (fun u : va_W × gT => u = ([(h, .inr (7, [.ref b, .int (nI L2)])), (b, .inl (cB, 9000, .inl (fput f L j v)))], [])) (gB (dC, dI) (va_A [(h, .inr (7, [.ref b, .int (nI L)])), (b, .inl (cB, 9000, .inl f))] sz)) (va_A [(h, .inr (7, [.ref b, .int (nI L)])), (b, .inl (cB, 9000, .inl f))] sz)) 0 0 (va_A [(h, .inr (7, [.ref b, .int (nI L)])), (b, .inl (cB, 9000, .inl f))] sz) := by
  refine Met.ofW (cc := cX7_put) (maxL := 4) (ret := none) (by decide) rfl ?_
  intro p e s m args below meth c s₁ B hml hv
  obtain ⟨rfl, hsz, hP, hK, hD0, hN, hZ⟩ := hv
  have hx := B.exec
  have hb := B.bytes
  have hr := B.returns
  have hts := atoms_spec (ws := (wsG (.code yX7_put cX7_put 4 none))) B.pre
  have hown : s.vm.findClass RX7 = some m.cls := findClass_of_methodNamed B.named
  have hlocks := B.notSynchronized
  subst hsz
  have hD := hD0.self (sz := s.heap.size)
  generalize hAe : va_A [(h, .inr (7, [.ref b, .int (nI L)])), (b, .inl (cB, 9000, .inl f))] s.heap.size = A at hD hZ ⊢
  have hA : ∀ q : Nat, s.heap.size ≤ q → A q := fun q h => by rw [← hAe]; exact Or.inr h
  have hl := lv_entry ([.ref h, .int (nI j), .int v]) (n := 4) (Nat.le_of_ble_eq_true rfl)
  rw [lg_entry_eq]
  generalize (lg_sl ([.ref h, .int (nI j), .int v]) ++ List.replicate (4 - (lg_sl ([.ref h, .int (nI j), .int v])).length) Slot.unset).toArray = ls at hl ⊢
  have hl : lv_has ls 4 [(0, .ref h), (1, .int (nI j)), (2, .int v)] := hl
  refine g_start (A := A) hP (fun H locs hP hS => ?_)
  refine lv_iload_n hx hb dX7_put_0 rfl (lv_at hl 1 rfl) ?_
  refine lv_sipush (v := 9000) hx hb dX7_put_1 (by decide) ?_
  refine g_calli (wr := [(h, .inr (7, [.ref b, .int (nI L)])), (b, .inl (cB, 9000, .inl f))]) (va_runSN (As := [.int (nI j), .int 9000]) (rest := []) ⟨hx, hb, hml, hown, hts⟩ (c_isIn l dC dI H.size (nI j) 9000 ) ⟨va_cnB 2 hts (wsG_good kw_248) rfl rfl rfl (hN.1 (.methodLinkNest RX7 19 yX10_isIn RX10) (by decide +kernel)) (hts (.initialized RX10) (List.mem_cons_of_mem _ kw_2)) (by decide +kernel) ⟨Nat.le_of_ble_eq_true rfl, Nat.le_of_ble_eq_true rfl⟩, (hts (.static yX10_isIn) (List.mem_cons_of_mem _ kw_247)), trivial⟩ (g_preS hP hD hK hS hA hN hZ [] (by decide) rfl [] rfl) rfl rfl hl.1 rfl (lv_room (Nat.le_of_ble_eq_true rfl)) dX7_put_4 ⟨Nat.le_of_ble_eq_true rfl, Nat.le_of_ble_eq_true rfl⟩) hP hD hK hS hA [] [0, 1] rfl rfl (by decide +kernel) (by decide +kernel) (fun r_4 w ty1 H locs hw_4 hP hD _ hS => ?_)
  rcases hw_4 with ⟨hu, hr_4, h_4⟩ | ⟨hu, hr_4, h_4⟩
  · cases hu
    have hP : va_P (dC, dI) vwCl [(h, .inr (7, [.ref b, .int (nI L)])), (b, .inl (cB, 9000, .inl f))] H := hP
    have hD : va_D A [(h, .inr (7, [.ref b, .int (nI L)])), (b, .inl (cB, 9000, .inl f))] := hD
    refine g_topi (y := 1) hr_4 ?_
    refine lv_if_ne (tgt := 11) hx hb dX7_put_7 (by decide) (fun c_7 => ?_) (fun c_7 => absurd c_7 (by decide))
    refine lv_aload_n hx hb dX7_put_11 rfl (lv_at hl 0 rfl) ?_
    refine va_get (D := (dC, dI)) (ci := 7) (v := .int (nI L)) (C := RX7) (T := TX7) (N := 2) hx hb hts iwX7 hown hK hP 0 rfl rfl 1 (by decide) (hts (.fieldLink RX7 15 "ModulePlayer$Tape" "length" "I") (List.mem_cons_of_mem _ kw_241)) (fun _ h9 => h9) rfl dX7_put_12 ?_
    refine lv_istore_n (lv' := [(3, .int (nI L)), (0, .ref h), (1, .int (nI j)), (2, .int v)]) hx hb dX7_put_15 rfl hl (by decide) rfl (fun ls hl => ?_)
    rw [← fzero_0 f L] at hP hD
    have LP16 : ∀ (fu16 : Nat) (k : Nat) (hk1 : L ≤ k) (hk2 : k ≤ j ∨ k = L) (hm16 : 9000 - k < fu16) (H : Heap) (locs : List Loc), va_P (dC, dI) vwCl [(h, .inr (7, [.ref b, .int (nI L)])), (b, .inl (cB, 9000, .inl (fzero f L k)))] H → va_D A [(h, .inr (7, [.ref b, .int (nI L)])), (b, .inl (cB, 9000, .inl (fzero f L k)))] → va_S A s.heap H locs → ∀ ls : Array Slot, lv_has ls 4 [(3, .int (nI k)), (0, .ref h), (1, .int (nI j)), (2, .int v)] → W p l e ({ frames := 1, cells := 0, slots := 0, locals := 21 }) s m ([.ref h, .int (nI j), .int v] : List Value).toArray below meth c H locs (0) (0) (MQ below (va_Qv (fun u : va_W × gT => u = ([(h, .inr (7, [.ref b, .int (nI L2)])), (b, .inl (cB, 9000, .inl (fput f L j v)))], [])) (gB (dC, dI) A) A) ([.ref h, .int (nI j), .int v] : List Value).toArray s 0 0 A) (F0 m 16 ls []) := by
      intro fu16
      induction fu16 with
      | zero => intro k hk1 hk2 hm16; exact absurd hm16 (Nat.not_lt_zero _)
      | succ fu16 ih16 =>
        intro k hk1 hk2 hm16 H locs hP hD hS ls hl
        refine lv_iload_n hx hb dX7_put_16 rfl (lv_at hl 0 rfl) ?_
        refine lv_iload_n hx hb dX7_put_17 rfl (lv_at hl 2 rfl) ?_
        refine lv_icmp_ge (tgt := 34) hx hb dX7_put_18 (by decide) (fun c_18 => ?_) (fun c_18 => ?_)
        · refine lv_aload_n hx hb dX7_put_34 rfl (lv_at hl 1 rfl) ?_
          refine va_get (D := (dC, dI)) (ci := 7) (v := .ref b) (C := RX7) (T := TX7) (N := 2) hx hb hts iwX7 hown hK hP 0 rfl rfl 0 (by decide) (hts (.fieldLink RX7 9 "ModulePlayer$Tape" "bytes" "[B") (List.mem_cons_of_mem _ kw_48)) (fun _ h9 => h9) rfl dX7_put_35 ?_
          refine lv_iload_n hx hb dX7_put_38 rfl (lv_at hl 2 rfl) ?_
          refine lv_iload_n hx hb dX7_put_39 rfl (lv_at hl 3 rfl) ?_
          refine lv_i2b (v := v.toInt8.toInt32) hx hb dX7_put_40 rfl ?_
          refine g_bast hx hb hK hP hD hS 1 0 rfl rfl (x' := v.toInt8.toInt32) (pk_vb _) j (nI_clamp (Nat.lt_trans (show j < 9000 from hj) (by decide))) (vp_in_nI (hj) (by decide)) dX7_put_41 (fun H locs hP hD hS => ?_)
          have hP : va_P (dC, dI) vwCl [(h, .inr (7, [.ref b, .int (nI L)])), (b, .inl (cB, 9000, .inl (upd (fzero f L k) j v.toInt8.toInt32)))] H := hP
          have hD : va_D A [(h, .inr (7, [.ref b, .int (nI L)])), (b, .inl (cB, 9000, .inl (upd (fzero f L k) j v.toInt8.toInt32)))] := hD
          have hfe_41 : upd (fzero f L k) j v.toInt8.toInt32 = fput f L j v := fput_e (by have := nI_le' c_18 (by omega) (by omega); omega) (nI_le' c_18 (by omega) (by omega))
          rw [hfe_41] at hP hD
          refine lv_aload_n hx hb dX7_put_42 rfl (lv_at hl 1 rfl) ?_
          refine lv_aload_n hx hb dX7_put_43 rfl (lv_at hl 1 rfl) ?_
          refine va_get (D := (dC, dI)) (ci := 7) (v := .int (nI L)) (C := RX7) (T := TX7) (N := 2) hx hb hts iwX7 hown hK hP 0 rfl rfl 1 (by decide) (hts (.fieldLink RX7 15 "ModulePlayer$Tape" "length" "I") (List.mem_cons_of_mem _ kw_241)) (fun _ h9 => h9) rfl dX7_put_44 ?_
          refine lv_iload_n hx hb dX7_put_47 rfl (lv_at hl 2 rfl) ?_
          refine lv_iconst (v := 1) hx hb dX7_put_48 (by decide) ?_
          refine lv_iadd hx hb dX7_put_49 ?_
          refine g_topi (y := nI (j + 1)) (nI_1 j) ?_
          refine va_mmax hx hb (by rw [hml]; exact hl.1.symm) hown (hts (.methodLink RX7 27 Lib.Math.max.name) (List.mem_cons_of_mem _ kw_246)) (hts (.static Lib.Math.max.name) (List.mem_cons_of_mem _ kw_102)) (hts (.initialized "java/lang/Math") (List.mem_cons_of_mem _ kw_103)) (hts (.code Lib.Math.max.name Lib.Math.max.code 2 (some .int)) (List.mem_cons_of_mem _ kw_104)) (Nat.le_of_ble_eq_true rfl) (Nat.le_of_ble_eq_true rfl) (Nat.le_of_ble_eq_true rfl) (Nat.le_of_ble_eq_true rfl) dX7_put_50 ?_
          refine g_topi (y := nI L2) (by rw [← hL2]; exact mx_nI (by omega) (by omega)) ?_
          refine va_put (D := (dC, dI)) (ci := 7) (v := .int (nI L2)) (ty := tyX7 1) (C := RX7) (T := TX7) (N := 2) hx hb hts iwX7 tyX7 tyX7_ok nmX7 hown hK hP hD hS 0 rfl rfl 1 (by decide) (hts (.fieldLink RX7 15 "ModulePlayer$Tape" "length" "I") (List.mem_cons_of_mem _ kw_241)) (fun _ h9 => h9) rfl (by decide +kernel) (rfl) (rfl) (Nat.le_of_ble_eq_true rfl) dX7_put_53 (fun H locs hP hD hS => ?_)
          have hP : va_P (dC, dI) vwCl [(h, .inr (7, [.ref b, .int (nI L2)])), (b, .inl (cB, 9000, .inl (fput f L j v)))] H := hP
          have hD : va_D A [(h, .inr (7, [.ref b, .int (nI L2)])), (b, .inl (cB, 9000, .inl (fput f L j v)))] := hD
          have hP9 := hP.sub (ws' := [(h, .inr (7, [.ref b, .int (nI L2)])), (b, .inl (cB, 9000, .inl (fput f L j v)))]) [0, 1] rfl
          have hD9 := hD.sub (ws' := [(h, .inr (7, [.ref b, .int (nI L2)])), (b, .inl (cB, 9000, .inl (fput f L j v)))]) [0, 1] (by decide +kernel) rfl
          have hK9 := hK.sub (tys' := []) [] rfl
          exact W.vret hx hb hr (fun t ht hW => ⟨⟨([(h, .inr (7, [.ref b, .int (nI L2)])), (b, .inl (cB, 9000, .inl (fput f L j v)))], []), rfl, rfl, by rw [ht]; exact hP9, va_K.moved hW.alike hK9, hD9⟩, hS.F ht⟩) hS.2.2 dX7_put_56
        refine lv_aload_n hx hb dX7_put_21 rfl (lv_at hl 1 rfl) ?_
        refine va_get (D := (dC, dI)) (ci := 7) (v := .ref b) (C := RX7) (T := TX7) (N := 2) hx hb hts iwX7 hown hK hP 0 rfl rfl 0 (by decide) (hts (.fieldLink RX7 9 "ModulePlayer$Tape" "bytes" "[B") (List.mem_cons_of_mem _ kw_48)) (fun _ h9 => h9) rfl dX7_put_22 ?_
        refine lv_iload_n hx hb dX7_put_25 rfl (lv_at hl 0 rfl) ?_
        refine lv_iconst (v := 0) hx hb dX7_put_26 (by decide) ?_
        refine g_bast hx hb hK hP hD hS 1 0 rfl rfl (x' := 0) (by decide) k (nI_clamp (Nat.lt_trans (show k < 9000 from by have := nI_nle' c_18 (by omega); omega) (by decide))) (vp_in_nI (by have := nI_nle' c_18 (by omega); omega) (by decide)) dX7_put_27 (fun H locs hP hD hS => ?_)
        have hP : va_P (dC, dI) vwCl [(h, .inr (7, [.ref b, .int (nI L)])), (b, .inl (cB, 9000, .inl (upd (fzero f L k) k 0)))] H := hP
        have hD : va_D A [(h, .inr (7, [.ref b, .int (nI L)])), (b, .inl (cB, 9000, .inl (upd (fzero f L k) k 0)))] := hD
        have hfe_27 : upd (fzero f L k) k 0 = fzero f L (k + 1) := fzero_s hk1
        rw [hfe_27] at hP hD
        refine lv_iinc (v := nI (k + 1)) (lv' := [(3, .int (nI (k + 1))), (0, .ref h), (1, .int (nI j)), (2, .int v)]) hx hb dX7_put_28 hl (k := 0) rfl (nI_1 k) (by decide) rfl (fun ls hl => ?_)
        refine lv_goto (tgt := 16) hx hb dX7_put_31 (by decide) ?_
        exact ih16 (k + 1) (by omega) (by have := nI_nle' c_18 (by omega); omega) (by have := nI_nle' c_18 (by omega); omega) _ _ (hP.sub [0, 1] rfl) (hD.sub [0, 1] (by decide +kernel) rfl) hS _ (lv_sub hl [0, 1, 2, 3] rfl)
    exact LP16 _ L (Nat.le_refl L) (Or.inr rfl) (Nat.lt_succ_self _) _ _ (hP.sub [0, 1] rfl) (hD.sub [0, 1] (by decide +kernel) rfl) hS _ (lv_sub hl [0, 1, 2, 3] rfl)
  exact False.elim (h_4 (isin0 hj (by decide)))

set_option maxHeartbeats 400000 in
set_option maxRecDepth 100000 in
/-- Tape.at -/
theorem c_at (l : Launch) (dC : Nat → ClassId) (dI : Nat → Nat → Nat) (sz : Nat) (h b : Nat) (cB : ClassId) (f : Nat → Int32) (L : Nat) (i : Int32) (hL : L ≤ 9000) : Met l yX7_at (wsG (.code yX7_at cX7_at 2 (some .int))) ({ frames := 1, cells := 0, slots := 0, locals := 21 }) (va_Pc [.ref h, .int i] (gP (dC, dI) [(cB, .byte)] [(h, .inr (7, [.ref b, .int (nI L)])), (b, .inl (cB, 9000, .inl f))] sz)) (va_Qi (fun (r : Int32) (u : va_W × gT) => (∃ (k : Nat), u = ([(h, .inr (7, [.ref b, .int (nI L)])), (b, .inl (cB, 9000, .inl f))], []) ∧ r = f k &&& 255 ∧ k < L ∧ i = nI k) ∨ (u = ([(h, .inr (7, [.ref b, .int (nI L)])), (b, .inl (cB, 9000, .inl f))], []) ∧ r = (-1) ∧ ¬ (0 ≤ i ∧ i < nI L))) (gB (dC, dI) (va_A [(h, .inr (7, [.ref b, .int (nI L)])), (b, .inl (cB, 9000, .inl f))] sz)) (va_A [(h, .inr (7, [.ref b, .int (nI L)])), (b, .inl (cB, 9000, .inl f))] sz)) 0 0 (va_A [(h, .inr (7, [.ref b, .int (nI L)])), (b, .inl (cB, 9000, .inl f))] sz) := by
  refine Met.ofW (cc := cX7_at) (maxL := 2) (ret := (some .int)) (by decide) rfl ?_
  intro p e s m args below meth c s₁ B hml hv
  obtain ⟨rfl, hsz, hP, hK, hD0, hN, hZ⟩ := hv
  have hx := B.exec
  have hb := B.bytes
  have hr := B.returns
  have hts := atoms_spec (ws := (wsG (.code yX7_at cX7_at 2 (some .int)))) B.pre
  have hown : s.vm.findClass RX7 = some m.cls := findClass_of_methodNamed B.named
  have hlocks := B.notSynchronized
  subst hsz
  have hD := hD0.self (sz := s.heap.size)
  generalize hAe : va_A [(h, .inr (7, [.ref b, .int (nI L)])), (b, .inl (cB, 9000, .inl f))] s.heap.size = A at hD hZ ⊢
  have hA : ∀ q : Nat, s.heap.size ≤ q → A q := fun q h => by rw [← hAe]; exact Or.inr h
  have hl := lv_entry ([.ref h, .int i]) (n := 2) (Nat.le_of_ble_eq_true rfl)
  rw [lg_entry_eq]
  generalize (lg_sl ([.ref h, .int i]) ++ List.replicate (2 - (lg_sl ([.ref h, .int i])).length) Slot.unset).toArray = ls at hl ⊢
  have hl : lv_has ls 2 [(0, .ref h), (1, .int i)] := hl
  refine g_start (A := A) hP (fun H locs hP hS => ?_)
  refine lv_iload_n hx hb dX7_at_0 rfl (lv_at hl 1 rfl) ?_
  refine lv_aload_n hx hb dX7_at_1 rfl (lv_at hl 0 rfl) ?_
  refine va_get (D := (dC, dI)) (ci := 7) (v := .int (nI L)) (C := RX7) (T := TX7) (N := 2) hx hb hts iwX7 hown hK hP 0 rfl rfl 1 (by decide) (hts (.fieldLink RX7 15 "ModulePlayer$Tape" "length" "I") (List.mem_cons_of_mem _ kw_241)) (fun _ h9 => h9) rfl dX7_at_2 ?_
  refine g_calli (wr := [(h, .inr (7, [.ref b, .int (nI L)])), (b, .inl (cB, 9000, .inl f))]) (va_runSN (As := [.int i, .int (nI L)]) (rest := []) ⟨hx, hb, hml, hown, hts⟩ (c_isIn l dC dI H.size i (nI L) ) ⟨va_cnB 2 hts (wsG_good kw_248) rfl rfl rfl (hN.1 (.methodLinkNest RX7 19 yX10_isIn RX10) (by decide +kernel)) (hts (.initialized RX10) (List.mem_cons_of_mem _ kw_2)) (by decide +kernel) ⟨Nat.le_of_ble_eq_true rfl, Nat.le_of_ble_eq_true rfl⟩, (hts (.static yX10_isIn) (List.mem_cons_of_mem _ kw_247)), trivial⟩ (g_preS hP hD hK hS hA hN hZ [] (by decide) rfl [] rfl) rfl rfl hl.1 rfl (lv_room (Nat.le_of_ble_eq_true rfl)) dX7_at_5 ⟨Nat.le_of_ble_eq_true rfl, Nat.le_of_ble_eq_true rfl⟩) hP hD hK hS hA [] [0, 1] rfl rfl (by decide +kernel) (by decide +kernel) (fun r_5 w ty1 H locs hw_5 hP hD _ hS => ?_)
  rcases hw_5 with ⟨hu, hr_5, h_5⟩ | ⟨hu, hr_5, h_5⟩
  · cases hu
    have hP : va_P (dC, dI) vwCl [(h, .inr (7, [.ref b, .int (nI L)])), (b, .inl (cB, 9000, .inl f))] H := hP
    have hD : va_D A [(h, .inr (7, [.ref b, .int (nI L)])), (b, .inl (cB, 9000, .inl f))] := hD
    refine g_topi (y := 1) hr_5 ?_
    obtain ⟨k_5, hk_5, hi_5⟩ := i_in (by omega) h_5.1 h_5.2
    subst hi_5
    refine lv_if_eq (tgt := 34) hx hb dX7_at_8 (by decide) (fun c_8 => absurd c_8 (by decide)) (fun c_8 => ?_)
    refine lv_iload_n hx hb dX7_at_11 rfl (lv_at hl 1 rfl) ?_
    refine lv_sipush (v := 9000) hx hb dX7_at_12 (by decide) ?_
    refine g_calli (wr := [(h, .inr (7, [.ref b, .int (nI L)])), (b, .inl (cB, 9000, .inl f))]) (va_runSN (As := [.int (nI k_5), .int 9000]) (rest := []) ⟨hx, hb, hml, hown, hts⟩ (c_isIn l dC dI H.size (nI k_5) 9000 ) ⟨va_cnB 2 hts (wsG_good kw_248) rfl rfl rfl (hN.1 (.methodLinkNest RX7 19 yX10_isIn RX10) (by decide +kernel)) (hts (.initialized RX10) (List.mem_cons_of_mem _ kw_2)) (by decide +kernel) ⟨Nat.le_of_ble_eq_true rfl, Nat.le_of_ble_eq_true rfl⟩, (hts (.static yX10_isIn) (List.mem_cons_of_mem _ kw_247)), trivial⟩ (g_preS hP hD hK hS hA hN hZ [] (by decide) rfl [] rfl) rfl rfl hl.1 rfl (lv_room (Nat.le_of_ble_eq_true rfl)) dX7_at_15 ⟨Nat.le_of_ble_eq_true rfl, Nat.le_of_ble_eq_true rfl⟩) hP hD hK hS hA [] [0, 1] rfl rfl (by decide +kernel) (by decide +kernel) (fun r_15 w ty1 H locs hw_15 hP hD _ hS => ?_)
    rcases hw_15 with ⟨hu, hr_15, h_15⟩ | ⟨hu, hr_15, h_15⟩
    · cases hu
      have hP : va_P (dC, dI) vwCl [(h, .inr (7, [.ref b, .int (nI L)])), (b, .inl (cB, 9000, .inl f))] H := hP
      have hD : va_D A [(h, .inr (7, [.ref b, .int (nI L)])), (b, .inl (cB, 9000, .inl f))] := hD
      refine g_topi (y := 1) hr_15 ?_
      refine lv_if_eq (tgt := 34) hx hb dX7_at_18 (by decide) (fun c_18 => absurd c_18 (by decide)) (fun c_18 => ?_)
      refine lv_aload_n hx hb dX7_at_21 rfl (lv_at hl 0 rfl) ?_
      refine va_get (D := (dC, dI)) (ci := 7) (v := .ref b) (C := RX7) (T := TX7) (N := 2) hx hb hts iwX7 hown hK hP 0 rfl rfl 0 (by decide) (hts (.fieldLink RX7 9 "ModulePlayer$Tape" "bytes" "[B") (List.mem_cons_of_mem _ kw_48)) (fun _ h9 => h9) rfl dX7_at_22 ?_
      refine lv_iload_n hx hb dX7_at_25 rfl (lv_at hl 1 rfl) ?_
      refine g_bald hx hb hK hP 1 0 rfl rfl k_5 (nI_clamp (Nat.lt_trans (show k_5 < 9000 from by omega) (by decide))) (vp_in_nI (by omega) (by decide)) dX7_at_26 ?_
      refine lv_sipush (v := 255) hx hb dX7_at_27 (by decide) ?_
      refine lv_iand hx hb dX7_at_30 ?_
      refine lv_goto (tgt := 35) hx hb dX7_at_31 (by decide) ?_
      have hP9 := hP.sub (ws' := [(h, .inr (7, [.ref b, .int (nI L)])), (b, .inl (cB, 9000, .inl f))]) [0, 1] rfl
      have hD9 := hD.sub (ws' := [(h, .inr (7, [.ref b, .int (nI L)])), (b, .inl (cB, 9000, .inl f))]) [0, 1] (by decide +kernel) rfl
      have hK9 := hK.sub (tys' := []) [] rfl
      exact W.iret (v := (f k_5) &&& 255) hx hb hr (fun t ht hW => ⟨⟨(f k_5) &&& 255, ([(h, .inr (7, [.ref b, .int (nI L)])), (b, .inl (cB, 9000, .inl f))], []), rfl, (Or.inl ⟨k_5, rfl, rfl, hk_5, rfl⟩), by rw [ht]; exact hP9, va_K.moved hW.alike hK9, hD9⟩, hS.F ht⟩) hS.2.2 dX7_at_35
    exact False.elim (h_15 (isin0 (by omega : k_5 < 9000) (by decide)))
  cases hu
  have hP : va_P (dC, dI) vwCl [(h, .inr (7, [.ref b, .int (nI L)])), (b, .inl (cB, 9000, .inl f))] H := hP
  have hD : va_D A [(h, .inr (7, [.ref b, .int (nI L)])), (b, .inl (cB, 9000, .inl f))] := hD
  refine g_topi (y := 0) hr_5 ?_
  refine lv_if_eq (tgt := 34) hx hb dX7_at_8 (by decide) (fun c_8 => ?_) (fun c_8 => absurd c_8 (by decide))
  refine lv_iconst (v := (-1)) hx hb dX7_at_34 (by decide) ?_
  have hP9 := hP.sub (ws' := [(h, .inr (7, [.ref b, .int (nI L)])), (b, .inl (cB, 9000, .inl f))]) [0, 1] rfl
  have hD9 := hD.sub (ws' := [(h, .inr (7, [.ref b, .int (nI L)])), (b, .inl (cB, 9000, .inl f))]) [0, 1] (by decide +kernel) rfl
  have hK9 := hK.sub (tys' := []) [] rfl
  exact W.iret (v := (-1)) hx hb hr (fun t ht hW => ⟨⟨(-1), ([(h, .inr (7, [.ref b, .int (nI L)])), (b, .inl (cB, 9000, .inl f))], []), rfl, (Or.inr ⟨rfl, rfl, h_5⟩), by rw [ht]; exact hP9, va_K.moved hW.alike hK9, hD9⟩, hS.F ht⟩) hS.2.2 dX7_at_35

