set_option maxHeartbeats 400000 in
set_option maxRecDepth 100000 in
theorem m_patterns (l : Launch) (dC : Nat → ClassId) (dI : Nat → Nat → Nat) (sz : Nat) (h : Nat) (qa : Nat → Nat) (x0 x2 x3 x4 x13 x14 x15 x16 x17 x18 x19 x20 x21 x22 x23 x24 x26 x27 x28 : Int32) (cI : ClassId) (g12 : Nat → Int32) (r_g12 : rg 128 0 7 g12) (h_x13 : plc x13) : Met l yX11_patterns (wsG (.code yX11_patterns cX11_patterns 3 (some .int))) ({ frames := 1, cells := 0, slots := 0, locals := 13 }) (va_Pc [.ref h] (gP (dC, dI) [(cI, .int)] [(h, .inr (10, mdF qa x0 x2 x3 x4 x13 x14 x15 x16 x17 x18 x19 x20 x21 x22 x23 x24 x26 x27 x28)), (qa 12, .inl (cI, 128, .inl g12))] sz)) (va_Qi (fun (r : Int32) (u : va_W × gT) => ∃ (np : Nat), u = ([(h, .inr (10, mdF qa x0 x2 x3 x4 x13 x14 x15 x16 x17 x18 x19 x20 x21 x22 x23 x24 x26 x27 x28)), (qa 12, .inl (cI, 128, .inl g12))], []) ∧ r = nI np ∧ np ≤ 8) (gB (dC, dI) (va_A [(h, .inr (10, mdF qa x0 x2 x3 x4 x13 x14 x15 x16 x17 x18 x19 x20 x21 x22 x23 x24 x26 x27 x28)), (qa 12, .inl (cI, 128, .inl g12))] sz)) (va_A [(h, .inr (10, mdF qa x0 x2 x3 x4 x13 x14 x15 x16 x17 x18 x19 x20 x21 x22 x23 x24 x26 x27 x28)), (qa 12, .inl (cI, 128, .inl g12))] sz)) 0 0 (va_A [(h, .inr (10, mdF qa x0 x2 x3 x4 x13 x14 x15 x16 x17 x18 x19 x20 x21 x22 x23 x24 x26 x27 x28)), (qa 12, .inl (cI, 128, .inl g12))] sz) := by
  refine Met.ofW (cc := cX11_patterns) (maxL := 3) (ret := (some .int)) (by decide) rfl ?_
  intro p e s m args below meth c s₁ B hml hv
  obtain ⟨rfl, hsz, hP, hK, hD0, hN, hZ⟩ := hv
  have hx := B.exec
  have hb := B.bytes
  have hr := B.returns
  have hts := atoms_spec (ws := (wsG (.code yX11_patterns cX11_patterns 3 (some .int)))) B.pre
  have hown : s.vm.findClass RX11 = some m.cls := findClass_of_methodNamed B.named
  have hlocks := B.notSynchronized
  subst hsz
  have hD := hD0.self (sz := s.heap.size)
  generalize hAe : va_A [(h, .inr (10, mdF qa x0 x2 x3 x4 x13 x14 x15 x16 x17 x18 x19 x20 x21 x22 x23 x24 x26 x27 x28)), (qa 12, .inl (cI, 128, .inl g12))] s.heap.size = A at hD hZ ⊢
  have hA : ∀ q : Nat, s.heap.size ≤ q → A q := fun q h => by rw [← hAe]; exact Or.inr h
  have hl := lv_entry ([.ref h]) (n := 3) (Nat.le_of_ble_eq_true rfl)
  rw [lg_entry_eq]
  generalize (lg_sl ([.ref h]) ++ List.replicate (3 - (lg_sl ([.ref h])).length) Slot.unset).toArray = ls at hl ⊢
  have hl : lv_has ls 3 [(0, .ref h)] := hl
  refine g_start (A := A) hP (fun H locs hP hS => ?_)
  obtain ⟨pn, hpn1, hpn2, epn⟩ := plc_nat h_x13
  refine lv_iconst (v := 0) hx hb dX11_patterns_0 (by decide) ?_
  refine lv_istore_n (lv' := [(1, .int 0), (0, .ref h)]) hx hb dX11_patterns_1 rfl hl (by decide) rfl (fun ls hl => ?_)
  refine lv_iconst (v := 0) hx hb dX11_patterns_2 (by decide) ?_
  refine lv_istore_n (lv' := [(2, .int 0), (1, .int 0), (0, .ref h)]) hx hb dX11_patterns_3 rfl hl (by decide) rfl (fun ls hl => ?_)
  have LP4 : ∀ (fu4 : Nat) (q4 : Nat) (gn : Nat) (hq4 : q4 ≤ 128) (hgn : gn ≤ 8) (hm4 : 128 - q4 < fu4) (H : Heap) (locs : List Loc), va_P (dC, dI) vwCl [(h, .inr (10, mdF qa x0 x2 x3 x4 x13 x14 x15 x16 x17 x18 x19 x20 x21 x22 x23 x24 x26 x27 x28)), (qa 12, .inl (cI, 128, .inl g12))] H → va_D A [(h, .inr (10, mdF qa x0 x2 x3 x4 x13 x14 x15 x16 x17 x18 x19 x20 x21 x22 x23 x24 x26 x27 x28)), (qa 12, .inl (cI, 128, .inl g12))] → va_S A s.heap H locs → ∀ ls : Array Slot, lv_has ls 3 [(2, .int (nI q4)), (1, .int (nI gn)), (0, .ref h)] → W p l e ({ frames := 1, cells := 0, slots := 0, locals := 13 }) s m ([.ref h] : List Value).toArray below meth c H locs (0) (0) (MQ below (va_Qi (fun (r : Int32) (u : va_W × gT) => ∃ (np : Nat), u = ([(h, .inr (10, mdF qa x0 x2 x3 x4 x13 x14 x15 x16 x17 x18 x19 x20 x21 x22 x23 x24 x26 x27 x28)), (qa 12, .inl (cI, 128, .inl g12))], []) ∧ r = nI np ∧ np ≤ 8) (gB (dC, dI) A) A) ([.ref h] : List Value).toArray s 0 0 A) (F0 m 4 ls []) := by
    intro fu4
    induction fu4 with
    | zero => intro q4 gn hq4 hgn hm4; exact absurd hm4 (Nat.not_lt_zero _)
    | succ fu4 ih4 =>
      intro q4 gn hq4 hgn hm4 H locs hP hD hS ls hl
      refine lv_iload_n hx hb dX11_patterns_4 rfl (lv_at hl 0 rfl) ?_
      refine lv_aload_n hx hb dX11_patterns_5 rfl (lv_at hl 2 rfl) ?_
      refine va_get (D := (dC, dI)) (ci := 10) (v := .int x13) (C := RX11) (T := TX11) (N := 53) hx hb hts iwX11 hown hK hP 0 rfl rfl 13 (by decide) (hts (.fieldLink RX11 43 "ModulePlayerModel" "places" "I") (List.mem_cons_of_mem _ kw_182)) (fun _ h9 => h9) rfl dX11_patterns_6 ?_
      refine lv_icmp_ge (tgt := 31) hx hb dX11_patterns_9 (by decide) (fun c_9 => ?_) (fun c_9 => ?_)
      · refine lv_iload_n hx hb dX11_patterns_31 rfl (lv_at hl 1 rfl) ?_
        have hP9 := hP
        have hD9 := hD
        have hK9 := hK.sub (tys' := []) [] rfl
        exact W.iret (v := nI gn) hx hb hr (fun t ht hW => ⟨⟨nI gn, _, rfl, ⟨gn, rfl, rfl, hgn⟩, by rw [ht]; exact hP9, va_K.moved hW.alike hK9, hD9⟩, hS.F ht⟩) hS.2.2 dX11_patterns_32
      refine lv_iload_n hx hb dX11_patterns_12 rfl (lv_at hl 1 rfl) ?_
      refine lv_aload_n hx hb dX11_patterns_13 rfl (lv_at hl 2 rfl) ?_
      refine va_get (D := (dC, dI)) (ci := 10) (v := .ref (qa 12)) (C := RX11) (T := TX11) (N := 53) hx hb hts iwX11 hown hK hP 0 rfl rfl 12 (by decide) (hts (.fieldLink RX11 40 "ModulePlayerModel" "song" "[I") (List.mem_cons_of_mem _ kw_181)) (fun _ h9 => h9) rfl dX11_patterns_14 ?_
      refine lv_iload_n hx hb dX11_patterns_17 rfl (lv_at hl 0 rfl) ?_
      refine g_iald hx hb hK hP 1 0 rfl rfl q4 (nI_clamp (Nat.lt_trans (show q4 < 128 from by have := nI_nle' (epn ▸ c_9) (by omega); omega) (by decide))) (vp_in_nI (by have := nI_nle' (epn ▸ c_9) (by omega); omega) (by decide)) dX11_patterns_18 ?_
      obtain ⟨jn_18, hjn_18, ejn_18⟩ := rg_nat (kx := q4) (mx := 7) r_g12 (by have := nI_nle' (epn ▸ c_9) (by omega); omega) rfl
      refine g_topi (y := nI jn_18) ejn_18 ?_
      refine lv_iconst (v := 1) hx hb dX11_patterns_19 (by decide) ?_
      refine lv_iadd hx hb dX11_patterns_20 ?_
      refine g_topi (y := nI (jn_18 + 1)) (nI_1 _) ?_
      refine va_mmax hx hb (by rw [hml]; exact hl.1.symm) hown (hts (.methodLink RX11 129 Lib.Math.max.name) (List.mem_cons_of_mem _ kw_212)) (hts (.static Lib.Math.max.name) (List.mem_cons_of_mem _ kw_102)) (hts (.initialized "java/lang/Math") (List.mem_cons_of_mem _ kw_103)) (hts (.code Lib.Math.max.name Lib.Math.max.code 2 (some .int)) (List.mem_cons_of_mem _ kw_104)) (Nat.le_of_ble_eq_true rfl) (Nat.le_of_ble_eq_true rfl) (Nat.le_of_ble_eq_true rfl) (Nat.le_of_ble_eq_true rfl) dX11_patterns_21 ?_
      refine g_topi (y := nI (max gn (jn_18 + 1))) (mx_nI (by omega) (by omega)) ?_
      refine lv_istore_n (lv' := [(1, .int (nI (max gn (jn_18 + 1)))), (2, .int (nI q4)), (0, .ref h)]) hx hb dX11_patterns_24 rfl hl (by decide) rfl (fun ls hl => ?_)
      refine lv_iinc (v := nI (q4 + 1)) (lv' := [(2, .int (nI (q4 + 1))), (1, .int (nI (max gn (jn_18 + 1)))), (0, .ref h)]) hx hb dX11_patterns_25 hl (k := 1) rfl (nI_1 q4) (by decide) rfl (fun ls hl => ?_)
      refine lv_goto (tgt := 4) hx hb dX11_patterns_28 (by decide) ?_
      exact ih4 (q4 + 1) (max gn (jn_18 + 1)) (by have := nI_nle' (epn ▸ c_9) (by omega); omega) (by omega) (by have := nI_nle' (epn ▸ c_9) (by omega); omega) _ _ (hP.sub [0, 1] rfl) (hD.sub [0, 1] (by decide) rfl) hS _ (lv_sub hl [0, 1, 2] rfl)
  exact LP4 _ 0 0 (Nat.zero_le _) (Nat.zero_le _) (Nat.lt_succ_self _) _ _ (hP.sub [0, 1] rfl) (hD.sub [0, 1] (by decide) rfl) hS _ (lv_sub hl [0, 1, 2] rfl)

set_option maxHeartbeats 400000 in
set_option maxRecDepth 100000 in
theorem M_save (l : Launch) (dC : Nat → ClassId) (dI : Nat → Nat → Nat) (sz : Nat) (h : Nat) (qa : Nat → Nat) (x0 x3 x4 x13 x14 x15 x16 x17 x18 x19 x20 x21 x22 x23 x24 x26 x27 x28 : Int32) (cB cI : ClassId) (g1 g5 g6 g7 g8 g9 g10 g11 g12 : Nat → Int32) (LL : Nat) (hLL : LL ≤ 9000) (r_g5 : rg 32 0 2000 g5) (r_g8 : rg 32 0 131070 g8) (r_g9 : rg 32 0 131070 g9) (r_g12 : rg 128 0 7 g12) (h_x13 : plc x13) : Met l yX11_save (wsG (.code yX11_save cX11_save 7 (some .int))) ({ frames := 2, cells := 0, slots := 0, locals := 42 }) (va_Pc [.ref h] (gP (dC, dI) [(cB, .byte), (cI, .int)] [(h, .inr (10, mdF qa x0 (nI LL) x3 x4 x13 x14 x15 x16 x17 x18 x19 x20 x21 x22 x23 x24 x26 x27 x28)), (qa 1, .inl (cB, 9000, .inl g1)), (qa 5, .inl (cI, 32, .inl g5)), (qa 6, .inl (cI, 32, .inl g6)), (qa 7, .inl (cI, 32, .inl g7)), (qa 8, .inl (cI, 32, .inl g8)), (qa 9, .inl (cI, 32, .inl g9)), (qa 10, .inl (cB, 64000, .inl g10)), (qa 11, .inl (cI, 2048, .inl g11)), (qa 12, .inl (cI, 128, .inl g12))] sz)) (va_Qi (fun (r : Int32) (u : va_W × gT) => ∃ (L2 : Nat) (k1 : Nat → Int32), u = ([(h, .inr (10, mdF qa x0 (nI L2) x3 x4 x13 x14 x15 x16 x17 x18 x19 x20 x21 x22 x23 x24 x26 x27 x28)), (qa 1, .inl (cB, 9000, .inl k1)), (qa 5, .inl (cI, 32, .inl g5)), (qa 6, .inl (cI, 32, .inl g6)), (qa 7, .inl (cI, 32, .inl g7)), (qa 8, .inl (cI, 32, .inl g8)), (qa 9, .inl (cI, 32, .inl g9)), (qa 10, .inl (cB, 64000, .inl g10)), (qa 11, .inl (cI, 2048, .inl g11)), (qa 12, .inl (cI, 128, .inl g12))], []) ∧ L2 ≤ 9000) (gB (dC, dI) (va_A [(h, .inr (10, mdF qa x0 (nI LL) x3 x4 x13 x14 x15 x16 x17 x18 x19 x20 x21 x22 x23 x24 x26 x27 x28)), (qa 1, .inl (cB, 9000, .inl g1)), (qa 5, .inl (cI, 32, .inl g5)), (qa 6, .inl (cI, 32, .inl g6)), (qa 7, .inl (cI, 32, .inl g7)), (qa 8, .inl (cI, 32, .inl g8)), (qa 9, .inl (cI, 32, .inl g9)), (qa 10, .inl (cB, 64000, .inl g10)), (qa 11, .inl (cI, 2048, .inl g11)), (qa 12, .inl (cI, 128, .inl g12))] sz)) (va_A [(h, .inr (10, mdF qa x0 (nI LL) x3 x4 x13 x14 x15 x16 x17 x18 x19 x20 x21 x22 x23 x24 x26 x27 x28)), (qa 1, .inl (cB, 9000, .inl g1)), (qa 5, .inl (cI, 32, .inl g5)), (qa 6, .inl (cI, 32, .inl g6)), (qa 7, .inl (cI, 32, .inl g7)), (qa 8, .inl (cI, 32, .inl g8)), (qa 9, .inl (cI, 32, .inl g9)), (qa 10, .inl (cB, 64000, .inl g10)), (qa 11, .inl (cI, 2048, .inl g11)), (qa 12, .inl (cI, 128, .inl g12))] sz)) 0 0 (va_A [(h, .inr (10, mdF qa x0 (nI LL) x3 x4 x13 x14 x15 x16 x17 x18 x19 x20 x21 x22 x23 x24 x26 x27 x28)), (qa 1, .inl (cB, 9000, .inl g1)), (qa 5, .inl (cI, 32, .inl g5)), (qa 6, .inl (cI, 32, .inl g6)), (qa 7, .inl (cI, 32, .inl g7)), (qa 8, .inl (cI, 32, .inl g8)), (qa 9, .inl (cI, 32, .inl g9)), (qa 10, .inl (cB, 64000, .inl g10)), (qa 11, .inl (cI, 2048, .inl g11)), (qa 12, .inl (cI, 128, .inl g12))] sz) := by
  refine Met.ofW (cc := cX11_save) (maxL := 7) (ret := (some .int)) (by decide) rfl ?_
  intro p e s m args below meth c s₁ B hml hv
  obtain ⟨rfl, hsz, hP, hK, hD0, hN, hZ⟩ := hv
  have hx := B.exec
  have hb := B.bytes
  have hr := B.returns
  have hts := atoms_spec (ws := (wsG (.code yX11_save cX11_save 7 (some .int)))) B.pre
  have hown : s.vm.findClass RX11 = some m.cls := findClass_of_methodNamed B.named
  have hlocks := B.notSynchronized
  subst hsz
  have hD := hD0.self (sz := s.heap.size)
  generalize hAe : va_A [(h, .inr (10, mdF qa x0 (nI LL) x3 x4 x13 x14 x15 x16 x17 x18 x19 x20 x21 x22 x23 x24 x26 x27 x28)), (qa 1, .inl (cB, 9000, .inl g1)), (qa 5, .inl (cI, 32, .inl g5)), (qa 6, .inl (cI, 32, .inl g6)), (qa 7, .inl (cI, 32, .inl g7)), (qa 8, .inl (cI, 32, .inl g8)), (qa 9, .inl (cI, 32, .inl g9)), (qa 10, .inl (cB, 64000, .inl g10)), (qa 11, .inl (cI, 2048, .inl g11)), (qa 12, .inl (cI, 128, .inl g12))] s.heap.size = A at hD hZ ⊢
  have hA : ∀ q : Nat, s.heap.size ≤ q → A q := fun q h => by rw [← hAe]; exact Or.inr h
  have hl := lv_entry ([.ref h]) (n := 7) (Nat.le_of_ble_eq_true rfl)
  rw [lg_entry_eq]
  generalize (lg_sl ([.ref h]) ++ List.replicate (7 - (lg_sl ([.ref h])).length) Slot.unset).toArray = ls at hl ⊢
  have hl : lv_has ls 7 [(0, .ref h)] := hl
  refine g_start (A := A) hP (fun H locs hP hS => ?_)
  refine lv_aload_n hx hb dX11_save_0 rfl (lv_at hl 0 rfl) ?_
  refine g_calli (wr := [(qa 1, .inl (cB, 9000, .inl g1)), (qa 5, .inl (cI, 32, .inl g5)), (qa 6, .inl (cI, 32, .inl g6)), (qa 7, .inl (cI, 32, .inl g7)), (qa 8, .inl (cI, 32, .inl g8)), (qa 9, .inl (cI, 32, .inl g9)), (qa 10, .inl (cB, 64000, .inl g10)), (qa 11, .inl (cI, 2048, .inl g11))]) (va_runV (As := []) (rest := []) ⟨hx, hb, hml, hown, hts⟩ (m_patterns l dC dI H.size h qa x0 (nI LL) x3 x4 x13 x14 x15 x16 x17 x18 x19 x20 x21 x22 x23 x24 x26 x27 x28 cI g12 (r_g12) (h_x13)) (cwV 0 hts (gG_V kw_510 kw_511 kw_512 kw_5 kw_513) rfl rfl rfl (by decide +kernel) ⟨Nat.le_of_ble_eq_true rfl, Nat.le_of_ble_eq_true rfl⟩) (g_preV (C := RX11) (T := TX11) (N := 53) hP hD hK hS hA hN hZ (q0 := 0) rfl rfl [0, 9] (by decide) rfl [1] rfl) rfl rfl hl.1 rfl (lv_room (Nat.le_of_ble_eq_true rfl)) dX11_save_1 ⟨Nat.le_of_ble_eq_true rfl, Nat.le_of_ble_eq_true rfl⟩) hP hD hK hS hA [0, 9] [1, 2, 3, 4, 5, 6, 7, 8] rfl rfl (by decide) (by decide) (fun r_1 w ty1 H locs hw_1 hP hD _ hS => ?_)
  rcases hw_1 with ⟨np_1, hu, hr_1, hnp_1⟩
  cases hu
  have hP : va_P (dC, dI) vwCl [(qa 1, .inl (cB, 9000, .inl g1)), (qa 5, .inl (cI, 32, .inl g5)), (qa 6, .inl (cI, 32, .inl g6)), (qa 7, .inl (cI, 32, .inl g7)), (qa 8, .inl (cI, 32, .inl g8)), (qa 9, .inl (cI, 32, .inl g9)), (qa 10, .inl (cB, 64000, .inl g10)), (qa 11, .inl (cI, 2048, .inl g11)), (h, .inr (10, mdF qa x0 (nI LL) x3 x4 x13 x14 x15 x16 x17 x18 x19 x20 x21 x22 x23 x24 x26 x27 x28)), (qa 12, .inl (cI, 128, .inl g12))] H := hP
  have hD : va_D A [(qa 1, .inl (cB, 9000, .inl g1)), (qa 5, .inl (cI, 32, .inl g5)), (qa 6, .inl (cI, 32, .inl g6)), (qa 7, .inl (cI, 32, .inl g7)), (qa 8, .inl (cI, 32, .inl g8)), (qa 9, .inl (cI, 32, .inl g9)), (qa 10, .inl (cB, 64000, .inl g10)), (qa 11, .inl (cI, 2048, .inl g11)), (h, .inr (10, mdF qa x0 (nI LL) x3 x4 x13 x14 x15 x16 x17 x18 x19 x20 x21 x22 x23 x24 x26 x27 x28)), (qa 12, .inl (cI, 128, .inl g12))] := hD
  refine g_topi (y := nI np_1) hr_1 ?_
  refine lv_istore_n (lv' := [(1, .int (nI np_1)), (0, .ref h)]) hx hb dX11_save_4 rfl hl (by decide) rfl (fun ls hl => ?_)
  refine lv_sipush (v := 1084) hx hb dX11_save_5 (by decide) ?_
  refine lv_sipush (v := 1024) hx hb dX11_save_8 (by decide) ?_
  refine lv_iload_n hx hb dX11_save_11 rfl (lv_at hl 0 rfl) ?_
  refine lv_imul hx hb dX11_save_12 ?_
  refine g_topi (y := nI (1024 * np_1)) (pk_mul 1024 _) ?_
  refine lv_iadd hx hb dX11_save_13 ?_
  refine g_topi (y := nI (1084 + 1024 * np_1)) (nI_add 1084 _) ?_
  refine lv_istore_n (lv' := [(2, .int (nI (1084 + 1024 * np_1))), (1, .int (nI np_1)), (0, .ref h)]) hx hb dX11_save_14 rfl hl (by decide) rfl (fun ls hl => ?_)
  refine lv_iconst (v := 1) hx hb dX11_save_15 (by decide) ?_
  refine lv_istore_n (lv' := [(3, .int 1), (2, .int (nI (1084 + 1024 * np_1))), (1, .int (nI np_1)), (0, .ref h)]) hx hb dX11_save_16 rfl hl (by decide) rfl (fun ls hl => ?_)
  have LP17 : ∀ (fu17 : Nat) (q17 : Nat) (sz_ : Nat) (hq17a : 1 ≤ q17) (hq17 : q17 ≤ 32) (esz_ : sz_ = 1084 + 1024 * np_1 + sumTo (lz g5) q17) (hm17 : 32 - q17 < fu17) (H : Heap) (locs : List Loc), va_P (dC, dI) vwCl [(qa 1, .inl (cB, 9000, .inl g1)), (qa 5, .inl (cI, 32, .inl g5)), (qa 6, .inl (cI, 32, .inl g6)), (qa 7, .inl (cI, 32, .inl g7)), (qa 8, .inl (cI, 32, .inl g8)), (qa 9, .inl (cI, 32, .inl g9)), (qa 10, .inl (cB, 64000, .inl g10)), (qa 11, .inl (cI, 2048, .inl g11)), (h, .inr (10, mdF qa x0 (nI LL) x3 x4 x13 x14 x15 x16 x17 x18 x19 x20 x21 x22 x23 x24 x26 x27 x28)), (qa 12, .inl (cI, 128, .inl g12))] H → va_D A [(qa 1, .inl (cB, 9000, .inl g1)), (qa 5, .inl (cI, 32, .inl g5)), (qa 6, .inl (cI, 32, .inl g6)), (qa 7, .inl (cI, 32, .inl g7)), (qa 8, .inl (cI, 32, .inl g8)), (qa 9, .inl (cI, 32, .inl g9)), (qa 10, .inl (cB, 64000, .inl g10)), (qa 11, .inl (cI, 2048, .inl g11)), (h, .inr (10, mdF qa x0 (nI LL) x3 x4 x13 x14 x15 x16 x17 x18 x19 x20 x21 x22 x23 x24 x26 x27 x28)), (qa 12, .inl (cI, 128, .inl g12))] → va_S A s.heap H locs → ∀ ls : Array Slot, lv_has ls 7 [(3, .int (nI q17)), (2, .int (nI sz_)), (1, .int (nI np_1)), (0, .ref h)] → W p l e ({ frames := 2, cells := 0, slots := 0, locals := 42 }) s m ([.ref h] : List Value).toArray below meth c H locs (0) (0) (MQ below (va_Qi (fun (r : Int32) (u : va_W × gT) => ∃ (L2 : Nat) (k1 : Nat → Int32), u = ([(h, .inr (10, mdF qa x0 (nI L2) x3 x4 x13 x14 x15 x16 x17 x18 x19 x20 x21 x22 x23 x24 x26 x27 x28)), (qa 1, .inl (cB, 9000, .inl k1)), (qa 5, .inl (cI, 32, .inl g5)), (qa 6, .inl (cI, 32, .inl g6)), (qa 7, .inl (cI, 32, .inl g7)), (qa 8, .inl (cI, 32, .inl g8)), (qa 9, .inl (cI, 32, .inl g9)), (qa 10, .inl (cB, 64000, .inl g10)), (qa 11, .inl (cI, 2048, .inl g11)), (qa 12, .inl (cI, 128, .inl g12))], []) ∧ L2 ≤ 9000) (gB (dC, dI) A) A) ([.ref h] : List Value).toArray s 0 0 A) (F0 m 17 ls []) := by
    intro fu17
    induction fu17 with
    | zero => intro q17 sz_ hq17a hq17 esz_ hm17; exact absurd hm17 (Nat.not_lt_zero _)
    | succ fu17 ih17 =>
      intro q17 sz_ hq17a hq17 esz_ hm17 H locs hP hD hS ls hl
      refine lv_iload_n hx hb dX11_save_17 rfl (lv_at hl 0 rfl) ?_
      refine lv_bipush (v := 32) hx hb dX11_save_18 (by decide) ?_
      refine lv_icmp_ge (tgt := 38) hx hb dX11_save_20 (by decide) (fun c_20 => ?_) (fun c_20 => ?_)
      · have hq32 : q17 = 32 := by have := nI_le' (a := 32) c_20 (by decide) (by omega); omega
        have hsb := lz_sum r_g5 (kx := 32) (Nat.le_refl _)
        rw [hq32] at esz_
        refine lv_iload_n hx hb dX11_save_38 rfl (lv_at hl 1 rfl) ?_
        refine lv_sipush (v := 9000) hx hb dX11_save_39 (by decide) ?_
        refine lv_icmp_le (tgt := 47) hx hb dX11_save_42 (by decide) (fun c_42 => ?_) (fun c_42 => ?_)
        · have hsz9 : sz_ ≤ 9000 := nI_le' (b := 9000) c_42 (by omega) (by decide)
          refine lv_aload_n hx hb dX11_save_47 rfl (lv_at hl 3 rfl) ?_
          refine lv_iconst (v := 0) hx hb dX11_save_48 (by decide) ?_
          refine va_put (D := (dC, dI)) (ci := 10) (v := .int 0) (ty := tyX11 2) (C := RX11) (T := TX11) (N := 53) hx hb hts iwX11 tyX11 tyX11_ok nmX11 hown hK hP hD hS 8 rfl rfl 2 (by decide) (hts (.fieldLink RX11 138 "ModulePlayerModel" "taped" "I") (List.mem_cons_of_mem _ kw_253)) (fun _ h9 => h9) rfl (by decide +kernel) (rfl) (rfl) (Nat.le_of_ble_eq_true rfl) dX11_save_49 (fun H locs hP hD hS => ?_)
          have hP : va_P (dC, dI) vwCl [(qa 1, .inl (cB, 9000, .inl g1)), (qa 5, .inl (cI, 32, .inl g5)), (qa 6, .inl (cI, 32, .inl g6)), (qa 7, .inl (cI, 32, .inl g7)), (qa 8, .inl (cI, 32, .inl g8)), (qa 9, .inl (cI, 32, .inl g9)), (qa 10, .inl (cB, 64000, .inl g10)), (qa 11, .inl (cI, 2048, .inl g11)), (h, .inr (10, mdF qa x0 0 x3 x4 x13 x14 x15 x16 x17 x18 x19 x20 x21 x22 x23 x24 x26 x27 x28)), (qa 12, .inl (cI, 128, .inl g12))] H := hP
          have hD : va_D A [(qa 1, .inl (cB, 9000, .inl g1)), (qa 5, .inl (cI, 32, .inl g5)), (qa 6, .inl (cI, 32, .inl g6)), (qa 7, .inl (cI, 32, .inl g7)), (qa 8, .inl (cI, 32, .inl g8)), (qa 9, .inl (cI, 32, .inl g9)), (qa 10, .inl (cB, 64000, .inl g10)), (qa 11, .inl (cI, 2048, .inl g11)), (h, .inr (10, mdF qa x0 0 x3 x4 x13 x14 x15 x16 x17 x18 x19 x20 x21 x22 x23 x24 x26 x27 x28)), (qa 12, .inl (cI, 128, .inl g12))] := hD
          refine lv_iconst (v := 0) hx hb dX11_save_52 (by decide) ?_
          refine lv_istore_n (lv' := [(3, .int 0), (2, .int (nI sz_)), (1, .int (nI np_1)), (0, .ref h)]) hx hb dX11_save_53 rfl hl (by decide) rfl (fun ls hl => ?_)
          have LP54 : ∀ (fu54 : Nat) (q54 : Nat) (La : Nat) (t54 : Nat → Int32) (eLa : La = q54) (hq54 : q54 ≤ 20) (hm54 : 20 - q54 < fu54) (H : Heap) (locs : List Loc), va_P (dC, dI) vwCl [(qa 1, .inl (cB, 9000, .inl t54)), (qa 5, .inl (cI, 32, .inl g5)), (qa 6, .inl (cI, 32, .inl g6)), (qa 7, .inl (cI, 32, .inl g7)), (qa 8, .inl (cI, 32, .inl g8)), (qa 9, .inl (cI, 32, .inl g9)), (qa 10, .inl (cB, 64000, .inl g10)), (qa 11, .inl (cI, 2048, .inl g11)), (h, .inr (10, mdF qa x0 (nI La) x3 x4 x13 x14 x15 x16 x17 x18 x19 x20 x21 x22 x23 x24 x26 x27 x28)), (qa 12, .inl (cI, 128, .inl g12))] H → va_D A [(qa 1, .inl (cB, 9000, .inl t54)), (qa 5, .inl (cI, 32, .inl g5)), (qa 6, .inl (cI, 32, .inl g6)), (qa 7, .inl (cI, 32, .inl g7)), (qa 8, .inl (cI, 32, .inl g8)), (qa 9, .inl (cI, 32, .inl g9)), (qa 10, .inl (cB, 64000, .inl g10)), (qa 11, .inl (cI, 2048, .inl g11)), (h, .inr (10, mdF qa x0 (nI La) x3 x4 x13 x14 x15 x16 x17 x18 x19 x20 x21 x22 x23 x24 x26 x27 x28)), (qa 12, .inl (cI, 128, .inl g12))] → va_S A s.heap H locs → ∀ ls : Array Slot, lv_has ls 7 [(3, .int (nI q54)), (1, .int (nI np_1)), (0, .ref h)] → W p l e ({ frames := 2, cells := 0, slots := 0, locals := 42 }) s m ([.ref h] : List Value).toArray below meth c H locs (0) (0) (MQ below (va_Qi (fun (r : Int32) (u : va_W × gT) => ∃ (L2 : Nat) (k1 : Nat → Int32), u = ([(h, .inr (10, mdF qa x0 (nI L2) x3 x4 x13 x14 x15 x16 x17 x18 x19 x20 x21 x22 x23 x24 x26 x27 x28)), (qa 1, .inl (cB, 9000, .inl k1)), (qa 5, .inl (cI, 32, .inl g5)), (qa 6, .inl (cI, 32, .inl g6)), (qa 7, .inl (cI, 32, .inl g7)), (qa 8, .inl (cI, 32, .inl g8)), (qa 9, .inl (cI, 32, .inl g9)), (qa 10, .inl (cB, 64000, .inl g10)), (qa 11, .inl (cI, 2048, .inl g11)), (qa 12, .inl (cI, 128, .inl g12))], []) ∧ L2 ≤ 9000) (gB (dC, dI) A) A) ([.ref h] : List Value).toArray s 0 0 A) (F0 m 54 ls []) := by
            intro fu54
            induction fu54 with
            | zero => intro q54 La t54 eLa hq54 hm54; exact absurd hm54 (Nat.not_lt_zero _)
            | succ fu54 ih54 =>
              intro q54 La t54 eLa hq54 hm54 H locs hP hD hS ls hl
              refine lv_iload_n hx hb dX11_save_54 rfl (lv_at hl 0 rfl) ?_
              refine lv_bipush (v := 20) hx hb dX11_save_55 (by decide) ?_
              refine lv_icmp_ge (tgt := 71) hx hb dX11_save_57 (by decide) (fun c_57 => ?_) (fun c_57 => ?_)
              · have hq54e : q54 = 20 := by have := nI_le' (a := 20) c_57 (by decide) (by omega); omega
                refine lv_iconst (v := 1) hx hb dX11_save_71 (by decide) ?_
                refine lv_istore_n (lv' := [(3, .int 1), (1, .int (nI np_1)), (0, .ref h)]) hx hb dX11_save_72 rfl hl (by decide) rfl (fun ls hl => ?_)
                have LP73 : ∀ (fu73 : Nat) (q73 : Nat) (Lb : Nat) (t73 : Nat → Int32) (eLb : Lb = 20 + 30 * (q73 - 1)) (hq73a : 1 ≤ q73) (hq73 : q73 ≤ 32) (hm73 : 32 - q73 < fu73) (H : Heap) (locs : List Loc), va_P (dC, dI) vwCl [(qa 1, .inl (cB, 9000, .inl t73)), (qa 5, .inl (cI, 32, .inl g5)), (qa 6, .inl (cI, 32, .inl g6)), (qa 7, .inl (cI, 32, .inl g7)), (qa 8, .inl (cI, 32, .inl g8)), (qa 9, .inl (cI, 32, .inl g9)), (qa 10, .inl (cB, 64000, .inl g10)), (qa 11, .inl (cI, 2048, .inl g11)), (h, .inr (10, mdF qa x0 (nI Lb) x3 x4 x13 x14 x15 x16 x17 x18 x19 x20 x21 x22 x23 x24 x26 x27 x28)), (qa 12, .inl (cI, 128, .inl g12))] H → va_D A [(qa 1, .inl (cB, 9000, .inl t73)), (qa 5, .inl (cI, 32, .inl g5)), (qa 6, .inl (cI, 32, .inl g6)), (qa 7, .inl (cI, 32, .inl g7)), (qa 8, .inl (cI, 32, .inl g8)), (qa 9, .inl (cI, 32, .inl g9)), (qa 10, .inl (cB, 64000, .inl g10)), (qa 11, .inl (cI, 2048, .inl g11)), (h, .inr (10, mdF qa x0 (nI Lb) x3 x4 x13 x14 x15 x16 x17 x18 x19 x20 x21 x22 x23 x24 x26 x27 x28)), (qa 12, .inl (cI, 128, .inl g12))] → va_S A s.heap H locs → ∀ ls : Array Slot, lv_has ls 7 [(3, .int (nI q73)), (1, .int (nI np_1)), (0, .ref h)] → W p l e ({ frames := 2, cells := 0, slots := 0, locals := 42 }) s m ([.ref h] : List Value).toArray below meth c H locs (0) (0) (MQ below (va_Qi (fun (r : Int32) (u : va_W × gT) => ∃ (L2 : Nat) (k1 : Nat → Int32), u = ([(h, .inr (10, mdF qa x0 (nI L2) x3 x4 x13 x14 x15 x16 x17 x18 x19 x20 x21 x22 x23 x24 x26 x27 x28)), (qa 1, .inl (cB, 9000, .inl k1)), (qa 5, .inl (cI, 32, .inl g5)), (qa 6, .inl (cI, 32, .inl g6)), (qa 7, .inl (cI, 32, .inl g7)), (qa 8, .inl (cI, 32, .inl g8)), (qa 9, .inl (cI, 32, .inl g9)), (qa 10, .inl (cB, 64000, .inl g10)), (qa 11, .inl (cI, 2048, .inl g11)), (qa 12, .inl (cI, 128, .inl g12))], []) ∧ L2 ≤ 9000) (gB (dC, dI) A) A) ([.ref h] : List Value).toArray s 0 0 A) (F0 m 73 ls []) := by
                  intro fu73
                  induction fu73 with
                  | zero => intro q73 Lb t73 eLb hq73a hq73 hm73; exact absurd hm73 (Nat.not_lt_zero _)
                  | succ fu73 ih73 =>
                    intro q73 Lb t73 eLb hq73a hq73 hm73 H locs hP hD hS ls hl
                    refine lv_iload_n hx hb dX11_save_73 rfl (lv_at hl 0 rfl) ?_
                    refine lv_bipush (v := 32) hx hb dX11_save_74 (by decide) ?_
                    refine lv_icmp_ge (tgt := 159) hx hb dX11_save_76 (by decide) (fun c_76 => ?_) (fun c_76 => ?_)
                    · have hq73e : q73 = 32 := by have := nI_le' (a := 32) c_76 (by decide) (by omega); omega
                      refine lv_aload_n hx hb dX11_save_159 rfl (lv_at hl 2 rfl) ?_
                      refine lv_aload_n hx hb dX11_save_160 rfl (lv_at hl 2 rfl) ?_
                      refine va_get (D := (dC, dI)) (ci := 10) (v := .int x13) (C := RX11) (T := TX11) (N := 53) hx hb hts iwX11 hown hK hP 8 rfl rfl 13 (by decide) (hts (.fieldLink RX11 43 "ModulePlayerModel" "places" "I") (List.mem_cons_of_mem _ kw_182)) (fun _ h9 => h9) rfl dX11_save_161 ?_
                      refine g_callv (wr := [(qa 5, .inl (cI, 32, .inl g5)), (qa 6, .inl (cI, 32, .inl g6)), (qa 7, .inl (cI, 32, .inl g7)), (qa 8, .inl (cI, 32, .inl g8)), (qa 9, .inl (cI, 32, .inl g9)), (qa 10, .inl (cB, 64000, .inl g10)), (qa 11, .inl (cI, 2048, .inl g11)), (qa 12, .inl (cI, 128, .inl g12))]) (va_runV (As := [.int x13]) (rest := []) ⟨hx, hb, hml, hown, hts⟩ (m_put l dC dI H.size h qa x0 x3 x4 x13 x14 x15 x16 x17 x18 x19 x20 x21 x22 x23 x24 x26 x27 x28 cB Lb t73 x13 (by omega)) (cwV 1 hts (gG_V kw_514 kw_515 kw_516 kw_5 kw_517) rfl rfl rfl (by decide +kernel) ⟨Nat.le_of_ble_eq_true rfl, Nat.le_of_ble_eq_true rfl⟩) (g_preV (C := RX11) (T := TX11) (N := 53) hP hD hK hS hA hN hZ (q0 := 8) rfl rfl [8, 0] (by decide) rfl [0] rfl) rfl rfl hl.1 rfl (lv_room (Nat.le_of_ble_eq_true rfl)) dX11_save_164 ⟨Nat.le_of_ble_eq_true rfl, Nat.le_of_ble_eq_true rfl⟩) hP hD hK hS hA [8, 0] [1, 2, 3, 4, 5, 6, 7, 9] rfl rfl (by decide) (by decide) (fun w ty1 H locs hw_164 hP hD _ hS => ?_)
                      rcases hw_164 with ⟨ft2_164, hu⟩
                      cases hu
                      have hP : va_P (dC, dI) vwCl [(qa 5, .inl (cI, 32, .inl g5)), (qa 6, .inl (cI, 32, .inl g6)), (qa 7, .inl (cI, 32, .inl g7)), (qa 8, .inl (cI, 32, .inl g8)), (qa 9, .inl (cI, 32, .inl g9)), (qa 10, .inl (cB, 64000, .inl g10)), (qa 11, .inl (cI, 2048, .inl g11)), (qa 12, .inl (cI, 128, .inl g12)), (h, .inr (10, mdF qa x0 (nI (Lb + 1)) x3 x4 x13 x14 x15 x16 x17 x18 x19 x20 x21 x22 x23 x24 x26 x27 x28)), (qa 1, .inl (cB, 9000, .inl ft2_164))] H := hP
                      have hD : va_D A [(qa 5, .inl (cI, 32, .inl g5)), (qa 6, .inl (cI, 32, .inl g6)), (qa 7, .inl (cI, 32, .inl g7)), (qa 8, .inl (cI, 32, .inl g8)), (qa 9, .inl (cI, 32, .inl g9)), (qa 10, .inl (cB, 64000, .inl g10)), (qa 11, .inl (cI, 2048, .inl g11)), (qa 12, .inl (cI, 128, .inl g12)), (h, .inr (10, mdF qa x0 (nI (Lb + 1)) x3 x4 x13 x14 x15 x16 x17 x18 x19 x20 x21 x22 x23 x24 x26 x27 x28)), (qa 1, .inl (cB, 9000, .inl ft2_164))] := hD
                      refine lv_aload_n hx hb dX11_save_167 rfl (lv_at hl 2 rfl) ?_
                      refine lv_aload_n hx hb dX11_save_168 rfl (lv_at hl 2 rfl) ?_
                      refine va_get (D := (dC, dI)) (ci := 10) (v := .int x14) (C := RX11) (T := TX11) (N := 53) hx hb hts iwX11 hown hK hP 8 rfl rfl 14 (by decide) (hts (.fieldLink RX11 172 "ModulePlayerModel" "restart" "I") (List.mem_cons_of_mem _ kw_425)) (fun _ h9 => h9) rfl dX11_save_169 ?_
                      refine g_callv (wr := [(qa 5, .inl (cI, 32, .inl g5)), (qa 6, .inl (cI, 32, .inl g6)), (qa 7, .inl (cI, 32, .inl g7)), (qa 8, .inl (cI, 32, .inl g8)), (qa 9, .inl (cI, 32, .inl g9)), (qa 10, .inl (cB, 64000, .inl g10)), (qa 11, .inl (cI, 2048, .inl g11)), (qa 12, .inl (cI, 128, .inl g12))]) (va_runV (As := [.int x14]) (rest := []) ⟨hx, hb, hml, hown, hts⟩ (m_put l dC dI H.size h qa x0 x3 x4 x13 x14 x15 x16 x17 x18 x19 x20 x21 x22 x23 x24 x26 x27 x28 cB (Lb + 1) ft2_164 x14 (by omega)) (cwV 1 hts (gG_V kw_514 kw_515 kw_516 kw_5 kw_517) rfl rfl rfl (by decide +kernel) ⟨Nat.le_of_ble_eq_true rfl, Nat.le_of_ble_eq_true rfl⟩) (g_preV (C := RX11) (T := TX11) (N := 53) hP hD hK hS hA hN hZ (q0 := 8) rfl rfl [8, 9] (by decide) rfl [0] rfl) rfl rfl hl.1 rfl (lv_room (Nat.le_of_ble_eq_true rfl)) dX11_save_172 ⟨Nat.le_of_ble_eq_true rfl, Nat.le_of_ble_eq_true rfl⟩) hP hD hK hS hA [8, 9] [0, 1, 2, 3, 4, 5, 6, 7] rfl rfl (by decide) (by decide) (fun w ty1 H locs hw_172 hP hD _ hS => ?_)
                      rcases hw_172 with ⟨ft2_172, hu⟩
                      cases hu
                      have hP : va_P (dC, dI) vwCl [(qa 5, .inl (cI, 32, .inl g5)), (qa 6, .inl (cI, 32, .inl g6)), (qa 7, .inl (cI, 32, .inl g7)), (qa 8, .inl (cI, 32, .inl g8)), (qa 9, .inl (cI, 32, .inl g9)), (qa 10, .inl (cB, 64000, .inl g10)), (qa 11, .inl (cI, 2048, .inl g11)), (qa 12, .inl (cI, 128, .inl g12)), (h, .inr (10, mdF qa x0 (nI ((Lb + 1) + 1)) x3 x4 x13 x14 x15 x16 x17 x18 x19 x20 x21 x22 x23 x24 x26 x27 x28)), (qa 1, .inl (cB, 9000, .inl ft2_172))] H := hP
                      have hD : va_D A [(qa 5, .inl (cI, 32, .inl g5)), (qa 6, .inl (cI, 32, .inl g6)), (qa 7, .inl (cI, 32, .inl g7)), (qa 8, .inl (cI, 32, .inl g8)), (qa 9, .inl (cI, 32, .inl g9)), (qa 10, .inl (cB, 64000, .inl g10)), (qa 11, .inl (cI, 2048, .inl g11)), (qa 12, .inl (cI, 128, .inl g12)), (h, .inr (10, mdF qa x0 (nI ((Lb + 1) + 1)) x3 x4 x13 x14 x15 x16 x17 x18 x19 x20 x21 x22 x23 x24 x26 x27 x28)), (qa 1, .inl (cB, 9000, .inl ft2_172))] := hD
                      refine lv_iconst (v := 0) hx hb dX11_save_175 (by decide) ?_
                      refine lv_istore_n (lv' := [(3, .int 0), (1, .int (nI np_1)), (0, .ref h)]) hx hb dX11_save_176 rfl hl (by decide) rfl (fun ls hl => ?_)
                      have LP177 : ∀ (fu177 : Nat) (q177 : Nat) (Ld : Nat) (t177 : Nat → Int32) (eLd : Ld = 952 + q177) (hq177 : q177 ≤ 128) (hm177 : 128 - q177 < fu177) (H : Heap) (locs : List Loc), va_P (dC, dI) vwCl [(qa 5, .inl (cI, 32, .inl g5)), (qa 6, .inl (cI, 32, .inl g6)), (qa 7, .inl (cI, 32, .inl g7)), (qa 8, .inl (cI, 32, .inl g8)), (qa 9, .inl (cI, 32, .inl g9)), (qa 10, .inl (cB, 64000, .inl g10)), (qa 11, .inl (cI, 2048, .inl g11)), (qa 12, .inl (cI, 128, .inl g12)), (h, .inr (10, mdF qa x0 (nI Ld) x3 x4 x13 x14 x15 x16 x17 x18 x19 x20 x21 x22 x23 x24 x26 x27 x28)), (qa 1, .inl (cB, 9000, .inl t177))] H → va_D A [(qa 5, .inl (cI, 32, .inl g5)), (qa 6, .inl (cI, 32, .inl g6)), (qa 7, .inl (cI, 32, .inl g7)), (qa 8, .inl (cI, 32, .inl g8)), (qa 9, .inl (cI, 32, .inl g9)), (qa 10, .inl (cB, 64000, .inl g10)), (qa 11, .inl (cI, 2048, .inl g11)), (qa 12, .inl (cI, 128, .inl g12)), (h, .inr (10, mdF qa x0 (nI Ld) x3 x4 x13 x14 x15 x16 x17 x18 x19 x20 x21 x22 x23 x24 x26 x27 x28)), (qa 1, .inl (cB, 9000, .inl t177))] → va_S A s.heap H locs → ∀ ls : Array Slot, lv_has ls 7 [(3, .int (nI q177)), (1, .int (nI np_1)), (0, .ref h)] → W p l e ({ frames := 2, cells := 0, slots := 0, locals := 42 }) s m ([.ref h] : List Value).toArray below meth c H locs (0) (0) (MQ below (va_Qi (fun (r : Int32) (u : va_W × gT) => ∃ (L2 : Nat) (k1 : Nat → Int32), u = ([(h, .inr (10, mdF qa x0 (nI L2) x3 x4 x13 x14 x15 x16 x17 x18 x19 x20 x21 x22 x23 x24 x26 x27 x28)), (qa 1, .inl (cB, 9000, .inl k1)), (qa 5, .inl (cI, 32, .inl g5)), (qa 6, .inl (cI, 32, .inl g6)), (qa 7, .inl (cI, 32, .inl g7)), (qa 8, .inl (cI, 32, .inl g8)), (qa 9, .inl (cI, 32, .inl g9)), (qa 10, .inl (cB, 64000, .inl g10)), (qa 11, .inl (cI, 2048, .inl g11)), (qa 12, .inl (cI, 128, .inl g12))], []) ∧ L2 ≤ 9000) (gB (dC, dI) A) A) ([.ref h] : List Value).toArray s 0 0 A) (F0 m 177 ls []) := by
                        intro fu177
                        induction fu177 with
                        | zero => intro q177 Ld t177 eLd hq177 hm177; exact absurd hm177 (Nat.not_lt_zero _)
                        | succ fu177 ih177 =>
                          intro q177 Ld t177 eLd hq177 hm177 H locs hP hD hS ls hl
                          refine lv_iload_n hx hb dX11_save_177 rfl (lv_at hl 0 rfl) ?_
                          refine lv_sipush (v := 128) hx hb dX11_save_178 (by decide) ?_
                          refine lv_icmp_ge (tgt := 212) hx hb dX11_save_181 (by decide) (fun c_181 => ?_) (fun c_181 => ?_)
                          · have hq177e : q177 = 128 := by have := nI_le' (a := 128) c_181 (by decide) (by omega); omega
                            refine lv_iconst (v := 0) hx hb dX11_save_212 (by decide) ?_
                            refine lv_istore_n (lv' := [(3, .int 0), (1, .int (nI np_1)), (0, .ref h)]) hx hb dX11_save_213 rfl hl (by decide) rfl (fun ls hl => ?_)
                            refine lv_iload_n hx hb dX11_save_214 rfl (lv_at hl 0 rfl) ?_
                            refine lv_iconst (v := 4) hx hb dX11_save_215 (by decide) ?_
                            refine lv_icmp_ge (tgt := 234) hx hb dX11_save_216 (by decide) (fun c_216 => absurd c_216 (by decide)) (fun c_216 => ?_)
                            refine lv_aload_n hx hb dX11_save_219 rfl (lv_at hl 2 rfl) ?_
                            obtain ⟨tz2, hZ2, hT2⟩ := hZ.2
                            refine va_gets hx hb hZ2 hS hown (hts (.fieldLink RX11 162 "ModulePlayerModel" "MAGIC" "[I") (List.mem_cons_of_mem _ kw_424)) (fun _ h9 => h9) dX11_save_220 ?_
                            refine lv_iload_n hx hb dX11_save_223 rfl (lv_at hl 0 rfl) ?_
                            refine va_ti (v := .int (mkv 0)) hx hb hT2 hS (by unfold vp_in; decide) (rfl) dX11_save_224 ?_
                            refine g_callv (wr := [(qa 5, .inl (cI, 32, .inl g5)), (qa 6, .inl (cI, 32, .inl g6)), (qa 7, .inl (cI, 32, .inl g7)), (qa 8, .inl (cI, 32, .inl g8)), (qa 9, .inl (cI, 32, .inl g9)), (qa 10, .inl (cB, 64000, .inl g10)), (qa 11, .inl (cI, 2048, .inl g11)), (qa 12, .inl (cI, 128, .inl g12))]) (va_runV (As := [.int (mkv 0)]) (rest := []) ⟨hx, hb, hml, hown, hts⟩ (m_put l dC dI H.size h qa x0 x3 x4 x13 x14 x15 x16 x17 x18 x19 x20 x21 x22 x23 x24 x26 x27 x28 cB Ld t177 (mkv 0) (by omega)) (cwV 1 hts (gG_V kw_514 kw_515 kw_516 kw_5 kw_517) rfl rfl rfl (by decide +kernel) ⟨Nat.le_of_ble_eq_true rfl, Nat.le_of_ble_eq_true rfl⟩) (g_preV (C := RX11) (T := TX11) (N := 53) hP hD hK hS hA hN hZ (q0 := 8) rfl rfl [8, 9] (by decide) rfl [0] rfl) rfl rfl hl.1 rfl (lv_room (Nat.le_of_ble_eq_true rfl)) dX11_save_225 ⟨Nat.le_of_ble_eq_true rfl, Nat.le_of_ble_eq_true rfl⟩) hP hD hK hS hA [8, 9] [0, 1, 2, 3, 4, 5, 6, 7] rfl rfl (by decide) (by decide) (fun w ty1 H locs hw_225 hP hD _ hS => ?_)
                            rcases hw_225 with ⟨ft2_225, hu⟩
                            cases hu
                            have hP : va_P (dC, dI) vwCl [(qa 5, .inl (cI, 32, .inl g5)), (qa 6, .inl (cI, 32, .inl g6)), (qa 7, .inl (cI, 32, .inl g7)), (qa 8, .inl (cI, 32, .inl g8)), (qa 9, .inl (cI, 32, .inl g9)), (qa 10, .inl (cB, 64000, .inl g10)), (qa 11, .inl (cI, 2048, .inl g11)), (qa 12, .inl (cI, 128, .inl g12)), (h, .inr (10, mdF qa x0 (nI (Ld + 1)) x3 x4 x13 x14 x15 x16 x17 x18 x19 x20 x21 x22 x23 x24 x26 x27 x28)), (qa 1, .inl (cB, 9000, .inl ft2_225))] H := hP
                            have hD : va_D A [(qa 5, .inl (cI, 32, .inl g5)), (qa 6, .inl (cI, 32, .inl g6)), (qa 7, .inl (cI, 32, .inl g7)), (qa 8, .inl (cI, 32, .inl g8)), (qa 9, .inl (cI, 32, .inl g9)), (qa 10, .inl (cB, 64000, .inl g10)), (qa 11, .inl (cI, 2048, .inl g11)), (qa 12, .inl (cI, 128, .inl g12)), (h, .inr (10, mdF qa x0 (nI (Ld + 1)) x3 x4 x13 x14 x15 x16 x17 x18 x19 x20 x21 x22 x23 x24 x26 x27 x28)), (qa 1, .inl (cB, 9000, .inl ft2_225))] := hD
                            refine lv_iinc (v := 1) (lv' := [(3, .int 1), (1, .int (nI np_1)), (0, .ref h)]) hx hb dX11_save_228 hl (k := 0) rfl (by decide) (by decide) rfl (fun ls hl => ?_)
                            refine lv_goto (tgt := 214) hx hb dX11_save_231 (by decide) ?_
                            refine lv_iload_n hx hb dX11_save_214 rfl (lv_at hl 0 rfl) ?_
                            refine lv_iconst (v := 4) hx hb dX11_save_215 (by decide) ?_
                            refine lv_icmp_ge (tgt := 234) hx hb dX11_save_216 (by decide) (fun c_216_2 => absurd c_216_2 (by decide)) (fun c_216_2 => ?_)
                            refine lv_aload_n hx hb dX11_save_219 rfl (lv_at hl 2 rfl) ?_
                            obtain ⟨tz2, hZ2, hT2⟩ := hZ.2
                            refine va_gets hx hb hZ2 hS hown (hts (.fieldLink RX11 162 "ModulePlayerModel" "MAGIC" "[I") (List.mem_cons_of_mem _ kw_424)) (fun _ h9 => h9) dX11_save_220 ?_
                            refine lv_iload_n hx hb dX11_save_223 rfl (lv_at hl 0 rfl) ?_
                            refine va_ti (v := .int (mkv 1)) hx hb hT2 hS (by unfold vp_in; decide) (rfl) dX11_save_224 ?_
                            refine g_callv (wr := [(qa 5, .inl (cI, 32, .inl g5)), (qa 6, .inl (cI, 32, .inl g6)), (qa 7, .inl (cI, 32, .inl g7)), (qa 8, .inl (cI, 32, .inl g8)), (qa 9, .inl (cI, 32, .inl g9)), (qa 10, .inl (cB, 64000, .inl g10)), (qa 11, .inl (cI, 2048, .inl g11)), (qa 12, .inl (cI, 128, .inl g12))]) (va_runV (As := [.int (mkv 1)]) (rest := []) ⟨hx, hb, hml, hown, hts⟩ (m_put l dC dI H.size h qa x0 x3 x4 x13 x14 x15 x16 x17 x18 x19 x20 x21 x22 x23 x24 x26 x27 x28 cB (Ld + 1) ft2_225 (mkv 1) (by omega)) (cwV 1 hts (gG_V kw_514 kw_515 kw_516 kw_5 kw_517) rfl rfl rfl (by decide +kernel) ⟨Nat.le_of_ble_eq_true rfl, Nat.le_of_ble_eq_true rfl⟩) (g_preV (C := RX11) (T := TX11) (N := 53) hP hD hK hS hA hN hZ (q0 := 8) rfl rfl [8, 9] (by decide) rfl [0] rfl) rfl rfl hl.1 rfl (lv_room (Nat.le_of_ble_eq_true rfl)) dX11_save_225 ⟨Nat.le_of_ble_eq_true rfl, Nat.le_of_ble_eq_true rfl⟩) hP hD hK hS hA [8, 9] [0, 1, 2, 3, 4, 5, 6, 7] rfl rfl (by decide) (by decide) (fun w ty1 H locs hw_225 hP hD _ hS => ?_)
                            rcases hw_225 with ⟨ft2_225_2, hu⟩
                            cases hu
                            have hP : va_P (dC, dI) vwCl [(qa 5, .inl (cI, 32, .inl g5)), (qa 6, .inl (cI, 32, .inl g6)), (qa 7, .inl (cI, 32, .inl g7)), (qa 8, .inl (cI, 32, .inl g8)), (qa 9, .inl (cI, 32, .inl g9)), (qa 10, .inl (cB, 64000, .inl g10)), (qa 11, .inl (cI, 2048, .inl g11)), (qa 12, .inl (cI, 128, .inl g12)), (h, .inr (10, mdF qa x0 (nI ((Ld + 1) + 1)) x3 x4 x13 x14 x15 x16 x17 x18 x19 x20 x21 x22 x23 x24 x26 x27 x28)), (qa 1, .inl (cB, 9000, .inl ft2_225_2))] H := hP
                            have hD : va_D A [(qa 5, .inl (cI, 32, .inl g5)), (qa 6, .inl (cI, 32, .inl g6)), (qa 7, .inl (cI, 32, .inl g7)), (qa 8, .inl (cI, 32, .inl g8)), (qa 9, .inl (cI, 32, .inl g9)), (qa 10, .inl (cB, 64000, .inl g10)), (qa 11, .inl (cI, 2048, .inl g11)), (qa 12, .inl (cI, 128, .inl g12)), (h, .inr (10, mdF qa x0 (nI ((Ld + 1) + 1)) x3 x4 x13 x14 x15 x16 x17 x18 x19 x20 x21 x22 x23 x24 x26 x27 x28)), (qa 1, .inl (cB, 9000, .inl ft2_225_2))] := hD
                            refine lv_iinc (v := 2) (lv' := [(3, .int 2), (1, .int (nI np_1)), (0, .ref h)]) hx hb dX11_save_228 hl (k := 0) rfl (by decide) (by decide) rfl (fun ls hl => ?_)
                            refine lv_goto (tgt := 214) hx hb dX11_save_231 (by decide) ?_
                            refine lv_iload_n hx hb dX11_save_214 rfl (lv_at hl 0 rfl) ?_
                            refine lv_iconst (v := 4) hx hb dX11_save_215 (by decide) ?_
                            refine lv_icmp_ge (tgt := 234) hx hb dX11_save_216 (by decide) (fun c_216_3 => absurd c_216_3 (by decide)) (fun c_216_3 => ?_)
                            refine lv_aload_n hx hb dX11_save_219 rfl (lv_at hl 2 rfl) ?_
                            obtain ⟨tz2, hZ2, hT2⟩ := hZ.2
                            refine va_gets hx hb hZ2 hS hown (hts (.fieldLink RX11 162 "ModulePlayerModel" "MAGIC" "[I") (List.mem_cons_of_mem _ kw_424)) (fun _ h9 => h9) dX11_save_220 ?_
                            refine lv_iload_n hx hb dX11_save_223 rfl (lv_at hl 0 rfl) ?_
                            refine va_ti (v := .int (mkv 2)) hx hb hT2 hS (by unfold vp_in; decide) (rfl) dX11_save_224 ?_
                            refine g_callv (wr := [(qa 5, .inl (cI, 32, .inl g5)), (qa 6, .inl (cI, 32, .inl g6)), (qa 7, .inl (cI, 32, .inl g7)), (qa 8, .inl (cI, 32, .inl g8)), (qa 9, .inl (cI, 32, .inl g9)), (qa 10, .inl (cB, 64000, .inl g10)), (qa 11, .inl (cI, 2048, .inl g11)), (qa 12, .inl (cI, 128, .inl g12))]) (va_runV (As := [.int (mkv 2)]) (rest := []) ⟨hx, hb, hml, hown, hts⟩ (m_put l dC dI H.size h qa x0 x3 x4 x13 x14 x15 x16 x17 x18 x19 x20 x21 x22 x23 x24 x26 x27 x28 cB ((Ld + 1) + 1) ft2_225_2 (mkv 2) (by omega)) (cwV 1 hts (gG_V kw_514 kw_515 kw_516 kw_5 kw_517) rfl rfl rfl (by decide +kernel) ⟨Nat.le_of_ble_eq_true rfl, Nat.le_of_ble_eq_true rfl⟩) (g_preV (C := RX11) (T := TX11) (N := 53) hP hD hK hS hA hN hZ (q0 := 8) rfl rfl [8, 9] (by decide) rfl [0] rfl) rfl rfl hl.1 rfl (lv_room (Nat.le_of_ble_eq_true rfl)) dX11_save_225 ⟨Nat.le_of_ble_eq_true rfl, Nat.le_of_ble_eq_true rfl⟩) hP hD hK hS hA [8, 9] [0, 1, 2, 3, 4, 5, 6, 7] rfl rfl (by decide) (by decide) (fun w ty1 H locs hw_225 hP hD _ hS => ?_)
                            rcases hw_225 with ⟨ft2_225_3, hu⟩
                            cases hu
                            have hP : va_P (dC, dI) vwCl [(qa 5, .inl (cI, 32, .inl g5)), (qa 6, .inl (cI, 32, .inl g6)), (qa 7, .inl (cI, 32, .inl g7)), (qa 8, .inl (cI, 32, .inl g8)), (qa 9, .inl (cI, 32, .inl g9)), (qa 10, .inl (cB, 64000, .inl g10)), (qa 11, .inl (cI, 2048, .inl g11)), (qa 12, .inl (cI, 128, .inl g12)), (h, .inr (10, mdF qa x0 (nI (((Ld + 1) + 1) + 1)) x3 x4 x13 x14 x15 x16 x17 x18 x19 x20 x21 x22 x23 x24 x26 x27 x28)), (qa 1, .inl (cB, 9000, .inl ft2_225_3))] H := hP
                            have hD : va_D A [(qa 5, .inl (cI, 32, .inl g5)), (qa 6, .inl (cI, 32, .inl g6)), (qa 7, .inl (cI, 32, .inl g7)), (qa 8, .inl (cI, 32, .inl g8)), (qa 9, .inl (cI, 32, .inl g9)), (qa 10, .inl (cB, 64000, .inl g10)), (qa 11, .inl (cI, 2048, .inl g11)), (qa 12, .inl (cI, 128, .inl g12)), (h, .inr (10, mdF qa x0 (nI (((Ld + 1) + 1) + 1)) x3 x4 x13 x14 x15 x16 x17 x18 x19 x20 x21 x22 x23 x24 x26 x27 x28)), (qa 1, .inl (cB, 9000, .inl ft2_225_3))] := hD
                            refine lv_iinc (v := 3) (lv' := [(3, .int 3), (1, .int (nI np_1)), (0, .ref h)]) hx hb dX11_save_228 hl (k := 0) rfl (by decide) (by decide) rfl (fun ls hl => ?_)
                            refine lv_goto (tgt := 214) hx hb dX11_save_231 (by decide) ?_
                            refine lv_iload_n hx hb dX11_save_214 rfl (lv_at hl 0 rfl) ?_
                            refine lv_iconst (v := 4) hx hb dX11_save_215 (by decide) ?_
                            refine lv_icmp_ge (tgt := 234) hx hb dX11_save_216 (by decide) (fun c_216_4 => absurd c_216_4 (by decide)) (fun c_216_4 => ?_)
                            refine lv_aload_n hx hb dX11_save_219 rfl (lv_at hl 2 rfl) ?_
                            obtain ⟨tz2, hZ2, hT2⟩ := hZ.2
                            refine va_gets hx hb hZ2 hS hown (hts (.fieldLink RX11 162 "ModulePlayerModel" "MAGIC" "[I") (List.mem_cons_of_mem _ kw_424)) (fun _ h9 => h9) dX11_save_220 ?_
                            refine lv_iload_n hx hb dX11_save_223 rfl (lv_at hl 0 rfl) ?_
                            refine va_ti (v := .int (mkv 3)) hx hb hT2 hS (by unfold vp_in; decide) (rfl) dX11_save_224 ?_
                            refine g_callv (wr := [(qa 5, .inl (cI, 32, .inl g5)), (qa 6, .inl (cI, 32, .inl g6)), (qa 7, .inl (cI, 32, .inl g7)), (qa 8, .inl (cI, 32, .inl g8)), (qa 9, .inl (cI, 32, .inl g9)), (qa 10, .inl (cB, 64000, .inl g10)), (qa 11, .inl (cI, 2048, .inl g11)), (qa 12, .inl (cI, 128, .inl g12))]) (va_runV (As := [.int (mkv 3)]) (rest := []) ⟨hx, hb, hml, hown, hts⟩ (m_put l dC dI H.size h qa x0 x3 x4 x13 x14 x15 x16 x17 x18 x19 x20 x21 x22 x23 x24 x26 x27 x28 cB (((Ld + 1) + 1) + 1) ft2_225_3 (mkv 3) (by omega)) (cwV 1 hts (gG_V kw_514 kw_515 kw_516 kw_5 kw_517) rfl rfl rfl (by decide +kernel) ⟨Nat.le_of_ble_eq_true rfl, Nat.le_of_ble_eq_true rfl⟩) (g_preV (C := RX11) (T := TX11) (N := 53) hP hD hK hS hA hN hZ (q0 := 8) rfl rfl [8, 9] (by decide) rfl [0] rfl) rfl rfl hl.1 rfl (lv_room (Nat.le_of_ble_eq_true rfl)) dX11_save_225 ⟨Nat.le_of_ble_eq_true rfl, Nat.le_of_ble_eq_true rfl⟩) hP hD hK hS hA [8, 9] [0, 1, 2, 3, 4, 5, 6, 7] rfl rfl (by decide) (by decide) (fun w ty1 H locs hw_225 hP hD _ hS => ?_)
                            rcases hw_225 with ⟨ft2_225_4, hu⟩
                            cases hu
                            have hP : va_P (dC, dI) vwCl [(qa 5, .inl (cI, 32, .inl g5)), (qa 6, .inl (cI, 32, .inl g6)), (qa 7, .inl (cI, 32, .inl g7)), (qa 8, .inl (cI, 32, .inl g8)), (qa 9, .inl (cI, 32, .inl g9)), (qa 10, .inl (cB, 64000, .inl g10)), (qa 11, .inl (cI, 2048, .inl g11)), (qa 12, .inl (cI, 128, .inl g12)), (h, .inr (10, mdF qa x0 (nI ((((Ld + 1) + 1) + 1) + 1)) x3 x4 x13 x14 x15 x16 x17 x18 x19 x20 x21 x22 x23 x24 x26 x27 x28)), (qa 1, .inl (cB, 9000, .inl ft2_225_4))] H := hP
                            have hD : va_D A [(qa 5, .inl (cI, 32, .inl g5)), (qa 6, .inl (cI, 32, .inl g6)), (qa 7, .inl (cI, 32, .inl g7)), (qa 8, .inl (cI, 32, .inl g8)), (qa 9, .inl (cI, 32, .inl g9)), (qa 10, .inl (cB, 64000, .inl g10)), (qa 11, .inl (cI, 2048, .inl g11)), (qa 12, .inl (cI, 128, .inl g12)), (h, .inr (10, mdF qa x0 (nI ((((Ld + 1) + 1) + 1) + 1)) x3 x4 x13 x14 x15 x16 x17 x18 x19 x20 x21 x22 x23 x24 x26 x27 x28)), (qa 1, .inl (cB, 9000, .inl ft2_225_4))] := hD
                            refine lv_iinc (v := 4) (lv' := [(3, .int 4), (1, .int (nI np_1)), (0, .ref h)]) hx hb dX11_save_228 hl (k := 0) rfl (by decide) (by decide) rfl (fun ls hl => ?_)
                            refine lv_goto (tgt := 214) hx hb dX11_save_231 (by decide) ?_
                            refine lv_iload_n hx hb dX11_save_214 rfl (lv_at hl 0 rfl) ?_
                            refine lv_iconst (v := 4) hx hb dX11_save_215 (by decide) ?_
                            refine lv_icmp_ge (tgt := 234) hx hb dX11_save_216 (by decide) (fun c_216_5 => ?_) (fun c_216_5 => absurd c_216_5 (by decide))
                            refine lv_iconst (v := 0) hx hb dX11_save_234 (by decide) ?_
                            refine lv_istore_n (lv' := [(3, .int 0), (1, .int (nI np_1)), (0, .ref h)]) hx hb dX11_save_235 rfl hl (by decide) rfl (fun ls hl => ?_)
                            have LP236 : ∀ (fu236 : Nat) (q236 : Nat) (Le : Nat) (t236 : Nat → Int32) (eLe : Le = 1084 + 4 * q236) (hq236 : q236 ≤ 256 * np_1) (hm236 : 256 * np_1 - q236 < fu236) (H : Heap) (locs : List Loc), va_P (dC, dI) vwCl [(qa 5, .inl (cI, 32, .inl g5)), (qa 6, .inl (cI, 32, .inl g6)), (qa 7, .inl (cI, 32, .inl g7)), (qa 8, .inl (cI, 32, .inl g8)), (qa 9, .inl (cI, 32, .inl g9)), (qa 10, .inl (cB, 64000, .inl g10)), (qa 11, .inl (cI, 2048, .inl g11)), (qa 12, .inl (cI, 128, .inl g12)), (h, .inr (10, mdF qa x0 (nI Le) x3 x4 x13 x14 x15 x16 x17 x18 x19 x20 x21 x22 x23 x24 x26 x27 x28)), (qa 1, .inl (cB, 9000, .inl t236))] H → va_D A [(qa 5, .inl (cI, 32, .inl g5)), (qa 6, .inl (cI, 32, .inl g6)), (qa 7, .inl (cI, 32, .inl g7)), (qa 8, .inl (cI, 32, .inl g8)), (qa 9, .inl (cI, 32, .inl g9)), (qa 10, .inl (cB, 64000, .inl g10)), (qa 11, .inl (cI, 2048, .inl g11)), (qa 12, .inl (cI, 128, .inl g12)), (h, .inr (10, mdF qa x0 (nI Le) x3 x4 x13 x14 x15 x16 x17 x18 x19 x20 x21 x22 x23 x24 x26 x27 x28)), (qa 1, .inl (cB, 9000, .inl t236))] → va_S A s.heap H locs → ∀ ls : Array Slot, lv_has ls 7 [(3, .int (nI q236)), (1, .int (nI np_1)), (0, .ref h)] → W p l e ({ frames := 2, cells := 0, slots := 0, locals := 42 }) s m ([.ref h] : List Value).toArray below meth c H locs (0) (0) (MQ below (va_Qi (fun (r : Int32) (u : va_W × gT) => ∃ (L2 : Nat) (k1 : Nat → Int32), u = ([(h, .inr (10, mdF qa x0 (nI L2) x3 x4 x13 x14 x15 x16 x17 x18 x19 x20 x21 x22 x23 x24 x26 x27 x28)), (qa 1, .inl (cB, 9000, .inl k1)), (qa 5, .inl (cI, 32, .inl g5)), (qa 6, .inl (cI, 32, .inl g6)), (qa 7, .inl (cI, 32, .inl g7)), (qa 8, .inl (cI, 32, .inl g8)), (qa 9, .inl (cI, 32, .inl g9)), (qa 10, .inl (cB, 64000, .inl g10)), (qa 11, .inl (cI, 2048, .inl g11)), (qa 12, .inl (cI, 128, .inl g12))], []) ∧ L2 ≤ 9000) (gB (dC, dI) A) A) ([.ref h] : List Value).toArray s 0 0 A) (F0 m 236 ls []) := by
                              intro fu236
                              induction fu236 with
                              | zero => intro q236 Le t236 eLe hq236 hm236; exact absurd hm236 (Nat.not_lt_zero _)
                              | succ fu236 ih236 =>
                                intro q236 Le t236 eLe hq236 hm236 H locs hP hD hS ls hl
                                refine lv_iload_n hx hb dX11_save_236 rfl (lv_at hl 0 rfl) ?_
                                refine lv_sipush (v := 256) hx hb dX11_save_237 (by decide) ?_
                                refine lv_iload_n hx hb dX11_save_240 rfl (lv_at hl 1 rfl) ?_
                                refine lv_imul hx hb dX11_save_241 ?_
                                refine g_topi (y := nI (256 * np_1)) (pk_mul 256 _) ?_
                                refine lv_icmp_ge (tgt := 323) hx hb dX11_save_242 (by decide) (fun c_242 => ?_) (fun c_242 => ?_)
                                · have hq236e : q236 = 256 * np_1 := by have := nI_le' c_242 (by omega) (by omega); omega
                                  refine lv_iconst (v := 1) hx hb dX11_save_323 (by decide) ?_
                                  refine lv_istore_n (lv' := [(3, .int 1), (1, .int (nI np_1)), (0, .ref h)]) hx hb dX11_save_324 rfl hl (by decide) rfl (fun ls hl => ?_)
                                  have LP325 : ∀ (fu325 : Nat) (q325 : Nat) (Lf : Nat) (t325 : Nat → Int32) (eLf : Lf = 1084 + 1024 * np_1 + sumTo (lz g5) q325) (hq325a : 1 ≤ q325) (hq325 : q325 ≤ 32) (hLf9 : Lf ≤ 9000) (hm325 : 32 - q325 < fu325) (H : Heap) (locs : List Loc), va_P (dC, dI) vwCl [(qa 5, .inl (cI, 32, .inl g5)), (qa 6, .inl (cI, 32, .inl g6)), (qa 7, .inl (cI, 32, .inl g7)), (qa 8, .inl (cI, 32, .inl g8)), (qa 9, .inl (cI, 32, .inl g9)), (qa 10, .inl (cB, 64000, .inl g10)), (qa 11, .inl (cI, 2048, .inl g11)), (qa 12, .inl (cI, 128, .inl g12)), (h, .inr (10, mdF qa x0 (nI Lf) x3 x4 x13 x14 x15 x16 x17 x18 x19 x20 x21 x22 x23 x24 x26 x27 x28)), (qa 1, .inl (cB, 9000, .inl t325))] H → va_D A [(qa 5, .inl (cI, 32, .inl g5)), (qa 6, .inl (cI, 32, .inl g6)), (qa 7, .inl (cI, 32, .inl g7)), (qa 8, .inl (cI, 32, .inl g8)), (qa 9, .inl (cI, 32, .inl g9)), (qa 10, .inl (cB, 64000, .inl g10)), (qa 11, .inl (cI, 2048, .inl g11)), (qa 12, .inl (cI, 128, .inl g12)), (h, .inr (10, mdF qa x0 (nI Lf) x3 x4 x13 x14 x15 x16 x17 x18 x19 x20 x21 x22 x23 x24 x26 x27 x28)), (qa 1, .inl (cB, 9000, .inl t325))] → va_S A s.heap H locs → ∀ ls : Array Slot, lv_has ls 7 [(3, .int (nI q325)), (1, .int (nI np_1)), (0, .ref h)] → W p l e ({ frames := 2, cells := 0, slots := 0, locals := 42 }) s m ([.ref h] : List Value).toArray below meth c H locs (0) (0) (MQ below (va_Qi (fun (r : Int32) (u : va_W × gT) => ∃ (L2 : Nat) (k1 : Nat → Int32), u = ([(h, .inr (10, mdF qa x0 (nI L2) x3 x4 x13 x14 x15 x16 x17 x18 x19 x20 x21 x22 x23 x24 x26 x27 x28)), (qa 1, .inl (cB, 9000, .inl k1)), (qa 5, .inl (cI, 32, .inl g5)), (qa 6, .inl (cI, 32, .inl g6)), (qa 7, .inl (cI, 32, .inl g7)), (qa 8, .inl (cI, 32, .inl g8)), (qa 9, .inl (cI, 32, .inl g9)), (qa 10, .inl (cB, 64000, .inl g10)), (qa 11, .inl (cI, 2048, .inl g11)), (qa 12, .inl (cI, 128, .inl g12))], []) ∧ L2 ≤ 9000) (gB (dC, dI) A) A) ([.ref h] : List Value).toArray s 0 0 A) (F0 m 325 ls []) := by
                                    intro fu325
                                    induction fu325 with
                                    | zero => intro q325 Lf t325 eLf hq325a hq325 hLf9 hm325; exact absurd hm325 (Nat.not_lt_zero _)
                                    | succ fu325 ih325 =>
                                      intro q325 Lf t325 eLf hq325a hq325 hLf9 hm325 H locs hP hD hS ls hl
                                      refine lv_iload_n hx hb dX11_save_325 rfl (lv_at hl 0 rfl) ?_
                                      refine lv_bipush (v := 32) hx hb dX11_save_326 (by decide) ?_
                                      refine lv_icmp_ge (tgt := 374) hx hb dX11_save_328 (by decide) (fun c_328 => ?_) (fun c_328 => ?_)
                                      · refine lv_aload_n hx hb dX11_save_374 rfl (lv_at hl 2 rfl) ?_
                                        refine va_get (D := (dC, dI)) (ci := 10) (v := .int (nI Lf)) (C := RX11) (T := TX11) (N := 53) hx hb hts iwX11 hown hK hP 8 rfl rfl 2 (by decide) (hts (.fieldLink RX11 138 "ModulePlayerModel" "taped" "I") (List.mem_cons_of_mem _ kw_253)) (fun _ h9 => h9) rfl dX11_save_375 ?_
                                        have hP9 := hP.sub (ws' := [(h, .inr (10, mdF qa x0 (nI Lf) x3 x4 x13 x14 x15 x16 x17 x18 x19 x20 x21 x22 x23 x24 x26 x27 x28)), (qa 1, .inl (cB, 9000, .inl t325)), (qa 5, .inl (cI, 32, .inl g5)), (qa 6, .inl (cI, 32, .inl g6)), (qa 7, .inl (cI, 32, .inl g7)), (qa 8, .inl (cI, 32, .inl g8)), (qa 9, .inl (cI, 32, .inl g9)), (qa 10, .inl (cB, 64000, .inl g10)), (qa 11, .inl (cI, 2048, .inl g11)), (qa 12, .inl (cI, 128, .inl g12))]) [8, 9, 0, 1, 2, 3, 4, 5, 6, 7] rfl
                                        have hD9 := hD.sub (ws' := [(h, .inr (10, mdF qa x0 (nI Lf) x3 x4 x13 x14 x15 x16 x17 x18 x19 x20 x21 x22 x23 x24 x26 x27 x28)), (qa 1, .inl (cB, 9000, .inl t325)), (qa 5, .inl (cI, 32, .inl g5)), (qa 6, .inl (cI, 32, .inl g6)), (qa 7, .inl (cI, 32, .inl g7)), (qa 8, .inl (cI, 32, .inl g8)), (qa 9, .inl (cI, 32, .inl g9)), (qa 10, .inl (cB, 64000, .inl g10)), (qa 11, .inl (cI, 2048, .inl g11)), (qa 12, .inl (cI, 128, .inl g12))]) [8, 9, 0, 1, 2, 3, 4, 5, 6, 7] (by decide) rfl
                                        have hK9 := hK.sub (tys' := []) [] rfl
                                        exact W.iret (v := nI Lf) hx hb hr (fun t ht hW => ⟨⟨nI Lf, _, rfl, ⟨Lf, t325, rfl, hLf9⟩, by rw [ht]; exact hP9, va_K.moved hW.alike hK9, hD9⟩, hS.F ht⟩) hS.2.2 dX11_save_378
                                      have hq3253 : q325 < 32 := by have := nI_nle' (a := 32) c_328 (by omega); omega
                                      obtain ⟨js_, hjs_, ejs_⟩ := rg_nat (kx := q325) (mx := 2000) r_g5 hq3253 rfl
                                      have hlz := lz_32 hq325a hq3253 ejs_ (by omega)
                                      refine lv_iconst (v := 0) hx hb dX11_save_331 (by decide) ?_
                                      refine lv_istore (lv' := [(4, .int 0), (3, .int (nI q325)), (1, .int (nI np_1)), (0, .ref h)]) hx hb dX11_save_332 hl (by decide) rfl (fun ls hl => ?_)
                                      have LP334 : ∀ (fu334 : Nat) (q334 : Nat) (Lg : Nat) (t334 : Nat → Int32) (eLg : Lg = 1084 + 1024 * np_1 + sumTo (lz g5) q325 + q334) (hq334 : q334 ≤ js_) (hm334 : js_ - q334 < fu334) (H : Heap) (locs : List Loc), va_P (dC, dI) vwCl [(qa 5, .inl (cI, 32, .inl g5)), (qa 6, .inl (cI, 32, .inl g6)), (qa 7, .inl (cI, 32, .inl g7)), (qa 8, .inl (cI, 32, .inl g8)), (qa 9, .inl (cI, 32, .inl g9)), (qa 10, .inl (cB, 64000, .inl g10)), (qa 11, .inl (cI, 2048, .inl g11)), (qa 12, .inl (cI, 128, .inl g12)), (h, .inr (10, mdF qa x0 (nI Lg) x3 x4 x13 x14 x15 x16 x17 x18 x19 x20 x21 x22 x23 x24 x26 x27 x28)), (qa 1, .inl (cB, 9000, .inl t334))] H → va_D A [(qa 5, .inl (cI, 32, .inl g5)), (qa 6, .inl (cI, 32, .inl g6)), (qa 7, .inl (cI, 32, .inl g7)), (qa 8, .inl (cI, 32, .inl g8)), (qa 9, .inl (cI, 32, .inl g9)), (qa 10, .inl (cB, 64000, .inl g10)), (qa 11, .inl (cI, 2048, .inl g11)), (qa 12, .inl (cI, 128, .inl g12)), (h, .inr (10, mdF qa x0 (nI Lg) x3 x4 x13 x14 x15 x16 x17 x18 x19 x20 x21 x22 x23 x24 x26 x27 x28)), (qa 1, .inl (cB, 9000, .inl t334))] → va_S A s.heap H locs → ∀ ls : Array Slot, lv_has ls 7 [(4, .int (nI q334)), (3, .int (nI q325)), (1, .int (nI np_1)), (0, .ref h)] → W p l e ({ frames := 2, cells := 0, slots := 0, locals := 42 }) s m ([.ref h] : List Value).toArray below meth c H locs (0) (0) (MQ below (va_Qi (fun (r : Int32) (u : va_W × gT) => ∃ (L2 : Nat) (k1 : Nat → Int32), u = ([(h, .inr (10, mdF qa x0 (nI L2) x3 x4 x13 x14 x15 x16 x17 x18 x19 x20 x21 x22 x23 x24 x26 x27 x28)), (qa 1, .inl (cB, 9000, .inl k1)), (qa 5, .inl (cI, 32, .inl g5)), (qa 6, .inl (cI, 32, .inl g6)), (qa 7, .inl (cI, 32, .inl g7)), (qa 8, .inl (cI, 32, .inl g8)), (qa 9, .inl (cI, 32, .inl g9)), (qa 10, .inl (cB, 64000, .inl g10)), (qa 11, .inl (cI, 2048, .inl g11)), (qa 12, .inl (cI, 128, .inl g12))], []) ∧ L2 ≤ 9000) (gB (dC, dI) A) A) ([.ref h] : List Value).toArray s 0 0 A) (F0 m 334 ls []) := by
                                        intro fu334
                                        induction fu334 with
                                        | zero => intro q334 Lg t334 eLg hq334 hm334; exact absurd hm334 (Nat.not_lt_zero _)
                                        | succ fu334 ih334 =>
                                          intro q334 Lg t334 eLg hq334 hm334 H locs hP hD hS ls hl
                                          refine lv_iload hx hb dX11_save_334 (lv_at hl 0 rfl) ?_
                                          refine lv_aload_n hx hb dX11_save_336 rfl (lv_at hl 3 rfl) ?_
                                          refine va_get (D := (dC, dI)) (ci := 10) (v := .ref (qa 5)) (C := RX11) (T := TX11) (N := 53) hx hb hts iwX11 hown hK hP 8 rfl rfl 5 (by decide) (hts (.fieldLink RX11 17 "ModulePlayerModel" "length" "[I") (List.mem_cons_of_mem _ kw_173)) (fun _ h9 => h9) rfl dX11_save_337 ?_
                                          refine lv_iload_n hx hb dX11_save_340 rfl (lv_at hl 1 rfl) ?_
                                          refine g_iald hx hb hK hP 0 1 rfl rfl q325 (nI_clamp (Nat.lt_trans (show q325 < 32 from by omega) (by decide))) (vp_in_nI (by omega) (by decide)) dX11_save_341 ?_
                                          refine g_topi (y := nI js_) (ejs_) ?_
                                          refine lv_icmp_ge (tgt := 368) hx hb dX11_save_342 (by decide) (fun c_342 => ?_) (fun c_342 => ?_)
                                          · have hq334e : q334 = js_ := by have := nI_le' c_342 (by omega) (by omega); omega
                                            have hlzs := lz_s hq325a ejs_ (by omega)
                                            refine lv_iinc (v := nI (q325 + 1)) (lv' := [(3, .int (nI (q325 + 1))), (4, .int (nI q334)), (1, .int (nI np_1)), (0, .ref h)]) hx hb dX11_save_368 hl (k := 1) rfl (nI_1 q325) (by decide) rfl (fun ls hl => ?_)
                                            refine lv_goto (tgt := 325) hx hb dX11_save_371 (by decide) ?_
                                            exact ih325 (q325 + 1) Lg t334 (by rw [hlzs]; omega) (by omega) (by omega) (by omega) (by omega) _ _ (hP.sub [0, 1, 2, 3, 4, 5, 6, 7, 8, 9] rfl) (hD.sub [0, 1, 2, 3, 4, 5, 6, 7, 8, 9] (by decide) rfl) hS _ (lv_sub hl [0, 2, 3] rfl)
                                          refine lv_aload_n hx hb dX11_save_345 rfl (lv_at hl 3 rfl) ?_
                                          refine lv_aload_n hx hb dX11_save_346 rfl (lv_at hl 3 rfl) ?_
                                          refine va_get (D := (dC, dI)) (ci := 10) (v := .ref (qa 10)) (C := RX11) (T := TX11) (N := 53) hx hb hts iwX11 hown hK hP 8 rfl rfl 10 (by decide) (hts (.fieldLink RX11 34 "ModulePlayerModel" "waves" "[B") (List.mem_cons_of_mem _ kw_179)) (fun _ h9 => h9) rfl dX11_save_347 ?_
                                          refine lv_sipush (v := 2000) hx hb dX11_save_350 (by decide) ?_
                                          refine lv_iload_n hx hb dX11_save_353 rfl (lv_at hl 1 rfl) ?_
                                          refine lv_imul hx hb dX11_save_354 ?_
                                          refine g_topi (y := nI (2000 * q325)) (pk_mul 2000 _) ?_
                                          refine lv_iload hx hb dX11_save_355 (lv_at hl 0 rfl) ?_
                                          refine lv_iadd hx hb dX11_save_357 ?_
                                          refine g_topi (y := nI (2000 * q325 + q334)) (nI_add _ _) ?_
                                          refine g_bald hx hb hK hP 5 0 rfl rfl (2000 * q325 + q334) (nI_clamp (Nat.lt_trans (show 2000 * q325 + q334 < 64000 from by have := nI_nle' c_342 (by omega); omega) (by decide))) (vp_in_nI (by have := nI_nle' c_342 (by omega); omega) (by decide)) dX11_save_358 ?_
                                          refine lv_topi (fun tv_358 etv_358 => ?_)
                                          refine g_callv (wr := [(qa 5, .inl (cI, 32, .inl g5)), (qa 6, .inl (cI, 32, .inl g6)), (qa 7, .inl (cI, 32, .inl g7)), (qa 8, .inl (cI, 32, .inl g8)), (qa 9, .inl (cI, 32, .inl g9)), (qa 10, .inl (cB, 64000, .inl g10)), (qa 11, .inl (cI, 2048, .inl g11)), (qa 12, .inl (cI, 128, .inl g12))]) (va_runV (As := [.int tv_358]) (rest := []) ⟨hx, hb, hml, hown, hts⟩ (m_put l dC dI H.size h qa x0 x3 x4 x13 x14 x15 x16 x17 x18 x19 x20 x21 x22 x23 x24 x26 x27 x28 cB Lg t334 tv_358 (by have := nI_nle' c_342 (by omega); omega)) (cwV 1 hts (gG_V kw_514 kw_515 kw_516 kw_5 kw_517) rfl rfl rfl (by decide +kernel) ⟨Nat.le_of_ble_eq_true rfl, Nat.le_of_ble_eq_true rfl⟩) (g_preV (C := RX11) (T := TX11) (N := 53) hP hD hK hS hA hN hZ (q0 := 8) rfl rfl [8, 9] (by decide) rfl [0] rfl) rfl rfl hl.1 rfl (lv_room (Nat.le_of_ble_eq_true rfl)) dX11_save_359 ⟨Nat.le_of_ble_eq_true rfl, Nat.le_of_ble_eq_true rfl⟩) hP hD hK hS hA [8, 9] [0, 1, 2, 3, 4, 5, 6, 7] rfl rfl (by decide) (by decide) (fun w ty1 H locs hw_359 hP hD _ hS => ?_)
                                          rcases hw_359 with ⟨ft2_359, hu⟩
                                          cases hu
                                          have hP : va_P (dC, dI) vwCl [(qa 5, .inl (cI, 32, .inl g5)), (qa 6, .inl (cI, 32, .inl g6)), (qa 7, .inl (cI, 32, .inl g7)), (qa 8, .inl (cI, 32, .inl g8)), (qa 9, .inl (cI, 32, .inl g9)), (qa 10, .inl (cB, 64000, .inl g10)), (qa 11, .inl (cI, 2048, .inl g11)), (qa 12, .inl (cI, 128, .inl g12)), (h, .inr (10, mdF qa x0 (nI (Lg + 1)) x3 x4 x13 x14 x15 x16 x17 x18 x19 x20 x21 x22 x23 x24 x26 x27 x28)), (qa 1, .inl (cB, 9000, .inl ft2_359))] H := hP
                                          have hD : va_D A [(qa 5, .inl (cI, 32, .inl g5)), (qa 6, .inl (cI, 32, .inl g6)), (qa 7, .inl (cI, 32, .inl g7)), (qa 8, .inl (cI, 32, .inl g8)), (qa 9, .inl (cI, 32, .inl g9)), (qa 10, .inl (cB, 64000, .inl g10)), (qa 11, .inl (cI, 2048, .inl g11)), (qa 12, .inl (cI, 128, .inl g12)), (h, .inr (10, mdF qa x0 (nI (Lg + 1)) x3 x4 x13 x14 x15 x16 x17 x18 x19 x20 x21 x22 x23 x24 x26 x27 x28)), (qa 1, .inl (cB, 9000, .inl ft2_359))] := hD
                                          refine lv_iinc (v := nI (q334 + 1)) (lv' := [(4, .int (nI (q334 + 1))), (3, .int (nI q325)), (1, .int (nI np_1)), (0, .ref h)]) hx hb dX11_save_362 hl (k := 0) rfl (nI_1 q334) (by decide) rfl (fun ls hl => ?_)
                                          refine lv_goto (tgt := 334) hx hb dX11_save_365 (by decide) ?_
                                          exact ih334 (q334 + 1) (Lg + 1) ft2_359 (by omega) (by have := nI_nle' c_342 (by omega); omega) (by have := nI_nle' c_342 (by omega); omega) _ _ (hP.sub [0, 1, 2, 3, 4, 5, 6, 7, 8, 9] rfl) (hD.sub [0, 1, 2, 3, 4, 5, 6, 7, 8, 9] (by decide) rfl) hS _ (lv_sub hl [0, 1, 2, 3] rfl)
                                      exact LP334 _ 0 Lf t325 (by omega) (Nat.zero_le _) (Nat.lt_succ_self _) _ _ (hP.sub [0, 1, 2, 3, 4, 5, 6, 7, 8, 9] rfl) (hD.sub [0, 1, 2, 3, 4, 5, 6, 7, 8, 9] (by decide) rfl) hS _ (lv_sub hl [0, 1, 2, 3] rfl)
                                  exact LP325 _ 1 Le t236 (by rw [show sumTo (lz g5) 1 = 0 from rfl]; omega) (by decide) (by decide) (by omega) (Nat.lt_succ_self _) _ _ (hP.sub [0, 1, 2, 3, 4, 5, 6, 7, 8, 9] rfl) (hD.sub [0, 1, 2, 3, 4, 5, 6, 7, 8, 9] (by decide) rfl) hS _ (lv_sub hl [0, 1, 2] rfl)
                                refine lv_aload_n hx hb dX11_save_245 rfl (lv_at hl 2 rfl) ?_
                                refine va_get (D := (dC, dI)) (ci := 10) (v := .ref (qa 11)) (C := RX11) (T := TX11) (N := 53) hx hb hts iwX11 hown hK hP 8 rfl rfl 11 (by decide) (hts (.fieldLink RX11 37 "ModulePlayerModel" "cells" "[I") (List.mem_cons_of_mem _ kw_180)) (fun _ h9 => h9) rfl dX11_save_246 ?_
                                refine lv_iload_n hx hb dX11_save_249 rfl (lv_at hl 0 rfl) ?_
                                refine g_iald hx hb hK hP 6 1 rfl rfl q236 (nI_clamp (Nat.lt_trans (show q236 < 2048 from by have := nI_nle' c_242 (by omega); omega) (by decide))) (vp_in_nI (by have := nI_nle' c_242 (by omega); omega) (by decide)) dX11_save_250 ?_
                                refine lv_topi (fun tv_250 etv_250 => ?_)
                                refine lv_istore (lv' := [(4, .int tv_250), (3, .int (nI q236)), (1, .int (nI np_1)), (0, .ref h)]) hx hb dX11_save_251 hl (by decide) rfl (fun ls hl => ?_)
                                refine lv_iload hx hb dX11_save_253 (lv_at hl 0 rfl) ?_
                                refine lv_bipush (v := 12) hx hb dX11_save_255 (by decide) ?_
                                refine lv_ishr hx hb dX11_save_257 ?_
                                refine lv_topi (fun tv_257 etv_257 => ?_)
                                refine lv_bipush (v := 31) hx hb dX11_save_258 (by decide) ?_
                                refine lv_iand hx hb dX11_save_260 ?_
                                refine lv_topi (fun tv_260 etv_260 => ?_)
                                refine lv_istore (lv' := [(5, .int tv_260), (4, .int tv_250), (3, .int (nI q236)), (1, .int (nI np_1)), (0, .ref h)]) hx hb dX11_save_261 hl (by decide) rfl (fun ls hl => ?_)
                                refine lv_iload hx hb dX11_save_263 (lv_at hl 1 rfl) ?_
                                refine lv_bipush (v := 17) hx hb dX11_save_265 (by decide) ?_
                                refine lv_ishr hx hb dX11_save_267 ?_
                                refine lv_topi (fun tv_267 etv_267 => ?_)
                                refine lv_istore (lv' := [(6, .int tv_267), (5, .int tv_260), (4, .int tv_250), (3, .int (nI q236)), (1, .int (nI np_1)), (0, .ref h)]) hx hb dX11_save_268 hl (by decide) rfl (fun ls hl => ?_)
                                refine lv_aload_n hx hb dX11_save_270 rfl (lv_at hl 5 rfl) ?_
                                refine lv_iload hx hb dX11_save_271 (lv_at hl 1 rfl) ?_
                                refine lv_bipush (v := 16) hx hb dX11_save_273 (by decide) ?_
                                refine lv_iand hx hb dX11_save_275 ?_
                                refine lv_topi (fun tv_275 etv_275 => ?_)
                                refine lv_iload hx hb dX11_save_276 (lv_at hl 0 rfl) ?_
                                refine lv_bipush (v := 8) hx hb dX11_save_278 (by decide) ?_
                                refine lv_ishr hx hb dX11_save_280 ?_
                                refine lv_topi (fun tv_280 etv_280 => ?_)
                                refine lv_ior hx hb dX11_save_281 ?_
                                refine lv_topi (fun tv_281 etv_281 => ?_)
                                refine g_callv (wr := [(qa 5, .inl (cI, 32, .inl g5)), (qa 6, .inl (cI, 32, .inl g6)), (qa 7, .inl (cI, 32, .inl g7)), (qa 8, .inl (cI, 32, .inl g8)), (qa 9, .inl (cI, 32, .inl g9)), (qa 10, .inl (cB, 64000, .inl g10)), (qa 11, .inl (cI, 2048, .inl g11)), (qa 12, .inl (cI, 128, .inl g12))]) (va_runV (As := [.int tv_281]) (rest := []) ⟨hx, hb, hml, hown, hts⟩ (m_put l dC dI H.size h qa x0 x3 x4 x13 x14 x15 x16 x17 x18 x19 x20 x21 x22 x23 x24 x26 x27 x28 cB Le t236 tv_281 (by have := nI_nle' c_242 (by omega); omega)) (cwV 1 hts (gG_V kw_514 kw_515 kw_516 kw_5 kw_517) rfl rfl rfl (by decide +kernel) ⟨Nat.le_of_ble_eq_true rfl, Nat.le_of_ble_eq_true rfl⟩) (g_preV (C := RX11) (T := TX11) (N := 53) hP hD hK hS hA hN hZ (q0 := 8) rfl rfl [8, 9] (by decide) rfl [0] rfl) rfl rfl hl.1 rfl (lv_room (Nat.le_of_ble_eq_true rfl)) dX11_save_282 ⟨Nat.le_of_ble_eq_true rfl, Nat.le_of_ble_eq_true rfl⟩) hP hD hK hS hA [8, 9] [0, 1, 2, 3, 4, 5, 6, 7] rfl rfl (by decide) (by decide) (fun w ty1 H locs hw_282 hP hD _ hS => ?_)
                                rcases hw_282 with ⟨ft2_282, hu⟩
                                cases hu
                                have hP : va_P (dC, dI) vwCl [(qa 5, .inl (cI, 32, .inl g5)), (qa 6, .inl (cI, 32, .inl g6)), (qa 7, .inl (cI, 32, .inl g7)), (qa 8, .inl (cI, 32, .inl g8)), (qa 9, .inl (cI, 32, .inl g9)), (qa 10, .inl (cB, 64000, .inl g10)), (qa 11, .inl (cI, 2048, .inl g11)), (qa 12, .inl (cI, 128, .inl g12)), (h, .inr (10, mdF qa x0 (nI (Le + 1)) x3 x4 x13 x14 x15 x16 x17 x18 x19 x20 x21 x22 x23 x24 x26 x27 x28)), (qa 1, .inl (cB, 9000, .inl ft2_282))] H := hP
                                have hD : va_D A [(qa 5, .inl (cI, 32, .inl g5)), (qa 6, .inl (cI, 32, .inl g6)), (qa 7, .inl (cI, 32, .inl g7)), (qa 8, .inl (cI, 32, .inl g8)), (qa 9, .inl (cI, 32, .inl g9)), (qa 10, .inl (cB, 64000, .inl g10)), (qa 11, .inl (cI, 2048, .inl g11)), (qa 12, .inl (cI, 128, .inl g12)), (h, .inr (10, mdF qa x0 (nI (Le + 1)) x3 x4 x13 x14 x15 x16 x17 x18 x19 x20 x21 x22 x23 x24 x26 x27 x28)), (qa 1, .inl (cB, 9000, .inl ft2_282))] := hD
                                refine lv_aload_n hx hb dX11_save_285 rfl (lv_at hl 5 rfl) ?_
                                refine lv_iload hx hb dX11_save_286 (lv_at hl 0 rfl) ?_
                                refine g_callv (wr := [(qa 5, .inl (cI, 32, .inl g5)), (qa 6, .inl (cI, 32, .inl g6)), (qa 7, .inl (cI, 32, .inl g7)), (qa 8, .inl (cI, 32, .inl g8)), (qa 9, .inl (cI, 32, .inl g9)), (qa 10, .inl (cB, 64000, .inl g10)), (qa 11, .inl (cI, 2048, .inl g11)), (qa 12, .inl (cI, 128, .inl g12))]) (va_runV (As := [.int tv_267]) (rest := []) ⟨hx, hb, hml, hown, hts⟩ (m_put l dC dI H.size h qa x0 x3 x4 x13 x14 x15 x16 x17 x18 x19 x20 x21 x22 x23 x24 x26 x27 x28 cB (Le + 1) ft2_282 tv_267 (by have := nI_nle' c_242 (by omega); omega)) (cwV 1 hts (gG_V kw_514 kw_515 kw_516 kw_5 kw_517) rfl rfl rfl (by decide +kernel) ⟨Nat.le_of_ble_eq_true rfl, Nat.le_of_ble_eq_true rfl⟩) (g_preV (C := RX11) (T := TX11) (N := 53) hP hD hK hS hA hN hZ (q0 := 8) rfl rfl [8, 9] (by decide) rfl [0] rfl) rfl rfl hl.1 rfl (lv_room (Nat.le_of_ble_eq_true rfl)) dX11_save_288 ⟨Nat.le_of_ble_eq_true rfl, Nat.le_of_ble_eq_true rfl⟩) hP hD hK hS hA [8, 9] [0, 1, 2, 3, 4, 5, 6, 7] rfl rfl (by decide) (by decide) (fun w ty1 H locs hw_288 hP hD _ hS => ?_)
                                rcases hw_288 with ⟨ft2_288, hu⟩
                                cases hu
                                have hP : va_P (dC, dI) vwCl [(qa 5, .inl (cI, 32, .inl g5)), (qa 6, .inl (cI, 32, .inl g6)), (qa 7, .inl (cI, 32, .inl g7)), (qa 8, .inl (cI, 32, .inl g8)), (qa 9, .inl (cI, 32, .inl g9)), (qa 10, .inl (cB, 64000, .inl g10)), (qa 11, .inl (cI, 2048, .inl g11)), (qa 12, .inl (cI, 128, .inl g12)), (h, .inr (10, mdF qa x0 (nI ((Le + 1) + 1)) x3 x4 x13 x14 x15 x16 x17 x18 x19 x20 x21 x22 x23 x24 x26 x27 x28)), (qa 1, .inl (cB, 9000, .inl ft2_288))] H := hP
                                have hD : va_D A [(qa 5, .inl (cI, 32, .inl g5)), (qa 6, .inl (cI, 32, .inl g6)), (qa 7, .inl (cI, 32, .inl g7)), (qa 8, .inl (cI, 32, .inl g8)), (qa 9, .inl (cI, 32, .inl g9)), (qa 10, .inl (cB, 64000, .inl g10)), (qa 11, .inl (cI, 2048, .inl g11)), (qa 12, .inl (cI, 128, .inl g12)), (h, .inr (10, mdF qa x0 (nI ((Le + 1) + 1)) x3 x4 x13 x14 x15 x16 x17 x18 x19 x20 x21 x22 x23 x24 x26 x27 x28)), (qa 1, .inl (cB, 9000, .inl ft2_288))] := hD
                                refine lv_aload_n hx hb dX11_save_291 rfl (lv_at hl 5 rfl) ?_
                                refine lv_iload hx hb dX11_save_292 (lv_at hl 1 rfl) ?_
                                refine lv_bipush (v := 15) hx hb dX11_save_294 (by decide) ?_
                                refine lv_iand hx hb dX11_save_296 ?_
                                refine lv_topi (fun tv_296 etv_296 => ?_)
                                refine lv_iconst (v := 4) hx hb dX11_save_297 (by decide) ?_
                                refine lv_ishl hx hb dX11_save_298 ?_
                                refine lv_topi (fun tv_298 etv_298 => ?_)
                                refine lv_iload hx hb dX11_save_299 (lv_at hl 2 rfl) ?_
                                refine lv_bipush (v := 8) hx hb dX11_save_301 (by decide) ?_
                                refine lv_ishr hx hb dX11_save_303 ?_
                                refine lv_topi (fun tv_303 etv_303 => ?_)
                                refine lv_bipush (v := 15) hx hb dX11_save_304 (by decide) ?_
                                refine lv_iand hx hb dX11_save_306 ?_
                                refine lv_topi (fun tv_306 etv_306 => ?_)
                                refine lv_ior hx hb dX11_save_307 ?_
                                refine lv_topi (fun tv_307 etv_307 => ?_)
                                refine g_callv (wr := [(qa 5, .inl (cI, 32, .inl g5)), (qa 6, .inl (cI, 32, .inl g6)), (qa 7, .inl (cI, 32, .inl g7)), (qa 8, .inl (cI, 32, .inl g8)), (qa 9, .inl (cI, 32, .inl g9)), (qa 10, .inl (cB, 64000, .inl g10)), (qa 11, .inl (cI, 2048, .inl g11)), (qa 12, .inl (cI, 128, .inl g12))]) (va_runV (As := [.int tv_307]) (rest := []) ⟨hx, hb, hml, hown, hts⟩ (m_put l dC dI H.size h qa x0 x3 x4 x13 x14 x15 x16 x17 x18 x19 x20 x21 x22 x23 x24 x26 x27 x28 cB ((Le + 1) + 1) ft2_288 tv_307 (by have := nI_nle' c_242 (by omega); omega)) (cwV 1 hts (gG_V kw_514 kw_515 kw_516 kw_5 kw_517) rfl rfl rfl (by decide +kernel) ⟨Nat.le_of_ble_eq_true rfl, Nat.le_of_ble_eq_true rfl⟩) (g_preV (C := RX11) (T := TX11) (N := 53) hP hD hK hS hA hN hZ (q0 := 8) rfl rfl [8, 9] (by decide) rfl [0] rfl) rfl rfl hl.1 rfl (lv_room (Nat.le_of_ble_eq_true rfl)) dX11_save_308 ⟨Nat.le_of_ble_eq_true rfl, Nat.le_of_ble_eq_true rfl⟩) hP hD hK hS hA [8, 9] [0, 1, 2, 3, 4, 5, 6, 7] rfl rfl (by decide) (by decide) (fun w ty1 H locs hw_308 hP hD _ hS => ?_)
                                rcases hw_308 with ⟨ft2_308, hu⟩
                                cases hu
                                have hP : va_P (dC, dI) vwCl [(qa 5, .inl (cI, 32, .inl g5)), (qa 6, .inl (cI, 32, .inl g6)), (qa 7, .inl (cI, 32, .inl g7)), (qa 8, .inl (cI, 32, .inl g8)), (qa 9, .inl (cI, 32, .inl g9)), (qa 10, .inl (cB, 64000, .inl g10)), (qa 11, .inl (cI, 2048, .inl g11)), (qa 12, .inl (cI, 128, .inl g12)), (h, .inr (10, mdF qa x0 (nI (((Le + 1) + 1) + 1)) x3 x4 x13 x14 x15 x16 x17 x18 x19 x20 x21 x22 x23 x24 x26 x27 x28)), (qa 1, .inl (cB, 9000, .inl ft2_308))] H := hP
                                have hD : va_D A [(qa 5, .inl (cI, 32, .inl g5)), (qa 6, .inl (cI, 32, .inl g6)), (qa 7, .inl (cI, 32, .inl g7)), (qa 8, .inl (cI, 32, .inl g8)), (qa 9, .inl (cI, 32, .inl g9)), (qa 10, .inl (cB, 64000, .inl g10)), (qa 11, .inl (cI, 2048, .inl g11)), (qa 12, .inl (cI, 128, .inl g12)), (h, .inr (10, mdF qa x0 (nI (((Le + 1) + 1) + 1)) x3 x4 x13 x14 x15 x16 x17 x18 x19 x20 x21 x22 x23 x24 x26 x27 x28)), (qa 1, .inl (cB, 9000, .inl ft2_308))] := hD
                                refine lv_aload_n hx hb dX11_save_311 rfl (lv_at hl 5 rfl) ?_
                                refine lv_iload hx hb dX11_save_312 (lv_at hl 2 rfl) ?_
                                refine g_callv (wr := [(qa 5, .inl (cI, 32, .inl g5)), (qa 6, .inl (cI, 32, .inl g6)), (qa 7, .inl (cI, 32, .inl g7)), (qa 8, .inl (cI, 32, .inl g8)), (qa 9, .inl (cI, 32, .inl g9)), (qa 10, .inl (cB, 64000, .inl g10)), (qa 11, .inl (cI, 2048, .inl g11)), (qa 12, .inl (cI, 128, .inl g12))]) (va_runV (As := [.int tv_250]) (rest := []) ⟨hx, hb, hml, hown, hts⟩ (m_put l dC dI H.size h qa x0 x3 x4 x13 x14 x15 x16 x17 x18 x19 x20 x21 x22 x23 x24 x26 x27 x28 cB (((Le + 1) + 1) + 1) ft2_308 tv_250 (by have := nI_nle' c_242 (by omega); omega)) (cwV 1 hts (gG_V kw_514 kw_515 kw_516 kw_5 kw_517) rfl rfl rfl (by decide +kernel) ⟨Nat.le_of_ble_eq_true rfl, Nat.le_of_ble_eq_true rfl⟩) (g_preV (C := RX11) (T := TX11) (N := 53) hP hD hK hS hA hN hZ (q0 := 8) rfl rfl [8, 9] (by decide) rfl [0] rfl) rfl rfl hl.1 rfl (lv_room (Nat.le_of_ble_eq_true rfl)) dX11_save_314 ⟨Nat.le_of_ble_eq_true rfl, Nat.le_of_ble_eq_true rfl⟩) hP hD hK hS hA [8, 9] [0, 1, 2, 3, 4, 5, 6, 7] rfl rfl (by decide) (by decide) (fun w ty1 H locs hw_314 hP hD _ hS => ?_)
                                rcases hw_314 with ⟨ft2_314, hu⟩
                                cases hu
                                have hP : va_P (dC, dI) vwCl [(qa 5, .inl (cI, 32, .inl g5)), (qa 6, .inl (cI, 32, .inl g6)), (qa 7, .inl (cI, 32, .inl g7)), (qa 8, .inl (cI, 32, .inl g8)), (qa 9, .inl (cI, 32, .inl g9)), (qa 10, .inl (cB, 64000, .inl g10)), (qa 11, .inl (cI, 2048, .inl g11)), (qa 12, .inl (cI, 128, .inl g12)), (h, .inr (10, mdF qa x0 (nI ((((Le + 1) + 1) + 1) + 1)) x3 x4 x13 x14 x15 x16 x17 x18 x19 x20 x21 x22 x23 x24 x26 x27 x28)), (qa 1, .inl (cB, 9000, .inl ft2_314))] H := hP
                                have hD : va_D A [(qa 5, .inl (cI, 32, .inl g5)), (qa 6, .inl (cI, 32, .inl g6)), (qa 7, .inl (cI, 32, .inl g7)), (qa 8, .inl (cI, 32, .inl g8)), (qa 9, .inl (cI, 32, .inl g9)), (qa 10, .inl (cB, 64000, .inl g10)), (qa 11, .inl (cI, 2048, .inl g11)), (qa 12, .inl (cI, 128, .inl g12)), (h, .inr (10, mdF qa x0 (nI ((((Le + 1) + 1) + 1) + 1)) x3 x4 x13 x14 x15 x16 x17 x18 x19 x20 x21 x22 x23 x24 x26 x27 x28)), (qa 1, .inl (cB, 9000, .inl ft2_314))] := hD
                                refine lv_iinc (v := nI (q236 + 1)) (lv' := [(3, .int (nI (q236 + 1))), (6, .int tv_267), (5, .int tv_260), (4, .int tv_250), (1, .int (nI np_1)), (0, .ref h)]) hx hb dX11_save_317 hl (k := 3) rfl (nI_1 q236) (by decide) rfl (fun ls hl => ?_)
                                refine lv_goto (tgt := 236) hx hb dX11_save_320 (by decide) ?_
                                exact ih236 (q236 + 1) ((((Le + 1) + 1) + 1) + 1) ft2_314 (by omega) (by have := nI_nle' c_242 (by omega); omega) (by have := nI_nle' c_242 (by omega); omega) _ _ (hP.sub [0, 1, 2, 3, 4, 5, 6, 7, 8, 9] rfl) (hD.sub [0, 1, 2, 3, 4, 5, 6, 7, 8, 9] (by decide) rfl) hS _ (lv_sub hl [0, 4, 5] rfl)
                            exact LP236 _ 0 ((((Ld + 1) + 1) + 1) + 1) ft2_225_4 (by omega) (Nat.zero_le _) (Nat.lt_succ_self _) _ _ (hP.sub [0, 1, 2, 3, 4, 5, 6, 7, 8, 9] rfl) (hD.sub [0, 1, 2, 3, 4, 5, 6, 7, 8, 9] (by decide) rfl) hS _ (lv_sub hl [0, 1, 2] rfl)
                          refine lv_aload_n hx hb dX11_save_184 rfl (lv_at hl 2 rfl) ?_
                          refine lv_iload_n hx hb dX11_save_185 rfl (lv_at hl 0 rfl) ?_
                          refine lv_aload_n hx hb dX11_save_186 rfl (lv_at hl 2 rfl) ?_
                          refine va_get (D := (dC, dI)) (ci := 10) (v := .int x13) (C := RX11) (T := TX11) (N := 53) hx hb hts iwX11 hown hK hP 8 rfl rfl 13 (by decide) (hts (.fieldLink RX11 43 "ModulePlayerModel" "places" "I") (List.mem_cons_of_mem _ kw_182)) (fun _ h9 => h9) rfl dX11_save_187 ?_
                          refine lv_icmp_ge (tgt := 202) hx hb dX11_save_190 (by decide) (fun c_190 => ?_) (fun c_190 => ?_)
                          · refine lv_iconst (v := 0) hx hb dX11_save_202 (by decide) ?_
                            refine g_callv (wr := [(qa 5, .inl (cI, 32, .inl g5)), (qa 6, .inl (cI, 32, .inl g6)), (qa 7, .inl (cI, 32, .inl g7)), (qa 8, .inl (cI, 32, .inl g8)), (qa 9, .inl (cI, 32, .inl g9)), (qa 10, .inl (cB, 64000, .inl g10)), (qa 11, .inl (cI, 2048, .inl g11)), (qa 12, .inl (cI, 128, .inl g12))]) (va_runV (As := [.int 0]) (rest := []) ⟨hx, hb, hml, hown, hts⟩ (m_put l dC dI H.size h qa x0 x3 x4 x13 x14 x15 x16 x17 x18 x19 x20 x21 x22 x23 x24 x26 x27 x28 cB Ld t177 0 (by omega)) (cwV 1 hts (gG_V kw_514 kw_515 kw_516 kw_5 kw_517) rfl rfl rfl (by decide +kernel) ⟨Nat.le_of_ble_eq_true rfl, Nat.le_of_ble_eq_true rfl⟩) (g_preV (C := RX11) (T := TX11) (N := 53) hP hD hK hS hA hN hZ (q0 := 8) rfl rfl [8, 9] (by decide) rfl [0] rfl) rfl rfl hl.1 rfl (lv_room (Nat.le_of_ble_eq_true rfl)) dX11_save_203 ⟨Nat.le_of_ble_eq_true rfl, Nat.le_of_ble_eq_true rfl⟩) hP hD hK hS hA [8, 9] [0, 1, 2, 3, 4, 5, 6, 7] rfl rfl (by decide) (by decide) (fun w ty1 H locs hw_203 hP hD _ hS => ?_)
                            rcases hw_203 with ⟨ft2_203, hu⟩
                            cases hu
                            have hP : va_P (dC, dI) vwCl [(qa 5, .inl (cI, 32, .inl g5)), (qa 6, .inl (cI, 32, .inl g6)), (qa 7, .inl (cI, 32, .inl g7)), (qa 8, .inl (cI, 32, .inl g8)), (qa 9, .inl (cI, 32, .inl g9)), (qa 10, .inl (cB, 64000, .inl g10)), (qa 11, .inl (cI, 2048, .inl g11)), (qa 12, .inl (cI, 128, .inl g12)), (h, .inr (10, mdF qa x0 (nI (Ld + 1)) x3 x4 x13 x14 x15 x16 x17 x18 x19 x20 x21 x22 x23 x24 x26 x27 x28)), (qa 1, .inl (cB, 9000, .inl ft2_203))] H := hP
                            have hD : va_D A [(qa 5, .inl (cI, 32, .inl g5)), (qa 6, .inl (cI, 32, .inl g6)), (qa 7, .inl (cI, 32, .inl g7)), (qa 8, .inl (cI, 32, .inl g8)), (qa 9, .inl (cI, 32, .inl g9)), (qa 10, .inl (cB, 64000, .inl g10)), (qa 11, .inl (cI, 2048, .inl g11)), (qa 12, .inl (cI, 128, .inl g12)), (h, .inr (10, mdF qa x0 (nI (Ld + 1)) x3 x4 x13 x14 x15 x16 x17 x18 x19 x20 x21 x22 x23 x24 x26 x27 x28)), (qa 1, .inl (cB, 9000, .inl ft2_203))] := hD
                            refine lv_iinc (v := nI (q177 + 1)) (lv' := [(3, .int (nI (q177 + 1))), (1, .int (nI np_1)), (0, .ref h)]) hx hb dX11_save_206 hl (k := 0) rfl (nI_1 q177) (by decide) rfl (fun ls hl => ?_)
                            refine lv_goto (tgt := 177) hx hb dX11_save_209 (by decide) ?_
                            exact ih177 (q177 + 1) (Ld + 1) ft2_203 (by omega) (by have := nI_nle' (a := 128) c_181 (by omega); omega) (by have := nI_nle' (a := 128) c_181 (by omega); omega) _ _ (hP.sub [0, 1, 2, 3, 4, 5, 6, 7, 8, 9] rfl) (hD.sub [0, 1, 2, 3, 4, 5, 6, 7, 8, 9] (by decide) rfl) hS _ (lv_sub hl [0, 1, 2] rfl)
                          refine lv_aload_n hx hb dX11_save_193 rfl (lv_at hl 2 rfl) ?_
                          refine va_get (D := (dC, dI)) (ci := 10) (v := .ref (qa 12)) (C := RX11) (T := TX11) (N := 53) hx hb hts iwX11 hown hK hP 8 rfl rfl 12 (by decide) (hts (.fieldLink RX11 40 "ModulePlayerModel" "song" "[I") (List.mem_cons_of_mem _ kw_181)) (fun _ h9 => h9) rfl dX11_save_194 ?_
                          refine lv_iload_n hx hb dX11_save_197 rfl (lv_at hl 0 rfl) ?_
                          refine g_iald hx hb hK hP 7 1 rfl rfl q177 (nI_clamp (Nat.lt_trans (show q177 < 128 from by have := nI_nle' (a := 128) c_181 (by omega); omega) (by decide))) (vp_in_nI (by have := nI_nle' (a := 128) c_181 (by omega); omega) (by decide)) dX11_save_198 ?_
                          obtain ⟨jn_198, hjn_198, ejn_198⟩ := rg_nat (kx := q177) (mx := 7) r_g12 (by have := nI_nle' (a := 128) c_181 (by omega); omega) rfl
                          refine g_topi (y := nI jn_198) ejn_198 ?_
                          refine lv_goto (tgt := 203) hx hb dX11_save_199 (by decide) ?_
                          refine g_callv (wr := [(qa 5, .inl (cI, 32, .inl g5)), (qa 6, .inl (cI, 32, .inl g6)), (qa 7, .inl (cI, 32, .inl g7)), (qa 8, .inl (cI, 32, .inl g8)), (qa 9, .inl (cI, 32, .inl g9)), (qa 10, .inl (cB, 64000, .inl g10)), (qa 11, .inl (cI, 2048, .inl g11)), (qa 12, .inl (cI, 128, .inl g12))]) (va_runV (As := [.int (nI jn_198)]) (rest := []) ⟨hx, hb, hml, hown, hts⟩ (m_put l dC dI H.size h qa x0 x3 x4 x13 x14 x15 x16 x17 x18 x19 x20 x21 x22 x23 x24 x26 x27 x28 cB Ld t177 (nI jn_198) (by omega)) (cwV 1 hts (gG_V kw_514 kw_515 kw_516 kw_5 kw_517) rfl rfl rfl (by decide +kernel) ⟨Nat.le_of_ble_eq_true rfl, Nat.le_of_ble_eq_true rfl⟩) (g_preV (C := RX11) (T := TX11) (N := 53) hP hD hK hS hA hN hZ (q0 := 8) rfl rfl [8, 9] (by decide) rfl [0] rfl) rfl rfl hl.1 rfl (lv_room (Nat.le_of_ble_eq_true rfl)) dX11_save_203 ⟨Nat.le_of_ble_eq_true rfl, Nat.le_of_ble_eq_true rfl⟩) hP hD hK hS hA [8, 9] [0, 1, 2, 3, 4, 5, 6, 7] rfl rfl (by decide) (by decide) (fun w ty1 H locs hw_203 hP hD _ hS => ?_)
                          rcases hw_203 with ⟨ft2_203, hu⟩
                          cases hu
                          have hP : va_P (dC, dI) vwCl [(qa 5, .inl (cI, 32, .inl g5)), (qa 6, .inl (cI, 32, .inl g6)), (qa 7, .inl (cI, 32, .inl g7)), (qa 8, .inl (cI, 32, .inl g8)), (qa 9, .inl (cI, 32, .inl g9)), (qa 10, .inl (cB, 64000, .inl g10)), (qa 11, .inl (cI, 2048, .inl g11)), (qa 12, .inl (cI, 128, .inl g12)), (h, .inr (10, mdF qa x0 (nI (Ld + 1)) x3 x4 x13 x14 x15 x16 x17 x18 x19 x20 x21 x22 x23 x24 x26 x27 x28)), (qa 1, .inl (cB, 9000, .inl ft2_203))] H := hP
                          have hD : va_D A [(qa 5, .inl (cI, 32, .inl g5)), (qa 6, .inl (cI, 32, .inl g6)), (qa 7, .inl (cI, 32, .inl g7)), (qa 8, .inl (cI, 32, .inl g8)), (qa 9, .inl (cI, 32, .inl g9)), (qa 10, .inl (cB, 64000, .inl g10)), (qa 11, .inl (cI, 2048, .inl g11)), (qa 12, .inl (cI, 128, .inl g12)), (h, .inr (10, mdF qa x0 (nI (Ld + 1)) x3 x4 x13 x14 x15 x16 x17 x18 x19 x20 x21 x22 x23 x24 x26 x27 x28)), (qa 1, .inl (cB, 9000, .inl ft2_203))] := hD
                          refine lv_iinc (v := nI (q177 + 1)) (lv' := [(3, .int (nI (q177 + 1))), (1, .int (nI np_1)), (0, .ref h)]) hx hb dX11_save_206 hl (k := 0) rfl (nI_1 q177) (by decide) rfl (fun ls hl => ?_)
                          refine lv_goto (tgt := 177) hx hb dX11_save_209 (by decide) ?_
                          exact ih177 (q177 + 1) (Ld + 1) ft2_203 (by omega) (by have := nI_nle' (a := 128) c_181 (by omega); omega) (by have := nI_nle' (a := 128) c_181 (by omega); omega) _ _ (hP.sub [0, 1, 2, 3, 4, 5, 6, 7, 8, 9] rfl) (hD.sub [0, 1, 2, 3, 4, 5, 6, 7, 8, 9] (by decide) rfl) hS _ (lv_sub hl [0, 1, 2] rfl)
                      exact LP177 _ 0 ((Lb + 1) + 1) ft2_172 (by omega) (Nat.zero_le _) (Nat.lt_succ_self _) _ _ (hP.sub [0, 1, 2, 3, 4, 5, 6, 7, 8, 9] rfl) (hD.sub [0, 1, 2, 3, 4, 5, 6, 7, 8, 9] (by decide) rfl) hS _ (lv_sub hl [0, 1, 2] rfl)
                    have hq733 : q73 < 32 := by have := nI_nle' (a := 32) c_76 (by omega); omega
                    refine lv_iconst (v := 0) hx hb dX11_save_79 (by decide) ?_
                    refine lv_istore (lv' := [(4, .int 0), (3, .int (nI q73)), (1, .int (nI np_1)), (0, .ref h)]) hx hb dX11_save_80 hl (by decide) rfl (fun ls hl => ?_)
                    have LP82 : ∀ (fu82 : Nat) (q82 : Nat) (Lc : Nat) (t82 : Nat → Int32) (eLc : Lc = 20 + 30 * (q73 - 1) + q82) (hq82 : q82 ≤ 22) (hm82 : 22 - q82 < fu82) (H : Heap) (locs : List Loc), va_P (dC, dI) vwCl [(qa 1, .inl (cB, 9000, .inl t82)), (qa 5, .inl (cI, 32, .inl g5)), (qa 6, .inl (cI, 32, .inl g6)), (qa 7, .inl (cI, 32, .inl g7)), (qa 8, .inl (cI, 32, .inl g8)), (qa 9, .inl (cI, 32, .inl g9)), (qa 10, .inl (cB, 64000, .inl g10)), (qa 11, .inl (cI, 2048, .inl g11)), (h, .inr (10, mdF qa x0 (nI Lc) x3 x4 x13 x14 x15 x16 x17 x18 x19 x20 x21 x22 x23 x24 x26 x27 x28)), (qa 12, .inl (cI, 128, .inl g12))] H → va_D A [(qa 1, .inl (cB, 9000, .inl t82)), (qa 5, .inl (cI, 32, .inl g5)), (qa 6, .inl (cI, 32, .inl g6)), (qa 7, .inl (cI, 32, .inl g7)), (qa 8, .inl (cI, 32, .inl g8)), (qa 9, .inl (cI, 32, .inl g9)), (qa 10, .inl (cB, 64000, .inl g10)), (qa 11, .inl (cI, 2048, .inl g11)), (h, .inr (10, mdF qa x0 (nI Lc) x3 x4 x13 x14 x15 x16 x17 x18 x19 x20 x21 x22 x23 x24 x26 x27 x28)), (qa 12, .inl (cI, 128, .inl g12))] → va_S A s.heap H locs → ∀ ls : Array Slot, lv_has ls 7 [(4, .int (nI q82)), (3, .int (nI q73)), (1, .int (nI np_1)), (0, .ref h)] → W p l e ({ frames := 2, cells := 0, slots := 0, locals := 42 }) s m ([.ref h] : List Value).toArray below meth c H locs (0) (0) (MQ below (va_Qi (fun (r : Int32) (u : va_W × gT) => ∃ (L2 : Nat) (k1 : Nat → Int32), u = ([(h, .inr (10, mdF qa x0 (nI L2) x3 x4 x13 x14 x15 x16 x17 x18 x19 x20 x21 x22 x23 x24 x26 x27 x28)), (qa 1, .inl (cB, 9000, .inl k1)), (qa 5, .inl (cI, 32, .inl g5)), (qa 6, .inl (cI, 32, .inl g6)), (qa 7, .inl (cI, 32, .inl g7)), (qa 8, .inl (cI, 32, .inl g8)), (qa 9, .inl (cI, 32, .inl g9)), (qa 10, .inl (cB, 64000, .inl g10)), (qa 11, .inl (cI, 2048, .inl g11)), (qa 12, .inl (cI, 128, .inl g12))], []) ∧ L2 ≤ 9000) (gB (dC, dI) A) A) ([.ref h] : List Value).toArray s 0 0 A) (F0 m 82 ls []) := by
                      intro fu82
                      induction fu82 with
                      | zero => intro q82 Lc t82 eLc hq82 hm82; exact absurd hm82 (Nat.not_lt_zero _)
                      | succ fu82 ih82 =>
                        intro q82 Lc t82 eLc hq82 hm82 H locs hP hD hS ls hl
                        refine lv_iload hx hb dX11_save_82 (lv_at hl 0 rfl) ?_
                        refine lv_bipush (v := 22) hx hb dX11_save_84 (by decide) ?_
                        refine lv_icmp_ge (tgt := 100) hx hb dX11_save_86 (by decide) (fun c_86 => ?_) (fun c_86 => ?_)
                        · have hq82e : q82 = 22 := by have := nI_le' (a := 22) c_86 (by decide) (by omega); omega
                          refine lv_aload_n hx hb dX11_save_100 rfl (lv_at hl 3 rfl) ?_
                          refine lv_aload_n hx hb dX11_save_101 rfl (lv_at hl 3 rfl) ?_
                          refine va_get (D := (dC, dI)) (ci := 10) (v := .ref (qa 5)) (C := RX11) (T := TX11) (N := 53) hx hb hts iwX11 hown hK hP 8 rfl rfl 5 (by decide) (hts (.fieldLink RX11 17 "ModulePlayerModel" "length" "[I") (List.mem_cons_of_mem _ kw_173)) (fun _ h9 => h9) rfl dX11_save_102 ?_
                          refine lv_iload_n hx hb dX11_save_105 rfl (lv_at hl 1 rfl) ?_
                          refine g_iald hx hb hK hP 1 1 rfl rfl q73 (nI_clamp (Nat.lt_trans (show q73 < 32 from hq733) (by decide))) (vp_in_nI (hq733) (by decide)) dX11_save_106 ?_
                          obtain ⟨jn_106, hjn_106, ejn_106⟩ := rg_nat (kx := q73) (mx := 2000) r_g5 (hq733) rfl
                          refine g_topi (y := nI jn_106) ejn_106 ?_
                          refine g_callv (wr := [(qa 5, .inl (cI, 32, .inl g5)), (qa 6, .inl (cI, 32, .inl g6)), (qa 7, .inl (cI, 32, .inl g7)), (qa 8, .inl (cI, 32, .inl g8)), (qa 9, .inl (cI, 32, .inl g9)), (qa 10, .inl (cB, 64000, .inl g10)), (qa 11, .inl (cI, 2048, .inl g11)), (qa 12, .inl (cI, 128, .inl g12))]) (va_runV (As := [.int (nI jn_106)]) (rest := []) ⟨hx, hb, hml, hown, hts⟩ (m_putTwo l dC dI H.size h qa x0 x3 x4 x13 x14 x15 x16 x17 x18 x19 x20 x21 x22 x23 x24 x26 x27 x28 cB Lc t82 (nI jn_106) (by omega)) (cwV 1 hts (gG_V kw_518 kw_519 kw_520 kw_5 kw_521) rfl rfl rfl (by decide +kernel) ⟨Nat.le_of_ble_eq_true rfl, Nat.le_of_ble_eq_true rfl⟩) (g_preV (C := RX11) (T := TX11) (N := 53) hP hD hK hS hA hN hZ (q0 := 8) rfl rfl [8, 0] (by decide) rfl [0] rfl) rfl rfl hl.1 rfl (lv_room (Nat.le_of_ble_eq_true rfl)) dX11_save_107 ⟨Nat.le_of_ble_eq_true rfl, Nat.le_of_ble_eq_true rfl⟩) hP hD hK hS hA [8, 0] [1, 2, 3, 4, 5, 6, 7, 9] rfl rfl (by decide) (by decide) (fun w ty1 H locs hw_107 hP hD _ hS => ?_)
                          rcases hw_107 with ⟨ft2_107, hu⟩
                          cases hu
                          have hP : va_P (dC, dI) vwCl [(qa 5, .inl (cI, 32, .inl g5)), (qa 6, .inl (cI, 32, .inl g6)), (qa 7, .inl (cI, 32, .inl g7)), (qa 8, .inl (cI, 32, .inl g8)), (qa 9, .inl (cI, 32, .inl g9)), (qa 10, .inl (cB, 64000, .inl g10)), (qa 11, .inl (cI, 2048, .inl g11)), (qa 12, .inl (cI, 128, .inl g12)), (h, .inr (10, mdF qa x0 (nI (Lc + 2)) x3 x4 x13 x14 x15 x16 x17 x18 x19 x20 x21 x22 x23 x24 x26 x27 x28)), (qa 1, .inl (cB, 9000, .inl ft2_107))] H := hP
                          have hD : va_D A [(qa 5, .inl (cI, 32, .inl g5)), (qa 6, .inl (cI, 32, .inl g6)), (qa 7, .inl (cI, 32, .inl g7)), (qa 8, .inl (cI, 32, .inl g8)), (qa 9, .inl (cI, 32, .inl g9)), (qa 10, .inl (cB, 64000, .inl g10)), (qa 11, .inl (cI, 2048, .inl g11)), (qa 12, .inl (cI, 128, .inl g12)), (h, .inr (10, mdF qa x0 (nI (Lc + 2)) x3 x4 x13 x14 x15 x16 x17 x18 x19 x20 x21 x22 x23 x24 x26 x27 x28)), (qa 1, .inl (cB, 9000, .inl ft2_107))] := hD
                          refine lv_aload_n hx hb dX11_save_110 rfl (lv_at hl 3 rfl) ?_
                          refine lv_aload_n hx hb dX11_save_111 rfl (lv_at hl 3 rfl) ?_
                          refine va_get (D := (dC, dI)) (ci := 10) (v := .ref (qa 6)) (C := RX11) (T := TX11) (N := 53) hx hb hts iwX11 hown hK hP 8 rfl rfl 6 (by decide) (hts (.fieldLink RX11 21 "ModulePlayerModel" "tune" "[I") (List.mem_cons_of_mem _ kw_174)) (fun _ h9 => h9) rfl dX11_save_112 ?_
                          refine lv_iload_n hx hb dX11_save_115 rfl (lv_at hl 1 rfl) ?_
                          refine g_iald hx hb hK hP 1 1 rfl rfl q73 (nI_clamp (Nat.lt_trans (show q73 < 32 from hq733) (by decide))) (vp_in_nI (hq733) (by decide)) dX11_save_116 ?_
                          refine lv_topi (fun tv_116 etv_116 => ?_)
                          refine lv_bipush (v := 15) hx hb dX11_save_117 (by decide) ?_
                          refine lv_iand hx hb dX11_save_119 ?_
                          refine lv_topi (fun tv_119 etv_119 => ?_)
                          refine g_callv (wr := [(qa 5, .inl (cI, 32, .inl g5)), (qa 6, .inl (cI, 32, .inl g6)), (qa 7, .inl (cI, 32, .inl g7)), (qa 8, .inl (cI, 32, .inl g8)), (qa 9, .inl (cI, 32, .inl g9)), (qa 10, .inl (cB, 64000, .inl g10)), (qa 11, .inl (cI, 2048, .inl g11)), (qa 12, .inl (cI, 128, .inl g12))]) (va_runV (As := [.int tv_119]) (rest := []) ⟨hx, hb, hml, hown, hts⟩ (m_put l dC dI H.size h qa x0 x3 x4 x13 x14 x15 x16 x17 x18 x19 x20 x21 x22 x23 x24 x26 x27 x28 cB (Lc + 2) ft2_107 tv_119 (by omega)) (cwV 1 hts (gG_V kw_514 kw_515 kw_516 kw_5 kw_517) rfl rfl rfl (by decide +kernel) ⟨Nat.le_of_ble_eq_true rfl, Nat.le_of_ble_eq_true rfl⟩) (g_preV (C := RX11) (T := TX11) (N := 53) hP hD hK hS hA hN hZ (q0 := 8) rfl rfl [8, 9] (by decide) rfl [0] rfl) rfl rfl hl.1 rfl (lv_room (Nat.le_of_ble_eq_true rfl)) dX11_save_120 ⟨Nat.le_of_ble_eq_true rfl, Nat.le_of_ble_eq_true rfl⟩) hP hD hK hS hA [8, 9] [0, 1, 2, 3, 4, 5, 6, 7] rfl rfl (by decide) (by decide) (fun w ty1 H locs hw_120 hP hD _ hS => ?_)
                          rcases hw_120 with ⟨ft2_120, hu⟩
                          cases hu
                          have hP : va_P (dC, dI) vwCl [(qa 5, .inl (cI, 32, .inl g5)), (qa 6, .inl (cI, 32, .inl g6)), (qa 7, .inl (cI, 32, .inl g7)), (qa 8, .inl (cI, 32, .inl g8)), (qa 9, .inl (cI, 32, .inl g9)), (qa 10, .inl (cB, 64000, .inl g10)), (qa 11, .inl (cI, 2048, .inl g11)), (qa 12, .inl (cI, 128, .inl g12)), (h, .inr (10, mdF qa x0 (nI ((Lc + 2) + 1)) x3 x4 x13 x14 x15 x16 x17 x18 x19 x20 x21 x22 x23 x24 x26 x27 x28)), (qa 1, .inl (cB, 9000, .inl ft2_120))] H := hP
                          have hD : va_D A [(qa 5, .inl (cI, 32, .inl g5)), (qa 6, .inl (cI, 32, .inl g6)), (qa 7, .inl (cI, 32, .inl g7)), (qa 8, .inl (cI, 32, .inl g8)), (qa 9, .inl (cI, 32, .inl g9)), (qa 10, .inl (cB, 64000, .inl g10)), (qa 11, .inl (cI, 2048, .inl g11)), (qa 12, .inl (cI, 128, .inl g12)), (h, .inr (10, mdF qa x0 (nI ((Lc + 2) + 1)) x3 x4 x13 x14 x15 x16 x17 x18 x19 x20 x21 x22 x23 x24 x26 x27 x28)), (qa 1, .inl (cB, 9000, .inl ft2_120))] := hD
                          refine lv_aload_n hx hb dX11_save_123 rfl (lv_at hl 3 rfl) ?_
                          refine lv_aload_n hx hb dX11_save_124 rfl (lv_at hl 3 rfl) ?_
                          refine va_get (D := (dC, dI)) (ci := 10) (v := .ref (qa 7)) (C := RX11) (T := TX11) (N := 53) hx hb hts iwX11 hown hK hP 8 rfl rfl 7 (by decide) (hts (.fieldLink RX11 24 "ModulePlayerModel" "loud" "[I") (List.mem_cons_of_mem _ kw_175)) (fun _ h9 => h9) rfl dX11_save_125 ?_
                          refine lv_iload_n hx hb dX11_save_128 rfl (lv_at hl 1 rfl) ?_
                          refine g_iald hx hb hK hP 2 1 rfl rfl q73 (nI_clamp (Nat.lt_trans (show q73 < 32 from hq733) (by decide))) (vp_in_nI (hq733) (by decide)) dX11_save_129 ?_
                          refine lv_topi (fun tv_129 etv_129 => ?_)
                          refine g_callv (wr := [(qa 5, .inl (cI, 32, .inl g5)), (qa 6, .inl (cI, 32, .inl g6)), (qa 7, .inl (cI, 32, .inl g7)), (qa 8, .inl (cI, 32, .inl g8)), (qa 9, .inl (cI, 32, .inl g9)), (qa 10, .inl (cB, 64000, .inl g10)), (qa 11, .inl (cI, 2048, .inl g11)), (qa 12, .inl (cI, 128, .inl g12))]) (va_runV (As := [.int tv_129]) (rest := []) ⟨hx, hb, hml, hown, hts⟩ (m_put l dC dI H.size h qa x0 x3 x4 x13 x14 x15 x16 x17 x18 x19 x20 x21 x22 x23 x24 x26 x27 x28 cB ((Lc + 2) + 1) ft2_120 tv_129 (by omega)) (cwV 1 hts (gG_V kw_514 kw_515 kw_516 kw_5 kw_517) rfl rfl rfl (by decide +kernel) ⟨Nat.le_of_ble_eq_true rfl, Nat.le_of_ble_eq_true rfl⟩) (g_preV (C := RX11) (T := TX11) (N := 53) hP hD hK hS hA hN hZ (q0 := 8) rfl rfl [8, 9] (by decide) rfl [0] rfl) rfl rfl hl.1 rfl (lv_room (Nat.le_of_ble_eq_true rfl)) dX11_save_130 ⟨Nat.le_of_ble_eq_true rfl, Nat.le_of_ble_eq_true rfl⟩) hP hD hK hS hA [8, 9] [0, 1, 2, 3, 4, 5, 6, 7] rfl rfl (by decide) (by decide) (fun w ty1 H locs hw_130 hP hD _ hS => ?_)
                          rcases hw_130 with ⟨ft2_130, hu⟩
                          cases hu
                          have hP : va_P (dC, dI) vwCl [(qa 5, .inl (cI, 32, .inl g5)), (qa 6, .inl (cI, 32, .inl g6)), (qa 7, .inl (cI, 32, .inl g7)), (qa 8, .inl (cI, 32, .inl g8)), (qa 9, .inl (cI, 32, .inl g9)), (qa 10, .inl (cB, 64000, .inl g10)), (qa 11, .inl (cI, 2048, .inl g11)), (qa 12, .inl (cI, 128, .inl g12)), (h, .inr (10, mdF qa x0 (nI (((Lc + 2) + 1) + 1)) x3 x4 x13 x14 x15 x16 x17 x18 x19 x20 x21 x22 x23 x24 x26 x27 x28)), (qa 1, .inl (cB, 9000, .inl ft2_130))] H := hP
                          have hD : va_D A [(qa 5, .inl (cI, 32, .inl g5)), (qa 6, .inl (cI, 32, .inl g6)), (qa 7, .inl (cI, 32, .inl g7)), (qa 8, .inl (cI, 32, .inl g8)), (qa 9, .inl (cI, 32, .inl g9)), (qa 10, .inl (cB, 64000, .inl g10)), (qa 11, .inl (cI, 2048, .inl g11)), (qa 12, .inl (cI, 128, .inl g12)), (h, .inr (10, mdF qa x0 (nI (((Lc + 2) + 1) + 1)) x3 x4 x13 x14 x15 x16 x17 x18 x19 x20 x21 x22 x23 x24 x26 x27 x28)), (qa 1, .inl (cB, 9000, .inl ft2_130))] := hD
                          refine lv_aload_n hx hb dX11_save_133 rfl (lv_at hl 3 rfl) ?_
                          refine lv_aload_n hx hb dX11_save_134 rfl (lv_at hl 3 rfl) ?_
                          refine va_get (D := (dC, dI)) (ci := 10) (v := .ref (qa 8)) (C := RX11) (T := TX11) (N := 53) hx hb hts iwX11 hown hK hP 8 rfl rfl 8 (by decide) (hts (.fieldLink RX11 27 "ModulePlayerModel" "from" "[I") (List.mem_cons_of_mem _ kw_176)) (fun _ h9 => h9) rfl dX11_save_135 ?_
                          refine lv_iload_n hx hb dX11_save_138 rfl (lv_at hl 1 rfl) ?_
                          refine g_iald hx hb hK hP 3 1 rfl rfl q73 (nI_clamp (Nat.lt_trans (show q73 < 32 from hq733) (by decide))) (vp_in_nI (hq733) (by decide)) dX11_save_139 ?_
                          obtain ⟨jn_139, hjn_139, ejn_139⟩ := rg_nat (kx := q73) (mx := 131070) r_g8 (hq733) rfl
                          refine g_topi (y := nI jn_139) ejn_139 ?_
                          refine g_callv (wr := [(qa 5, .inl (cI, 32, .inl g5)), (qa 6, .inl (cI, 32, .inl g6)), (qa 7, .inl (cI, 32, .inl g7)), (qa 8, .inl (cI, 32, .inl g8)), (qa 9, .inl (cI, 32, .inl g9)), (qa 10, .inl (cB, 64000, .inl g10)), (qa 11, .inl (cI, 2048, .inl g11)), (qa 12, .inl (cI, 128, .inl g12))]) (va_runV (As := [.int (nI jn_139)]) (rest := []) ⟨hx, hb, hml, hown, hts⟩ (m_putTwo l dC dI H.size h qa x0 x3 x4 x13 x14 x15 x16 x17 x18 x19 x20 x21 x22 x23 x24 x26 x27 x28 cB (((Lc + 2) + 1) + 1) ft2_130 (nI jn_139) (by omega)) (cwV 1 hts (gG_V kw_518 kw_519 kw_520 kw_5 kw_521) rfl rfl rfl (by decide +kernel) ⟨Nat.le_of_ble_eq_true rfl, Nat.le_of_ble_eq_true rfl⟩) (g_preV (C := RX11) (T := TX11) (N := 53) hP hD hK hS hA hN hZ (q0 := 8) rfl rfl [8, 9] (by decide) rfl [0] rfl) rfl rfl hl.1 rfl (lv_room (Nat.le_of_ble_eq_true rfl)) dX11_save_140 ⟨Nat.le_of_ble_eq_true rfl, Nat.le_of_ble_eq_true rfl⟩) hP hD hK hS hA [8, 9] [0, 1, 2, 3, 4, 5, 6, 7] rfl rfl (by decide) (by decide) (fun w ty1 H locs hw_140 hP hD _ hS => ?_)
                          rcases hw_140 with ⟨ft2_140, hu⟩
                          cases hu
                          have hP : va_P (dC, dI) vwCl [(qa 5, .inl (cI, 32, .inl g5)), (qa 6, .inl (cI, 32, .inl g6)), (qa 7, .inl (cI, 32, .inl g7)), (qa 8, .inl (cI, 32, .inl g8)), (qa 9, .inl (cI, 32, .inl g9)), (qa 10, .inl (cB, 64000, .inl g10)), (qa 11, .inl (cI, 2048, .inl g11)), (qa 12, .inl (cI, 128, .inl g12)), (h, .inr (10, mdF qa x0 (nI ((((Lc + 2) + 1) + 1) + 2)) x3 x4 x13 x14 x15 x16 x17 x18 x19 x20 x21 x22 x23 x24 x26 x27 x28)), (qa 1, .inl (cB, 9000, .inl ft2_140))] H := hP
                          have hD : va_D A [(qa 5, .inl (cI, 32, .inl g5)), (qa 6, .inl (cI, 32, .inl g6)), (qa 7, .inl (cI, 32, .inl g7)), (qa 8, .inl (cI, 32, .inl g8)), (qa 9, .inl (cI, 32, .inl g9)), (qa 10, .inl (cB, 64000, .inl g10)), (qa 11, .inl (cI, 2048, .inl g11)), (qa 12, .inl (cI, 128, .inl g12)), (h, .inr (10, mdF qa x0 (nI ((((Lc + 2) + 1) + 1) + 2)) x3 x4 x13 x14 x15 x16 x17 x18 x19 x20 x21 x22 x23 x24 x26 x27 x28)), (qa 1, .inl (cB, 9000, .inl ft2_140))] := hD
                          refine lv_aload_n hx hb dX11_save_143 rfl (lv_at hl 3 rfl) ?_
                          refine lv_aload_n hx hb dX11_save_144 rfl (lv_at hl 3 rfl) ?_
                          refine va_get (D := (dC, dI)) (ci := 10) (v := .ref (qa 9)) (C := RX11) (T := TX11) (N := 53) hx hb hts iwX11 hown hK hP 8 rfl rfl 9 (by decide) (hts (.fieldLink RX11 30 "ModulePlayerModel" "round" "[I") (List.mem_cons_of_mem _ kw_177)) (fun _ h9 => h9) rfl dX11_save_145 ?_
                          refine lv_iload_n hx hb dX11_save_148 rfl (lv_at hl 1 rfl) ?_
                          refine g_iald hx hb hK hP 4 1 rfl rfl q73 (nI_clamp (Nat.lt_trans (show q73 < 32 from hq733) (by decide))) (vp_in_nI (hq733) (by decide)) dX11_save_149 ?_
                          obtain ⟨jn_149, hjn_149, ejn_149⟩ := rg_nat (kx := q73) (mx := 131070) r_g9 (hq733) rfl
                          refine g_topi (y := nI jn_149) ejn_149 ?_
                          refine g_callv (wr := [(qa 5, .inl (cI, 32, .inl g5)), (qa 6, .inl (cI, 32, .inl g6)), (qa 7, .inl (cI, 32, .inl g7)), (qa 8, .inl (cI, 32, .inl g8)), (qa 9, .inl (cI, 32, .inl g9)), (qa 10, .inl (cB, 64000, .inl g10)), (qa 11, .inl (cI, 2048, .inl g11)), (qa 12, .inl (cI, 128, .inl g12))]) (va_runV (As := [.int (nI jn_149)]) (rest := []) ⟨hx, hb, hml, hown, hts⟩ (m_putTwo l dC dI H.size h qa x0 x3 x4 x13 x14 x15 x16 x17 x18 x19 x20 x21 x22 x23 x24 x26 x27 x28 cB ((((Lc + 2) + 1) + 1) + 2) ft2_140 (nI jn_149) (by omega)) (cwV 1 hts (gG_V kw_518 kw_519 kw_520 kw_5 kw_521) rfl rfl rfl (by decide +kernel) ⟨Nat.le_of_ble_eq_true rfl, Nat.le_of_ble_eq_true rfl⟩) (g_preV (C := RX11) (T := TX11) (N := 53) hP hD hK hS hA hN hZ (q0 := 8) rfl rfl [8, 9] (by decide) rfl [0] rfl) rfl rfl hl.1 rfl (lv_room (Nat.le_of_ble_eq_true rfl)) dX11_save_150 ⟨Nat.le_of_ble_eq_true rfl, Nat.le_of_ble_eq_true rfl⟩) hP hD hK hS hA [8, 9] [0, 1, 2, 3, 4, 5, 6, 7] rfl rfl (by decide) (by decide) (fun w ty1 H locs hw_150 hP hD _ hS => ?_)
                          rcases hw_150 with ⟨ft2_150, hu⟩
                          cases hu
                          have hP : va_P (dC, dI) vwCl [(qa 5, .inl (cI, 32, .inl g5)), (qa 6, .inl (cI, 32, .inl g6)), (qa 7, .inl (cI, 32, .inl g7)), (qa 8, .inl (cI, 32, .inl g8)), (qa 9, .inl (cI, 32, .inl g9)), (qa 10, .inl (cB, 64000, .inl g10)), (qa 11, .inl (cI, 2048, .inl g11)), (qa 12, .inl (cI, 128, .inl g12)), (h, .inr (10, mdF qa x0 (nI (((((Lc + 2) + 1) + 1) + 2) + 2)) x3 x4 x13 x14 x15 x16 x17 x18 x19 x20 x21 x22 x23 x24 x26 x27 x28)), (qa 1, .inl (cB, 9000, .inl ft2_150))] H := hP
                          have hD : va_D A [(qa 5, .inl (cI, 32, .inl g5)), (qa 6, .inl (cI, 32, .inl g6)), (qa 7, .inl (cI, 32, .inl g7)), (qa 8, .inl (cI, 32, .inl g8)), (qa 9, .inl (cI, 32, .inl g9)), (qa 10, .inl (cB, 64000, .inl g10)), (qa 11, .inl (cI, 2048, .inl g11)), (qa 12, .inl (cI, 128, .inl g12)), (h, .inr (10, mdF qa x0 (nI (((((Lc + 2) + 1) + 1) + 2) + 2)) x3 x4 x13 x14 x15 x16 x17 x18 x19 x20 x21 x22 x23 x24 x26 x27 x28)), (qa 1, .inl (cB, 9000, .inl ft2_150))] := hD
                          refine lv_iinc (v := nI (q73 + 1)) (lv' := [(3, .int (nI (q73 + 1))), (4, .int (nI q82)), (1, .int (nI np_1)), (0, .ref h)]) hx hb dX11_save_153 hl (k := 1) rfl (nI_1 q73) (by decide) rfl (fun ls hl => ?_)
                          refine lv_goto (tgt := 73) hx hb dX11_save_156 (by decide) ?_
                          exact ih73 (q73 + 1) (((((Lc + 2) + 1) + 1) + 2) + 2) ft2_150 (by omega) (by omega) (by omega) (by omega) _ _ (hP.sub [9, 0, 1, 2, 3, 4, 5, 6, 8, 7] rfl) (hD.sub [9, 0, 1, 2, 3, 4, 5, 6, 8, 7] (by decide) rfl) hS _ (lv_sub hl [0, 2, 3] rfl)
                        refine lv_aload_n hx hb dX11_save_89 rfl (lv_at hl 3 rfl) ?_
                        refine lv_iconst (v := 0) hx hb dX11_save_90 (by decide) ?_
                        refine g_callv (wr := [(qa 5, .inl (cI, 32, .inl g5)), (qa 6, .inl (cI, 32, .inl g6)), (qa 7, .inl (cI, 32, .inl g7)), (qa 8, .inl (cI, 32, .inl g8)), (qa 9, .inl (cI, 32, .inl g9)), (qa 10, .inl (cB, 64000, .inl g10)), (qa 11, .inl (cI, 2048, .inl g11)), (qa 12, .inl (cI, 128, .inl g12))]) (va_runV (As := [.int 0]) (rest := []) ⟨hx, hb, hml, hown, hts⟩ (m_put l dC dI H.size h qa x0 x3 x4 x13 x14 x15 x16 x17 x18 x19 x20 x21 x22 x23 x24 x26 x27 x28 cB Lc t82 0 (by omega)) (cwV 1 hts (gG_V kw_514 kw_515 kw_516 kw_5 kw_517) rfl rfl rfl (by decide +kernel) ⟨Nat.le_of_ble_eq_true rfl, Nat.le_of_ble_eq_true rfl⟩) (g_preV (C := RX11) (T := TX11) (N := 53) hP hD hK hS hA hN hZ (q0 := 8) rfl rfl [8, 0] (by decide) rfl [0] rfl) rfl rfl hl.1 rfl (lv_room (Nat.le_of_ble_eq_true rfl)) dX11_save_91 ⟨Nat.le_of_ble_eq_true rfl, Nat.le_of_ble_eq_true rfl⟩) hP hD hK hS hA [8, 0] [1, 2, 3, 4, 5, 6, 7, 9] rfl rfl (by decide) (by decide) (fun w ty1 H locs hw_91 hP hD _ hS => ?_)
                        rcases hw_91 with ⟨ft2_91, hu⟩
                        cases hu
                        have hP : va_P (dC, dI) vwCl [(qa 5, .inl (cI, 32, .inl g5)), (qa 6, .inl (cI, 32, .inl g6)), (qa 7, .inl (cI, 32, .inl g7)), (qa 8, .inl (cI, 32, .inl g8)), (qa 9, .inl (cI, 32, .inl g9)), (qa 10, .inl (cB, 64000, .inl g10)), (qa 11, .inl (cI, 2048, .inl g11)), (qa 12, .inl (cI, 128, .inl g12)), (h, .inr (10, mdF qa x0 (nI (Lc + 1)) x3 x4 x13 x14 x15 x16 x17 x18 x19 x20 x21 x22 x23 x24 x26 x27 x28)), (qa 1, .inl (cB, 9000, .inl ft2_91))] H := hP
                        have hD : va_D A [(qa 5, .inl (cI, 32, .inl g5)), (qa 6, .inl (cI, 32, .inl g6)), (qa 7, .inl (cI, 32, .inl g7)), (qa 8, .inl (cI, 32, .inl g8)), (qa 9, .inl (cI, 32, .inl g9)), (qa 10, .inl (cB, 64000, .inl g10)), (qa 11, .inl (cI, 2048, .inl g11)), (qa 12, .inl (cI, 128, .inl g12)), (h, .inr (10, mdF qa x0 (nI (Lc + 1)) x3 x4 x13 x14 x15 x16 x17 x18 x19 x20 x21 x22 x23 x24 x26 x27 x28)), (qa 1, .inl (cB, 9000, .inl ft2_91))] := hD
                        refine lv_iinc (v := nI (q82 + 1)) (lv' := [(4, .int (nI (q82 + 1))), (3, .int (nI q73)), (1, .int (nI np_1)), (0, .ref h)]) hx hb dX11_save_94 hl (k := 0) rfl (nI_1 q82) (by decide) rfl (fun ls hl => ?_)
                        refine lv_goto (tgt := 82) hx hb dX11_save_97 (by decide) ?_
                        exact ih82 (q82 + 1) (Lc + 1) ft2_91 (by omega) (by have := nI_nle' (a := 22) c_86 (by omega); omega) (by have := nI_nle' (a := 22) c_86 (by omega); omega) _ _ (hP.sub [9, 0, 1, 2, 3, 4, 5, 6, 8, 7] rfl) (hD.sub [9, 0, 1, 2, 3, 4, 5, 6, 8, 7] (by decide) rfl) hS _ (lv_sub hl [0, 1, 2, 3] rfl)
                    exact LP82 _ 0 Lb t73 (by omega) (Nat.zero_le _) (Nat.lt_succ_self _) _ _ (hP.sub [0, 1, 2, 3, 4, 5, 6, 7, 8, 9] rfl) (hD.sub [0, 1, 2, 3, 4, 5, 6, 7, 8, 9] (by decide) rfl) hS _ (lv_sub hl [0, 1, 2, 3] rfl)
                exact LP73 _ 1 La t54 (by omega) (by decide) (by decide) (Nat.lt_succ_self _) _ _ (hP.sub [0, 1, 2, 3, 4, 5, 6, 7, 8, 9] rfl) (hD.sub [0, 1, 2, 3, 4, 5, 6, 7, 8, 9] (by decide) rfl) hS _ (lv_sub hl [0, 1, 2] rfl)
              refine lv_aload_n hx hb dX11_save_60 rfl (lv_at hl 2 rfl) ?_
              refine lv_iconst (v := 0) hx hb dX11_save_61 (by decide) ?_
              refine g_callv (wr := [(qa 5, .inl (cI, 32, .inl g5)), (qa 6, .inl (cI, 32, .inl g6)), (qa 7, .inl (cI, 32, .inl g7)), (qa 8, .inl (cI, 32, .inl g8)), (qa 9, .inl (cI, 32, .inl g9)), (qa 10, .inl (cB, 64000, .inl g10)), (qa 11, .inl (cI, 2048, .inl g11)), (qa 12, .inl (cI, 128, .inl g12))]) (va_runV (As := [.int 0]) (rest := []) ⟨hx, hb, hml, hown, hts⟩ (m_put l dC dI H.size h qa x0 x3 x4 x13 x14 x15 x16 x17 x18 x19 x20 x21 x22 x23 x24 x26 x27 x28 cB La t54 0 (by omega)) (cwV 1 hts (gG_V kw_514 kw_515 kw_516 kw_5 kw_517) rfl rfl rfl (by decide +kernel) ⟨Nat.le_of_ble_eq_true rfl, Nat.le_of_ble_eq_true rfl⟩) (g_preV (C := RX11) (T := TX11) (N := 53) hP hD hK hS hA hN hZ (q0 := 8) rfl rfl [8, 0] (by decide) rfl [0] rfl) rfl rfl hl.1 rfl (lv_room (Nat.le_of_ble_eq_true rfl)) dX11_save_62 ⟨Nat.le_of_ble_eq_true rfl, Nat.le_of_ble_eq_true rfl⟩) hP hD hK hS hA [8, 0] [1, 2, 3, 4, 5, 6, 7, 9] rfl rfl (by decide) (by decide) (fun w ty1 H locs hw_62 hP hD _ hS => ?_)
              rcases hw_62 with ⟨ft2_62, hu⟩
              cases hu
              have hP : va_P (dC, dI) vwCl [(qa 5, .inl (cI, 32, .inl g5)), (qa 6, .inl (cI, 32, .inl g6)), (qa 7, .inl (cI, 32, .inl g7)), (qa 8, .inl (cI, 32, .inl g8)), (qa 9, .inl (cI, 32, .inl g9)), (qa 10, .inl (cB, 64000, .inl g10)), (qa 11, .inl (cI, 2048, .inl g11)), (qa 12, .inl (cI, 128, .inl g12)), (h, .inr (10, mdF qa x0 (nI (La + 1)) x3 x4 x13 x14 x15 x16 x17 x18 x19 x20 x21 x22 x23 x24 x26 x27 x28)), (qa 1, .inl (cB, 9000, .inl ft2_62))] H := hP
              have hD : va_D A [(qa 5, .inl (cI, 32, .inl g5)), (qa 6, .inl (cI, 32, .inl g6)), (qa 7, .inl (cI, 32, .inl g7)), (qa 8, .inl (cI, 32, .inl g8)), (qa 9, .inl (cI, 32, .inl g9)), (qa 10, .inl (cB, 64000, .inl g10)), (qa 11, .inl (cI, 2048, .inl g11)), (qa 12, .inl (cI, 128, .inl g12)), (h, .inr (10, mdF qa x0 (nI (La + 1)) x3 x4 x13 x14 x15 x16 x17 x18 x19 x20 x21 x22 x23 x24 x26 x27 x28)), (qa 1, .inl (cB, 9000, .inl ft2_62))] := hD
              refine lv_iinc (v := nI (q54 + 1)) (lv' := [(3, .int (nI (q54 + 1))), (1, .int (nI np_1)), (0, .ref h)]) hx hb dX11_save_65 hl (k := 0) rfl (nI_1 q54) (by decide) rfl (fun ls hl => ?_)
              refine lv_goto (tgt := 54) hx hb dX11_save_68 (by decide) ?_
              exact ih54 (q54 + 1) (La + 1) ft2_62 (by omega) (by have := nI_nle' (a := 20) c_57 (by omega); omega) (by have := nI_nle' (a := 20) c_57 (by omega); omega) _ _ (hP.sub [9, 0, 1, 2, 3, 4, 5, 6, 8, 7] rfl) (hD.sub [9, 0, 1, 2, 3, 4, 5, 6, 8, 7] (by decide) rfl) hS _ (lv_sub hl [0, 1, 2] rfl)
          exact LP54 _ 0 0 g1 (rfl) (Nat.zero_le _) (Nat.lt_succ_self _) _ _ (hP.sub [0, 1, 2, 3, 4, 5, 6, 7, 8, 9] rfl) (hD.sub [0, 1, 2, 3, 4, 5, 6, 7, 8, 9] (by decide) rfl) hS _ (lv_sub hl [0, 2, 3] rfl)
        refine lv_iconst (v := (-1)) hx hb dX11_save_45 (by decide) ?_
        have hP9 := hP.sub (ws' := [(h, .inr (10, mdF qa x0 (nI LL) x3 x4 x13 x14 x15 x16 x17 x18 x19 x20 x21 x22 x23 x24 x26 x27 x28)), (qa 1, .inl (cB, 9000, .inl g1)), (qa 5, .inl (cI, 32, .inl g5)), (qa 6, .inl (cI, 32, .inl g6)), (qa 7, .inl (cI, 32, .inl g7)), (qa 8, .inl (cI, 32, .inl g8)), (qa 9, .inl (cI, 32, .inl g9)), (qa 10, .inl (cB, 64000, .inl g10)), (qa 11, .inl (cI, 2048, .inl g11)), (qa 12, .inl (cI, 128, .inl g12))]) [8, 0, 1, 2, 3, 4, 5, 6, 7, 9] rfl
        have hD9 := hD.sub (ws' := [(h, .inr (10, mdF qa x0 (nI LL) x3 x4 x13 x14 x15 x16 x17 x18 x19 x20 x21 x22 x23 x24 x26 x27 x28)), (qa 1, .inl (cB, 9000, .inl g1)), (qa 5, .inl (cI, 32, .inl g5)), (qa 6, .inl (cI, 32, .inl g6)), (qa 7, .inl (cI, 32, .inl g7)), (qa 8, .inl (cI, 32, .inl g8)), (qa 9, .inl (cI, 32, .inl g9)), (qa 10, .inl (cB, 64000, .inl g10)), (qa 11, .inl (cI, 2048, .inl g11)), (qa 12, .inl (cI, 128, .inl g12))]) [8, 0, 1, 2, 3, 4, 5, 6, 7, 9] (by decide) rfl
        have hK9 := hK.sub (tys' := []) [] rfl
        exact W.iret (v := (-1)) hx hb hr (fun t ht hW => ⟨⟨(-1), _, rfl, ⟨LL, g1, rfl, hLL⟩, by rw [ht]; exact hP9, va_K.moved hW.alike hK9, hD9⟩, hS.F ht⟩) hS.2.2 dX11_save_46
      refine lv_iload_n hx hb dX11_save_23 rfl (lv_at hl 1 rfl) ?_
      refine lv_aload_n hx hb dX11_save_24 rfl (lv_at hl 3 rfl) ?_
      refine va_get (D := (dC, dI)) (ci := 10) (v := .ref (qa 5)) (C := RX11) (T := TX11) (N := 53) hx hb hts iwX11 hown hK hP 8 rfl rfl 5 (by decide) (hts (.fieldLink RX11 17 "ModulePlayerModel" "length" "[I") (List.mem_cons_of_mem _ kw_173)) (fun _ h9 => h9) rfl dX11_save_25 ?_
      refine lv_iload_n hx hb dX11_save_28 rfl (lv_at hl 0 rfl) ?_
      refine g_iald hx hb hK hP 1 1 rfl rfl q17 (nI_clamp (Nat.lt_trans (show q17 < 32 from by have := nI_nle' (a := 32) c_20 (by omega); omega) (by decide))) (vp_in_nI (by have := nI_nle' (a := 32) c_20 (by omega); omega) (by decide)) dX11_save_29 ?_
      obtain ⟨jn_29, hjn_29, ejn_29⟩ := rg_nat (kx := q17) (mx := 2000) r_g5 (by have := nI_nle' (a := 32) c_20 (by omega); omega) rfl
      refine g_topi (y := nI jn_29) ejn_29 ?_
      refine lv_iadd hx hb dX11_save_30 ?_
      refine g_topi (y := nI (sz_ + jn_29)) (nI_add _ _) ?_
      refine lv_istore_n (lv' := [(2, .int (nI (sz_ + jn_29))), (3, .int (nI q17)), (1, .int (nI np_1)), (0, .ref h)]) hx hb dX11_save_31 rfl hl (by decide) rfl (fun ls hl => ?_)
      refine lv_iinc (v := nI (q17 + 1)) (lv' := [(3, .int (nI (q17 + 1))), (2, .int (nI (sz_ + jn_29))), (1, .int (nI np_1)), (0, .ref h)]) hx hb dX11_save_32 hl (k := 1) rfl (nI_1 q17) (by decide) rfl (fun ls hl => ?_)
      refine lv_goto (tgt := 17) hx hb dX11_save_35 (by decide) ?_
      exact ih17 (q17 + 1) (sz_ + jn_29) (by omega) (by have := nI_nle' (a := 32) c_20 (by omega); omega) (by rw [lz_s hq17a ejn_29 (by omega)]; omega) (by have := nI_nle' (a := 32) c_20 (by omega); omega) _ _ (hP.sub [0, 1, 2, 3, 4, 5, 6, 7, 8, 9] rfl) (hD.sub [0, 1, 2, 3, 4, 5, 6, 7, 8, 9] (by decide) rfl) hS _ (lv_sub hl [0, 1, 2, 3] rfl)
  exact LP17 _ 1 (1084 + 1024 * np_1) (by decide) (by decide) (rfl) (Nat.lt_succ_self _) _ _ (hP.sub [0, 1, 2, 3, 4, 5, 6, 7, 8, 9] rfl) (hD.sub [0, 1, 2, 3, 4, 5, 6, 7, 8, 9] (by decide) rfl) hS _ (lv_sub hl [0, 1, 2, 3] rfl)

set_option maxHeartbeats 400000 in
set_option maxRecDepth 100000 in
theorem m_one (l : Launch) (dC : Nat → ClassId) (dI : Nat → Nat → Nat) (sz : Nat) (h : Nat) (qa : Nat → Nat) (x0 x2 x3 x4 x13 x14 x15 x16 x17 x18 x19 x20 x21 x22 x23 x24 x26 x27 x28 : Int32) (cB : ClassId) (ft : Nat → Int32) (kx : Nat) (hkx : kx < 9000) : Met l yX11_one (wsG (.code yX11_one cX11_one 2 (some .int))) ({ frames := 0, cells := 0, slots := 0, locals := 0 }) (va_Pc [.ref h, .int (nI kx)] (gP (dC, dI) [(cB, .byte)] [(h, .inr (10, mdF qa x0 x2 x3 x4 x13 x14 x15 x16 x17 x18 x19 x20 x21 x22 x23 x24 x26 x27 x28)), (qa 1, .inl (cB, 9000, .inl ft))] sz)) (va_Qi (fun (r : Int32) (u : va_W × gT) => u = ([(h, .inr (10, mdF qa x0 x2 x3 x4 x13 x14 x15 x16 x17 x18 x19 x20 x21 x22 x23 x24 x26 x27 x28)), (qa 1, .inl (cB, 9000, .inl ft))], []) ∧ r = nI (by8 ft kx)) (gB (dC, dI) (va_A [(h, .inr (10, mdF qa x0 x2 x3 x4 x13 x14 x15 x16 x17 x18 x19 x20 x21 x22 x23 x24 x26 x27 x28)), (qa 1, .inl (cB, 9000, .inl ft))] sz)) (va_A [(h, .inr (10, mdF qa x0 x2 x3 x4 x13 x14 x15 x16 x17 x18 x19 x20 x21 x22 x23 x24 x26 x27 x28)), (qa 1, .inl (cB, 9000, .inl ft))] sz)) 0 0 (va_A [(h, .inr (10, mdF qa x0 x2 x3 x4 x13 x14 x15 x16 x17 x18 x19 x20 x21 x22 x23 x24 x26 x27 x28)), (qa 1, .inl (cB, 9000, .inl ft))] sz) := by
  refine Met.ofW (cc := cX11_one) (maxL := 2) (ret := (some .int)) (by decide) rfl ?_
  intro p e s m args below meth c s₁ B hml hv
  obtain ⟨rfl, hsz, hP, hK, hD0, hN, hZ⟩ := hv
  have hx := B.exec
  have hb := B.bytes
  have hr := B.returns
  have hts := atoms_spec (ws := (wsG (.code yX11_one cX11_one 2 (some .int)))) B.pre
  have hown : s.vm.findClass RX11 = some m.cls := findClass_of_methodNamed B.named
  have hlocks := B.notSynchronized
  subst hsz
  have hD := hD0.self (sz := s.heap.size)
  generalize hAe : va_A [(h, .inr (10, mdF qa x0 x2 x3 x4 x13 x14 x15 x16 x17 x18 x19 x20 x21 x22 x23 x24 x26 x27 x28)), (qa 1, .inl (cB, 9000, .inl ft))] s.heap.size = A at hD hZ ⊢
  have hA : ∀ q : Nat, s.heap.size ≤ q → A q := fun q h => by rw [← hAe]; exact Or.inr h
  have hl := lv_entry ([.ref h, .int (nI kx)]) (n := 2) (Nat.le_of_ble_eq_true rfl)
  rw [lg_entry_eq]
  generalize (lg_sl ([.ref h, .int (nI kx)]) ++ List.replicate (2 - (lg_sl ([.ref h, .int (nI kx)])).length) Slot.unset).toArray = ls at hl ⊢
  have hl : lv_has ls 2 [(0, .ref h), (1, .int (nI kx))] := hl
  refine g_start (A := A) hP (fun H locs hP hS => ?_)
  refine lv_aload_n hx hb dX11_one_0 rfl (lv_at hl 0 rfl) ?_
  refine va_get (D := (dC, dI)) (ci := 10) (v := .ref (qa 1)) (C := RX11) (T := TX11) (N := 53) hx hb hts iwX11 hown hK hP 0 rfl rfl 1 (by decide) (hts (.fieldLink RX11 9 "ModulePlayerModel" "tape" "[B") (List.mem_cons_of_mem _ kw_171)) (fun _ h9 => h9) rfl dX11_one_1 ?_
  refine lv_iload_n hx hb dX11_one_4 rfl (lv_at hl 1 rfl) ?_
  refine g_bald hx hb hK hP 1 0 rfl rfl kx (nI_clamp (Nat.lt_trans (show kx < 9000 from hkx) (by decide))) (vp_in_nI (hkx) (by decide)) dX11_one_5 ?_
  refine lv_sipush (v := 255) hx hb dX11_one_6 (by decide) ?_
  refine lv_iand hx hb dX11_one_9 ?_
  refine g_topi (y := nI (by8 ft kx)) (by8_e ft kx) ?_
  have hP9 := hP
  have hD9 := hD
  have hK9 := hK.sub (tys' := []) [] rfl
  exact W.iret (v := nI (by8 ft kx)) hx hb hr (fun t ht hW => ⟨⟨nI (by8 ft kx), _, rfl, ⟨rfl, rfl⟩, by rw [ht]; exact hP9, va_K.moved hW.alike hK9, hD9⟩, hS.F ht⟩) hS.2.2 dX11_one_10

set_option maxHeartbeats 400000 in
set_option maxRecDepth 100000 in
theorem m_two (l : Launch) (dC : Nat → ClassId) (dI : Nat → Nat → Nat) (sz : Nat) (h : Nat) (qa : Nat → Nat) (x0 x2 x3 x4 x13 x14 x15 x16 x17 x18 x19 x20 x21 x22 x23 x24 x26 x27 x28 : Int32) (cB : ClassId) (ft : Nat → Int32) (kx : Nat) (hkx : kx + 1 < 9000) : Met l yX11_two (wsG (.code yX11_two cX11_two 2 (some .int))) ({ frames := 1, cells := 0, slots := 0, locals := 21 }) (va_Pc [.ref h, .int (nI kx)] (gP (dC, dI) [(cB, .byte)] [(h, .inr (10, mdF qa x0 x2 x3 x4 x13 x14 x15 x16 x17 x18 x19 x20 x21 x22 x23 x24 x26 x27 x28)), (qa 1, .inl (cB, 9000, .inl ft))] sz)) (va_Qi (fun (r : Int32) (u : va_W × gT) => u = ([(h, .inr (10, mdF qa x0 x2 x3 x4 x13 x14 x15 x16 x17 x18 x19 x20 x21 x22 x23 x24 x26 x27 x28)), (qa 1, .inl (cB, 9000, .inl ft))], []) ∧ r = nI (tw2 ft kx)) (gB (dC, dI) (va_A [(h, .inr (10, mdF qa x0 x2 x3 x4 x13 x14 x15 x16 x17 x18 x19 x20 x21 x22 x23 x24 x26 x27 x28)), (qa 1, .inl (cB, 9000, .inl ft))] sz)) (va_A [(h, .inr (10, mdF qa x0 x2 x3 x4 x13 x14 x15 x16 x17 x18 x19 x20 x21 x22 x23 x24 x26 x27 x28)), (qa 1, .inl (cB, 9000, .inl ft))] sz)) 0 0 (va_A [(h, .inr (10, mdF qa x0 x2 x3 x4 x13 x14 x15 x16 x17 x18 x19 x20 x21 x22 x23 x24 x26 x27 x28)), (qa 1, .inl (cB, 9000, .inl ft))] sz) := by
  refine Met.ofW (cc := cX11_two) (maxL := 2) (ret := (some .int)) (by decide) rfl ?_
  intro p e s m args below meth c s₁ B hml hv
  obtain ⟨rfl, hsz, hP, hK, hD0, hN, hZ⟩ := hv
  have hx := B.exec
  have hb := B.bytes
  have hr := B.returns
  have hts := atoms_spec (ws := (wsG (.code yX11_two cX11_two 2 (some .int)))) B.pre
  have hown : s.vm.findClass RX11 = some m.cls := findClass_of_methodNamed B.named
  have hlocks := B.notSynchronized
  subst hsz
  have hD := hD0.self (sz := s.heap.size)
  generalize hAe : va_A [(h, .inr (10, mdF qa x0 x2 x3 x4 x13 x14 x15 x16 x17 x18 x19 x20 x21 x22 x23 x24 x26 x27 x28)), (qa 1, .inl (cB, 9000, .inl ft))] s.heap.size = A at hD hZ ⊢
  have hA : ∀ q : Nat, s.heap.size ≤ q → A q := fun q h => by rw [← hAe]; exact Or.inr h
  have hl := lv_entry ([.ref h, .int (nI kx)]) (n := 2) (Nat.le_of_ble_eq_true rfl)
  rw [lg_entry_eq]
  generalize (lg_sl ([.ref h, .int (nI kx)]) ++ List.replicate (2 - (lg_sl ([.ref h, .int (nI kx)])).length) Slot.unset).toArray = ls at hl ⊢
  have hl : lv_has ls 2 [(0, .ref h), (1, .int (nI kx))] := hl
  refine g_start (A := A) hP (fun H locs hP hS => ?_)
  refine lv_iconst (v := 2) hx hb dX11_two_0 (by decide) ?_
  refine lv_sipush (v := 256) hx hb dX11_two_1 (by decide) ?_
  refine lv_aload_n hx hb dX11_two_4 rfl (lv_at hl 0 rfl) ?_
  refine lv_iload_n hx hb dX11_two_5 rfl (lv_at hl 1 rfl) ?_
  refine g_calli (wr := []) (va_runV (As := [.int (nI kx)]) (rest := [.int 256, .int 2]) ⟨hx, hb, hml, hown, hts⟩ (m_one l dC dI H.size h qa x0 x2 x3 x4 x13 x14 x15 x16 x17 x18 x19 x20 x21 x22 x23 x24 x26 x27 x28 cB ft kx (by omega)) (cwV 1 hts (gG_V kw_431 kw_432 kw_433 kw_5 kw_434) rfl rfl rfl (by decide +kernel) ⟨Nat.le_of_ble_eq_true rfl, Nat.le_of_ble_eq_true rfl⟩) (g_preV (C := RX11) (T := TX11) (N := 53) hP hD hK hS hA hN hZ (q0 := 0) rfl rfl [0, 1] (by decide) rfl [0] rfl) rfl rfl hl.1 rfl (lv_room (Nat.le_of_ble_eq_true rfl)) dX11_two_6 ⟨Nat.le_of_ble_eq_true rfl, Nat.le_of_ble_eq_true rfl⟩) hP hD hK hS hA [0, 1] [] rfl rfl (by decide) (by decide) (fun r_6 w ty1 H locs hw_6 hP hD _ hS => ?_)
  rcases hw_6 with ⟨hu, hr_6⟩
  cases hu
  have hP : va_P (dC, dI) vwCl [(h, .inr (10, mdF qa x0 x2 x3 x4 x13 x14 x15 x16 x17 x18 x19 x20 x21 x22 x23 x24 x26 x27 x28)), (qa 1, .inl (cB, 9000, .inl ft))] H := hP
  have hD : va_D A [(h, .inr (10, mdF qa x0 x2 x3 x4 x13 x14 x15 x16 x17 x18 x19 x20 x21 x22 x23 x24 x26 x27 x28)), (qa 1, .inl (cB, 9000, .inl ft))] := hD
  refine g_topi (y := nI (by8 ft kx)) hr_6 ?_
  refine lv_imul hx hb dX11_two_9 ?_
  refine g_topi (y := nI (256 * by8 ft kx)) (pk_mul 256 _) ?_
  refine lv_aload_n hx hb dX11_two_10 rfl (lv_at hl 0 rfl) ?_
  refine lv_iload_n hx hb dX11_two_11 rfl (lv_at hl 1 rfl) ?_
  refine lv_iconst (v := 1) hx hb dX11_two_12 (by decide) ?_
  refine lv_iadd hx hb dX11_two_13 ?_
  refine g_topi (y := nI (kx + 1)) (nI_1 _) ?_
  refine g_calli (wr := []) (va_runV (As := [.int (nI (kx + 1))]) (rest := [.int (nI (256 * by8 ft kx)), .int 2]) ⟨hx, hb, hml, hown, hts⟩ (m_one l dC dI H.size h qa x0 x2 x3 x4 x13 x14 x15 x16 x17 x18 x19 x20 x21 x22 x23 x24 x26 x27 x28 cB ft (kx + 1) (hkx)) (cwV 1 hts (gG_V kw_431 kw_432 kw_433 kw_5 kw_434) rfl rfl rfl (by decide +kernel) ⟨Nat.le_of_ble_eq_true rfl, Nat.le_of_ble_eq_true rfl⟩) (g_preV (C := RX11) (T := TX11) (N := 53) hP hD hK hS hA hN hZ (q0 := 0) rfl rfl [0, 1] (by decide) rfl [0] rfl) rfl rfl hl.1 rfl (lv_room (Nat.le_of_ble_eq_true rfl)) dX11_two_14 ⟨Nat.le_of_ble_eq_true rfl, Nat.le_of_ble_eq_true rfl⟩) hP hD hK hS hA [0, 1] [] rfl rfl (by decide) (by decide) (fun r_14 w ty1 H locs hw_14 hP hD _ hS => ?_)
  rcases hw_14 with ⟨hu, hr_14⟩
  cases hu
  have hP : va_P (dC, dI) vwCl [(h, .inr (10, mdF qa x0 x2 x3 x4 x13 x14 x15 x16 x17 x18 x19 x20 x21 x22 x23 x24 x26 x27 x28)), (qa 1, .inl (cB, 9000, .inl ft))] H := hP
  have hD : va_D A [(h, .inr (10, mdF qa x0 x2 x3 x4 x13 x14 x15 x16 x17 x18 x19 x20 x21 x22 x23 x24 x26 x27 x28)), (qa 1, .inl (cB, 9000, .inl ft))] := hD
  refine g_topi (y := nI (by8 ft (kx + 1))) hr_14 ?_
  refine lv_iadd hx hb dX11_two_17 ?_
  refine g_topi (y := nI (256 * by8 ft kx + by8 ft (kx + 1))) (nI_add _ _) ?_
  refine lv_imul hx hb dX11_two_18 ?_
  refine g_topi (y := nI (tw2 ft kx)) (pk_mul 2 _) ?_
  have hP9 := hP
  have hD9 := hD
  have hK9 := hK.sub (tys' := []) [] rfl
  exact W.iret (v := nI (tw2 ft kx)) hx hb hr (fun t ht hW => ⟨⟨nI (tw2 ft kx), _, rfl, ⟨rfl, rfl⟩, by rw [ht]; exact hP9, va_K.moved hW.alike hK9, hD9⟩, hS.F ht⟩) hS.2.2 dX11_two_19

set_option maxHeartbeats 400000 in
set_option maxRecDepth 100000 in
theorem m_wrongHead (l : Launch) (dC : Nat → ClassId) (dI : Nat → Nat → Nat) (sz : Nat) (h : Nat) (qa : Nat → Nat) (x0 x2 x3 x4 x13 x14 x15 x16 x17 x18 x19 x20 x21 x22 x23 x24 x26 x27 x28 : Int32) (cB : ClassId) (ft : Nat → Int32) : Met l yX11_wrongHead (wsG (.code yX11_wrongHead cX11_wrongHead 6 (some .int))) ({ frames := 2, cells := 0, slots := 0, locals := 42 }) (va_Pc [.ref h] (gP (dC, dI) [(cB, .byte)] [(h, .inr (10, mdF qa x0 x2 x3 x4 x13 x14 x15 x16 x17 x18 x19 x20 x21 x22 x23 x24 x26 x27 x28)), (qa 1, .inl (cB, 9000, .inl ft))] sz)) (va_Qi (fun (r : Int32) (u : va_W × gT) => (u = ([(h, .inr (10, mdF qa x0 x2 x3 x4 x13 x14 x15 x16 x17 x18 x19 x20 x21 x22 x23 x24 x26 x27 x28)), (qa 1, .inl (cB, 9000, .inl ft))], []) ∧ r = (-1) ∧ (∀ ss, 1 ≤ ss → ss < 32 → tw2 ft (30 * ss + 12) ≤ 2000) ∧ (1 ≤ by8 ft 950 ∧ by8 ft 950 ≤ 128) ∧ (∀ ss, ss < by8 ft 950 → by8 ft (952 + ss) < 8)) ∨ (u = ([(h, .inr (10, mdF qa x0 x2 x3 x4 x13 x14 x15 x16 x17 x18 x19 x20 x21 x22 x23 x24 x26 x27 x28)), (qa 1, .inl (cB, 9000, .inl ft))], []) ∧ ¬ r = -1)) (gB (dC, dI) (va_A [(h, .inr (10, mdF qa x0 x2 x3 x4 x13 x14 x15 x16 x17 x18 x19 x20 x21 x22 x23 x24 x26 x27 x28)), (qa 1, .inl (cB, 9000, .inl ft))] sz)) (va_A [(h, .inr (10, mdF qa x0 x2 x3 x4 x13 x14 x15 x16 x17 x18 x19 x20 x21 x22 x23 x24 x26 x27 x28)), (qa 1, .inl (cB, 9000, .inl ft))] sz)) 0 0 (va_A [(h, .inr (10, mdF qa x0 x2 x3 x4 x13 x14 x15 x16 x17 x18 x19 x20 x21 x22 x23 x24 x26 x27 x28)), (qa 1, .inl (cB, 9000, .inl ft))] sz) := by
  refine Met.ofW (cc := cX11_wrongHead) (maxL := 6) (ret := (some .int)) (by decide) rfl ?_
  intro p e s m args below meth c s₁ B hml hv
  obtain ⟨rfl, hsz, hP, hK, hD0, hN, hZ⟩ := hv
  have hx := B.exec
  have hb := B.bytes
  have hr := B.returns
  have hts := atoms_spec (ws := (wsG (.code yX11_wrongHead cX11_wrongHead 6 (some .int)))) B.pre
  have hown : s.vm.findClass RX11 = some m.cls := findClass_of_methodNamed B.named
  have hlocks := B.notSynchronized
  subst hsz
  have hD := hD0.self (sz := s.heap.size)
  generalize hAe : va_A [(h, .inr (10, mdF qa x0 x2 x3 x4 x13 x14 x15 x16 x17 x18 x19 x20 x21 x22 x23 x24 x26 x27 x28)), (qa 1, .inl (cB, 9000, .inl ft))] s.heap.size = A at hD hZ ⊢
  have hA : ∀ q : Nat, s.heap.size ≤ q → A q := fun q h => by rw [← hAe]; exact Or.inr h
  have hl := lv_entry ([.ref h]) (n := 6) (Nat.le_of_ble_eq_true rfl)
  rw [lg_entry_eq]
  generalize (lg_sl ([.ref h]) ++ List.replicate (6 - (lg_sl ([.ref h])).length) Slot.unset).toArray = ls at hl ⊢
  have hl : lv_has ls 6 [(0, .ref h)] := hl
  refine g_start (A := A) hP (fun H locs hP hS => ?_)
  refine lv_iconst (v := 0) hx hb dX11_wrongHead_0 (by decide) ?_
  refine lv_istore_n (lv' := [(1, .int 0), (0, .ref h)]) hx hb dX11_wrongHead_1 rfl hl (by decide) rfl (fun ls hl => ?_)
  refine lv_iconst (v := 1) hx hb dX11_wrongHead_2 (by decide) ?_
  refine lv_istore_n (lv' := [(2, .int 1), (1, .int 0), (0, .ref h)]) hx hb dX11_wrongHead_3 rfl hl (by decide) rfl (fun ls hl => ?_)
  have LP4 : ∀ (fu4 : Nat) (q4 : Nat) (al_ : Int32) (hq4a : 1 ≤ q4) (hq4 : q4 ≤ 32) (hwq : ∀ ss, 1 ≤ ss → ss < q4 → tw2 ft (30 * ss + 12) ≤ 2000) (hm4 : 32 - q4 < fu4) (H : Heap) (locs : List Loc), va_P (dC, dI) vwCl [(h, .inr (10, mdF qa x0 x2 x3 x4 x13 x14 x15 x16 x17 x18 x19 x20 x21 x22 x23 x24 x26 x27 x28)), (qa 1, .inl (cB, 9000, .inl ft))] H → va_D A [(h, .inr (10, mdF qa x0 x2 x3 x4 x13 x14 x15 x16 x17 x18 x19 x20 x21 x22 x23 x24 x26 x27 x28)), (qa 1, .inl (cB, 9000, .inl ft))] → va_S A s.heap H locs → ∀ ls : Array Slot, lv_has ls 6 [(2, .int (nI q4)), (1, .int al_), (0, .ref h)] → W p l e ({ frames := 2, cells := 0, slots := 0, locals := 42 }) s m ([.ref h] : List Value).toArray below meth c H locs (0) (0) (MQ below (va_Qi (fun (r : Int32) (u : va_W × gT) => (u = ([(h, .inr (10, mdF qa x0 x2 x3 x4 x13 x14 x15 x16 x17 x18 x19 x20 x21 x22 x23 x24 x26 x27 x28)), (qa 1, .inl (cB, 9000, .inl ft))], []) ∧ r = (-1) ∧ (∀ ss, 1 ≤ ss → ss < 32 → tw2 ft (30 * ss + 12) ≤ 2000) ∧ (1 ≤ by8 ft 950 ∧ by8 ft 950 ≤ 128) ∧ (∀ ss, ss < by8 ft 950 → by8 ft (952 + ss) < 8)) ∨ (u = ([(h, .inr (10, mdF qa x0 x2 x3 x4 x13 x14 x15 x16 x17 x18 x19 x20 x21 x22 x23 x24 x26 x27 x28)), (qa 1, .inl (cB, 9000, .inl ft))], []) ∧ ¬ r = -1)) (gB (dC, dI) A) A) ([.ref h] : List Value).toArray s 0 0 A) (F0 m 4 ls []) := by
    intro fu4
    induction fu4 with
    | zero => intro q4 al_ hq4a hq4 hwq hm4; exact absurd hm4 (Nat.not_lt_zero _)
    | succ fu4 ih4 =>
      intro q4 al_ hq4a hq4 hwq hm4 H locs hP hD hS ls hl
      refine lv_iload_n hx hb dX11_wrongHead_4 rfl (lv_at hl 0 rfl) ?_
      refine lv_bipush (v := 32) hx hb dX11_wrongHead_5 (by decide) ?_
      refine lv_icmp_ge (tgt := 136) hx hb dX11_wrongHead_7 (by decide) (fun c_7 => ?_) (fun c_7 => ?_)
      · refine lv_aload_n hx hb dX11_wrongHead_136 rfl (lv_at hl 2 rfl) ?_
        refine lv_sipush (v := 950) hx hb dX11_wrongHead_137 (by decide) ?_
        refine g_calli (wr := []) (va_runV (As := [.int 950]) (rest := []) ⟨hx, hb, hml, hown, hts⟩ (m_one l dC dI H.size h qa x0 x2 x3 x4 x13 x14 x15 x16 x17 x18 x19 x20 x21 x22 x23 x24 x26 x27 x28 cB ft 950 (by decide)) (cwV 1 hts (gG_V kw_431 kw_432 kw_433 kw_5 kw_434) rfl rfl rfl (by decide +kernel) ⟨Nat.le_of_ble_eq_true rfl, Nat.le_of_ble_eq_true rfl⟩) (g_preV (C := RX11) (T := TX11) (N := 53) hP hD hK hS hA hN hZ (q0 := 0) rfl rfl [0, 1] (by decide) rfl [0] rfl) rfl rfl hl.1 rfl (lv_room (Nat.le_of_ble_eq_true rfl)) dX11_wrongHead_140 ⟨Nat.le_of_ble_eq_true rfl, Nat.le_of_ble_eq_true rfl⟩) hP hD hK hS hA [0, 1] [] rfl rfl (by decide) (by decide) (fun r_140 w ty1 H locs hw_140 hP hD _ hS => ?_)
        rcases hw_140 with ⟨hu, hr_140⟩
        cases hu
        have hP : va_P (dC, dI) vwCl [(h, .inr (10, mdF qa x0 x2 x3 x4 x13 x14 x15 x16 x17 x18 x19 x20 x21 x22 x23 x24 x26 x27 x28)), (qa 1, .inl (cB, 9000, .inl ft))] H := hP
        have hD : va_D A [(h, .inr (10, mdF qa x0 x2 x3 x4 x13 x14 x15 x16 x17 x18 x19 x20 x21 x22 x23 x24 x26 x27 x28)), (qa 1, .inl (cB, 9000, .inl ft))] := hD
        refine g_topi (y := nI (by8 ft 950)) hr_140 ?_
        refine lv_iconst (v := 1) hx hb dX11_wrongHead_143 (by decide) ?_
        refine lv_sipush (v := 128) hx hb dX11_wrongHead_144 (by decide) ?_
        refine g_calli (wr := [(h, .inr (10, mdF qa x0 x2 x3 x4 x13 x14 x15 x16 x17 x18 x19 x20 x21 x22 x23 x24 x26 x27 x28)), (qa 1, .inl (cB, 9000, .inl ft))]) (va_runS (As := [.int (nI (by8 ft 950)), .int 1, .int 128]) (rest := []) ⟨hx, hb, hml, hown, hts⟩ (m_in l dC dI H.size (nI (by8 ft 950)) 1 128 ) (va_cwS 3 hts (gG_S kw_266 kw_267 kw_5 kw_268) rfl rfl rfl (by decide +kernel) ⟨Nat.le_of_ble_eq_true rfl, Nat.le_of_ble_eq_true rfl⟩) (g_preS hP hD hK hS hA hN hZ [] (by decide) rfl [] rfl) rfl rfl hl.1 rfl (lv_room (Nat.le_of_ble_eq_true rfl)) dX11_wrongHead_147 ⟨Nat.le_of_ble_eq_true rfl, Nat.le_of_ble_eq_true rfl⟩) hP hD hK hS hA [] [0, 1] rfl rfl (by decide) (by decide) (fun r_147 w ty1 H locs hw_147 hP hD _ hS => ?_)
        rcases hw_147 with ⟨hu, hr_147, hh_147⟩ | ⟨hu, hr_147, hh_147⟩
        · cases hu
          have hP : va_P (dC, dI) vwCl [(h, .inr (10, mdF qa x0 x2 x3 x4 x13 x14 x15 x16 x17 x18 x19 x20 x21 x22 x23 x24 x26 x27 x28)), (qa 1, .inl (cB, 9000, .inl ft))] H := hP
          have hD : va_D A [(h, .inr (10, mdF qa x0 x2 x3 x4 x13 x14 x15 x16 x17 x18 x19 x20 x21 x22 x23 x24 x26 x27 x28)), (qa 1, .inl (cB, 9000, .inl ft))] := hD
          refine g_topi (y := 1) hr_147 ?_
          have hwp := in128 (by8_lt ft 950) hh_147
          refine lv_if_ne (tgt := 157) hx hb dX11_wrongHead_150 (by decide) (fun c_150 => ?_) (fun c_150 => absurd c_150 (by decide))
          refine lv_iconst (v := 0) hx hb dX11_wrongHead_157 (by decide) ?_
          refine lv_istore_n (lv' := [(2, .int 0), (1, .int al_), (0, .ref h)]) hx hb dX11_wrongHead_158 rfl hl (by decide) rfl (fun ls hl => ?_)
          have LP159 : ∀ (fu159 : Nat) (q159 : Nat) (hq159 : q159 ≤ 256) (hwr : ∀ ss, ss < q159 → by8 ft (952 + ss) < 8) (hm159 : 256 - q159 < fu159) (H : Heap) (locs : List Loc), va_P (dC, dI) vwCl [(h, .inr (10, mdF qa x0 x2 x3 x4 x13 x14 x15 x16 x17 x18 x19 x20 x21 x22 x23 x24 x26 x27 x28)), (qa 1, .inl (cB, 9000, .inl ft))] H → va_D A [(h, .inr (10, mdF qa x0 x2 x3 x4 x13 x14 x15 x16 x17 x18 x19 x20 x21 x22 x23 x24 x26 x27 x28)), (qa 1, .inl (cB, 9000, .inl ft))] → va_S A s.heap H locs → ∀ ls : Array Slot, lv_has ls 6 [(2, .int (nI q159)), (0, .ref h)] → W p l e ({ frames := 2, cells := 0, slots := 0, locals := 42 }) s m ([.ref h] : List Value).toArray below meth c H locs (0) (0) (MQ below (va_Qi (fun (r : Int32) (u : va_W × gT) => (u = ([(h, .inr (10, mdF qa x0 x2 x3 x4 x13 x14 x15 x16 x17 x18 x19 x20 x21 x22 x23 x24 x26 x27 x28)), (qa 1, .inl (cB, 9000, .inl ft))], []) ∧ r = (-1) ∧ (∀ ss, 1 ≤ ss → ss < 32 → tw2 ft (30 * ss + 12) ≤ 2000) ∧ (1 ≤ by8 ft 950 ∧ by8 ft 950 ≤ 128) ∧ (∀ ss, ss < by8 ft 950 → by8 ft (952 + ss) < 8)) ∨ (u = ([(h, .inr (10, mdF qa x0 x2 x3 x4 x13 x14 x15 x16 x17 x18 x19 x20 x21 x22 x23 x24 x26 x27 x28)), (qa 1, .inl (cB, 9000, .inl ft))], []) ∧ ¬ r = -1)) (gB (dC, dI) A) A) ([.ref h] : List Value).toArray s 0 0 A) (F0 m 159 ls []) := by
            intro fu159
            induction fu159 with
            | zero => intro q159 hq159 hwr hm159; exact absurd hm159 (Nat.not_lt_zero _)
            | succ fu159 ih159 =>
              intro q159 hq159 hwr hm159 H locs hP hD hS ls hl
              refine lv_iload_n hx hb dX11_wrongHead_159 rfl (lv_at hl 0 rfl) ?_
              refine lv_aload_n hx hb dX11_wrongHead_160 rfl (lv_at hl 1 rfl) ?_
              refine lv_sipush (v := 950) hx hb dX11_wrongHead_161 (by decide) ?_
              refine g_calli (wr := []) (va_runV (As := [.int 950]) (rest := [.int (nI q159)]) ⟨hx, hb, hml, hown, hts⟩ (m_one l dC dI H.size h qa x0 x2 x3 x4 x13 x14 x15 x16 x17 x18 x19 x20 x21 x22 x23 x24 x26 x27 x28 cB ft 950 (by decide)) (cwV 1 hts (gG_V kw_431 kw_432 kw_433 kw_5 kw_434) rfl rfl rfl (by decide +kernel) ⟨Nat.le_of_ble_eq_true rfl, Nat.le_of_ble_eq_true rfl⟩) (g_preV (C := RX11) (T := TX11) (N := 53) hP hD hK hS hA hN hZ (q0 := 0) rfl rfl [0, 1] (by decide) rfl [0] rfl) rfl rfl hl.1 rfl (lv_room (Nat.le_of_ble_eq_true rfl)) dX11_wrongHead_164 ⟨Nat.le_of_ble_eq_true rfl, Nat.le_of_ble_eq_true rfl⟩) hP hD hK hS hA [0, 1] [] rfl rfl (by decide) (by decide) (fun r_164 w ty1 H locs hw_164 hP hD _ hS => ?_)
              rcases hw_164 with ⟨hu, hr_164⟩
              cases hu
              have hP : va_P (dC, dI) vwCl [(h, .inr (10, mdF qa x0 x2 x3 x4 x13 x14 x15 x16 x17 x18 x19 x20 x21 x22 x23 x24 x26 x27 x28)), (qa 1, .inl (cB, 9000, .inl ft))] H := hP
              have hD : va_D A [(h, .inr (10, mdF qa x0 x2 x3 x4 x13 x14 x15 x16 x17 x18 x19 x20 x21 x22 x23 x24 x26 x27 x28)), (qa 1, .inl (cB, 9000, .inl ft))] := hD
              refine g_topi (y := nI (by8 ft 950)) hr_164 ?_
              refine lv_icmp_ge (tgt := 196) hx hb dX11_wrongHead_167 (by decide) (fun c_167 => ?_) (fun c_167 => ?_)
              · refine lv_iconst (v := (-1)) hx hb dX11_wrongHead_196 (by decide) ?_
                have hP9 := hP
                have hD9 := hD
                have hK9 := hK.sub (tys' := []) [] rfl
                exact W.iret (v := (-1)) hx hb hr (fun t ht hW => ⟨⟨(-1), _, rfl, (Or.inl ⟨rfl, rfl, (fun ss h1 h2 => hwq ss h1 (by have := nI_le' (a := 32) c_7 (by decide) (by omega); omega)), hwp, (fun ss h1 => hwr ss (by have := nI_le' c_167 (by have := by8_lt ft 950; omega) (by omega); omega))⟩), by rw [ht]; exact hP9, va_K.moved hW.alike hK9, hD9⟩, hS.F ht⟩) hS.2.2 dX11_wrongHead_197
              refine lv_aload_n hx hb dX11_wrongHead_170 rfl (lv_at hl 1 rfl) ?_
              refine lv_sipush (v := 952) hx hb dX11_wrongHead_171 (by decide) ?_
              refine lv_iload_n hx hb dX11_wrongHead_174 rfl (lv_at hl 0 rfl) ?_
              refine lv_iadd hx hb dX11_wrongHead_175 ?_
              refine g_topi (y := nI (952 + q159)) (nI_add 952 _) ?_
              refine g_calli (wr := []) (va_runV (As := [.int (nI (952 + q159))]) (rest := []) ⟨hx, hb, hml, hown, hts⟩ (m_one l dC dI H.size h qa x0 x2 x3 x4 x13 x14 x15 x16 x17 x18 x19 x20 x21 x22 x23 x24 x26 x27 x28 cB ft (952 + q159) (by omega)) (cwV 1 hts (gG_V kw_431 kw_432 kw_433 kw_5 kw_434) rfl rfl rfl (by decide +kernel) ⟨Nat.le_of_ble_eq_true rfl, Nat.le_of_ble_eq_true rfl⟩) (g_preV (C := RX11) (T := TX11) (N := 53) hP hD hK hS hA hN hZ (q0 := 0) rfl rfl [0, 1] (by decide) rfl [0] rfl) rfl rfl hl.1 rfl (lv_room (Nat.le_of_ble_eq_true rfl)) dX11_wrongHead_176 ⟨Nat.le_of_ble_eq_true rfl, Nat.le_of_ble_eq_true rfl⟩) hP hD hK hS hA [0, 1] [] rfl rfl (by decide) (by decide) (fun r_176 w ty1 H locs hw_176 hP hD _ hS => ?_)
              rcases hw_176 with ⟨hu, hr_176⟩
              cases hu
              have hP : va_P (dC, dI) vwCl [(h, .inr (10, mdF qa x0 x2 x3 x4 x13 x14 x15 x16 x17 x18 x19 x20 x21 x22 x23 x24 x26 x27 x28)), (qa 1, .inl (cB, 9000, .inl ft))] H := hP
              have hD : va_D A [(h, .inr (10, mdF qa x0 x2 x3 x4 x13 x14 x15 x16 x17 x18 x19 x20 x21 x22 x23 x24 x26 x27 x28)), (qa 1, .inl (cB, 9000, .inl ft))] := hD
              refine g_topi (y := nI (by8 ft (952 + q159))) hr_176 ?_
              refine lv_bipush (v := 8) hx hb dX11_wrongHead_179 (by decide) ?_
              refine lv_icmp_lt (tgt := 190) hx hb dX11_wrongHead_181 (by decide) (fun c_181 => ?_) (fun c_181 => ?_)
              · refine lv_iinc (v := nI (q159 + 1)) (lv' := [(2, .int (nI (q159 + 1))), (0, .ref h)]) hx hb dX11_wrongHead_190 hl (k := 0) rfl (nI_1 q159) (by decide) rfl (fun ls hl => ?_)
                refine lv_goto (tgt := 159) hx hb dX11_wrongHead_193 (by decide) ?_
                exact ih159 (q159 + 1) (by have := nI_nle' c_167 (by omega); have := by8_lt ft 950; omega) (al_s hwr (nI_lt' (b := 8) c_181 (by have := by8_lt ft (952 + q159); omega) (by decide))) (by have := nI_nle' c_167 (by omega); have := by8_lt ft 950; omega) _ _ (hP.sub [0, 1] rfl) (hD.sub [0, 1] (by decide) rfl) hS _ (lv_sub hl [0, 1] rfl)
              refine lv_sipush (v := 952) hx hb dX11_wrongHead_184 (by decide) ?_
              refine lv_iload_n hx hb dX11_wrongHead_187 rfl (lv_at hl 0 rfl) ?_
              refine lv_iadd hx hb dX11_wrongHead_188 ?_
              refine g_topi (y := nI (952 + q159)) (nI_add 952 _) ?_
              have hP9 := hP
              have hD9 := hD
              have hK9 := hK.sub (tys' := []) [] rfl
              exact W.iret (v := nI (952 + q159)) hx hb hr (fun t ht hW => ⟨⟨nI (952 + q159), _, rfl, (Or.inr ⟨rfl, (nI_ne1 (by omega))⟩), by rw [ht]; exact hP9, va_K.moved hW.alike hK9, hD9⟩, hS.F ht⟩) hS.2.2 dX11_wrongHead_189
          exact LP159 _ 0 (Nat.zero_le _) (fun ss h2 => absurd h2 (Nat.not_lt_zero _)) (Nat.lt_succ_self _) _ _ (hP.sub [0, 1] rfl) (hD.sub [0, 1] (by decide) rfl) hS _ (lv_sub hl [0, 2] rfl)
        cases hu
        have hP : va_P (dC, dI) vwCl [(h, .inr (10, mdF qa x0 x2 x3 x4 x13 x14 x15 x16 x17 x18 x19 x20 x21 x22 x23 x24 x26 x27 x28)), (qa 1, .inl (cB, 9000, .inl ft))] H := hP
        have hD : va_D A [(h, .inr (10, mdF qa x0 x2 x3 x4 x13 x14 x15 x16 x17 x18 x19 x20 x21 x22 x23 x24 x26 x27 x28)), (qa 1, .inl (cB, 9000, .inl ft))] := hD
        refine g_topi (y := 0) hr_147 ?_
        refine lv_if_ne (tgt := 157) hx hb dX11_wrongHead_150 (by decide) (fun c_150 => absurd c_150 (by decide)) (fun c_150 => ?_)
        refine lv_sipush (v := 950) hx hb dX11_wrongHead_153 (by decide) ?_
        have hP9 := hP
        have hD9 := hD
        have hK9 := hK.sub (tys' := []) [] rfl
        exact W.iret (v := 950) hx hb hr (fun t ht hW => ⟨⟨950, _, rfl, (Or.inr ⟨rfl, (by decide)⟩), by rw [ht]; exact hP9, va_K.moved hW.alike hK9, hD9⟩, hS.F ht⟩) hS.2.2 dX11_wrongHead_156
      have hq3 : q4 < 32 := by have := nI_nle' (a := 32) c_7 (by omega); omega
      refine lv_bipush (v := 30) hx hb dX11_wrongHead_10 (by decide) ?_
      refine lv_iload_n hx hb dX11_wrongHead_12 rfl (lv_at hl 0 rfl) ?_
      refine lv_imul hx hb dX11_wrongHead_13 ?_
      refine g_topi (y := nI (30 * q4)) (pk_mul 30 _) ?_
      refine lv_bipush (v := 10) hx hb dX11_wrongHead_14 (by decide) ?_
      refine lv_isub hx hb dX11_wrongHead_16 ?_
      refine g_topi (y := nI (30 * q4 - 10)) (pk_sub (b := 10) (by omega)) ?_
      refine lv_istore_n (lv' := [(3, .int (nI (30 * q4 - 10))), (2, .int (nI q4)), (1, .int al_), (0, .ref h)]) hx hb dX11_wrongHead_17 rfl hl (by decide) rfl (fun ls hl => ?_)
      refine lv_aload_n hx hb dX11_wrongHead_18 rfl (lv_at hl 3 rfl) ?_
      refine lv_iload_n hx hb dX11_wrongHead_19 rfl (lv_at hl 0 rfl) ?_
      refine lv_bipush (v := 22) hx hb dX11_wrongHead_20 (by decide) ?_
      refine lv_iadd hx hb dX11_wrongHead_22 ?_
      refine g_topi (y := nI (30 * q4 + 12)) ((nI_add _ 22).trans (up_e (by omega))) ?_
      refine g_calli (wr := []) (va_runV (As := [.int (nI (30 * q4 + 12))]) (rest := []) ⟨hx, hb, hml, hown, hts⟩ (m_two l dC dI H.size h qa x0 x2 x3 x4 x13 x14 x15 x16 x17 x18 x19 x20 x21 x22 x23 x24 x26 x27 x28 cB ft (30 * q4 + 12) (by omega)) (cwV 1 hts (gG_V kw_439 kw_440 kw_441 kw_5 kw_442) rfl rfl rfl (by decide +kernel) ⟨Nat.le_of_ble_eq_true rfl, Nat.le_of_ble_eq_true rfl⟩) (g_preV (C := RX11) (T := TX11) (N := 53) hP hD hK hS hA hN hZ (q0 := 0) rfl rfl [0, 1] (by decide) rfl [0] rfl) rfl rfl hl.1 rfl (lv_room (Nat.le_of_ble_eq_true rfl)) dX11_wrongHead_23 ⟨Nat.le_of_ble_eq_true rfl, Nat.le_of_ble_eq_true rfl⟩) hP hD hK hS hA [0, 1] [] rfl rfl (by decide) (by decide) (fun r_23 w ty1 H locs hw_23 hP hD _ hS => ?_)
      rcases hw_23 with ⟨hu, hr_23⟩
      cases hu
      have hP : va_P (dC, dI) vwCl [(h, .inr (10, mdF qa x0 x2 x3 x4 x13 x14 x15 x16 x17 x18 x19 x20 x21 x22 x23 x24 x26 x27 x28)), (qa 1, .inl (cB, 9000, .inl ft))] H := hP
      have hD : va_D A [(h, .inr (10, mdF qa x0 x2 x3 x4 x13 x14 x15 x16 x17 x18 x19 x20 x21 x22 x23 x24 x26 x27 x28)), (qa 1, .inl (cB, 9000, .inl ft))] := hD
      refine g_topi (y := nI (tw2 ft (30 * q4 + 12))) hr_23 ?_
      refine lv_istore (lv' := [(4, .int (nI (tw2 ft (30 * q4 + 12)))), (3, .int (nI (30 * q4 - 10))), (2, .int (nI q4)), (1, .int al_), (0, .ref h)]) hx hb dX11_wrongHead_26 hl (by decide) rfl (fun ls hl => ?_)
      refine lv_iload_n hx hb dX11_wrongHead_28 rfl (lv_at hl 3 rfl) ?_
      refine lv_iload hx hb dX11_wrongHead_29 (lv_at hl 0 rfl) ?_
      refine lv_iadd hx hb dX11_wrongHead_31 ?_
      refine lv_topi (fun tv_31 etv_31 => ?_)
      refine lv_istore_n (lv' := [(1, .int tv_31), (4, .int (nI (tw2 ft (30 * q4 + 12)))), (3, .int (nI (30 * q4 - 10))), (2, .int (nI q4)), (0, .ref h)]) hx hb dX11_wrongHead_32 rfl hl (by decide) rfl (fun ls hl => ?_)
      refine lv_iload hx hb dX11_wrongHead_33 (lv_at hl 1 rfl) ?_
      refine lv_sipush (v := 2000) hx hb dX11_wrongHead_35 (by decide) ?_
      refine lv_icmp_gt (tgt := 48) hx hb dX11_wrongHead_38 (by decide) (fun c_38 => ?_) (fun c_38 => ?_)
      · refine lv_iload_n hx hb dX11_wrongHead_48 rfl (lv_at hl 2 rfl) ?_
        refine lv_bipush (v := 22) hx hb dX11_wrongHead_49 (by decide) ?_
        refine lv_iadd hx hb dX11_wrongHead_51 ?_
        refine g_topi (y := nI (30 * q4 + 12)) ((nI_add _ 22).trans (up_e (by omega))) ?_
        have hP9 := hP
        have hD9 := hD
        have hK9 := hK.sub (tys' := []) [] rfl
        exact W.iret (v := nI (30 * q4 + 12)) hx hb hr (fun t ht hW => ⟨⟨nI (30 * q4 + 12), _, rfl, (Or.inr ⟨rfl, (nI_ne1 (by omega))⟩), by rw [ht]; exact hP9, va_K.moved hW.alike hK9, hD9⟩, hS.F ht⟩) hS.2.2 dX11_wrongHead_52
      refine lv_iload_n hx hb dX11_wrongHead_41 rfl (lv_at hl 0 rfl) ?_
      refine lv_sipush (v := 4000) hx hb dX11_wrongHead_42 (by decide) ?_
      refine lv_icmp_le (tgt := 53) hx hb dX11_wrongHead_45 (by decide) (fun c_45 => ?_) (fun c_45 => ?_)
      · refine lv_aload_n hx hb dX11_wrongHead_53 rfl (lv_at hl 4 rfl) ?_
        refine lv_iload_n hx hb dX11_wrongHead_54 rfl (lv_at hl 2 rfl) ?_
        refine lv_bipush (v := 24) hx hb dX11_wrongHead_55 (by decide) ?_
        refine lv_iadd hx hb dX11_wrongHead_57 ?_
        refine g_topi (y := nI (30 * q4 + 14)) ((nI_add _ 24).trans (up_e (by omega))) ?_
        refine g_calli (wr := []) (va_runV (As := [.int (nI (30 * q4 + 14))]) (rest := []) ⟨hx, hb, hml, hown, hts⟩ (m_one l dC dI H.size h qa x0 x2 x3 x4 x13 x14 x15 x16 x17 x18 x19 x20 x21 x22 x23 x24 x26 x27 x28 cB ft (30 * q4 + 14) (by omega)) (cwV 1 hts (gG_V kw_431 kw_432 kw_433 kw_5 kw_434) rfl rfl rfl (by decide +kernel) ⟨Nat.le_of_ble_eq_true rfl, Nat.le_of_ble_eq_true rfl⟩) (g_preV (C := RX11) (T := TX11) (N := 53) hP hD hK hS hA hN hZ (q0 := 0) rfl rfl [0, 1] (by decide) rfl [0] rfl) rfl rfl hl.1 rfl (lv_room (Nat.le_of_ble_eq_true rfl)) dX11_wrongHead_58 ⟨Nat.le_of_ble_eq_true rfl, Nat.le_of_ble_eq_true rfl⟩) hP hD hK hS hA [0, 1] [] rfl rfl (by decide) (by decide) (fun r_58 w ty1 H locs hw_58 hP hD _ hS => ?_)
        rcases hw_58 with ⟨hu, hr_58⟩
        cases hu
        have hP : va_P (dC, dI) vwCl [(h, .inr (10, mdF qa x0 x2 x3 x4 x13 x14 x15 x16 x17 x18 x19 x20 x21 x22 x23 x24 x26 x27 x28)), (qa 1, .inl (cB, 9000, .inl ft))] H := hP
        have hD : va_D A [(h, .inr (10, mdF qa x0 x2 x3 x4 x13 x14 x15 x16 x17 x18 x19 x20 x21 x22 x23 x24 x26 x27 x28)), (qa 1, .inl (cB, 9000, .inl ft))] := hD
        refine g_topi (y := nI (by8 ft (30 * q4 + 14))) hr_58 ?_
        refine lv_bipush (v := 15) hx hb dX11_wrongHead_61 (by decide) ?_
        refine lv_icmp_le (tgt := 71) hx hb dX11_wrongHead_63 (by decide) (fun c_63 => ?_) (fun c_63 => ?_)
        · refine lv_aload_n hx hb dX11_wrongHead_71 rfl (lv_at hl 4 rfl) ?_
          refine lv_iload_n hx hb dX11_wrongHead_72 rfl (lv_at hl 2 rfl) ?_
          refine lv_bipush (v := 25) hx hb dX11_wrongHead_73 (by decide) ?_
          refine lv_iadd hx hb dX11_wrongHead_75 ?_
          refine g_topi (y := nI (30 * q4 + 15)) ((nI_add _ 25).trans (up_e (by omega))) ?_
          refine g_calli (wr := []) (va_runV (As := [.int (nI (30 * q4 + 15))]) (rest := []) ⟨hx, hb, hml, hown, hts⟩ (m_one l dC dI H.size h qa x0 x2 x3 x4 x13 x14 x15 x16 x17 x18 x19 x20 x21 x22 x23 x24 x26 x27 x28 cB ft (30 * q4 + 15) (by omega)) (cwV 1 hts (gG_V kw_431 kw_432 kw_433 kw_5 kw_434) rfl rfl rfl (by decide +kernel) ⟨Nat.le_of_ble_eq_true rfl, Nat.le_of_ble_eq_true rfl⟩) (g_preV (C := RX11) (T := TX11) (N := 53) hP hD hK hS hA hN hZ (q0 := 0) rfl rfl [0, 1] (by decide) rfl [0] rfl) rfl rfl hl.1 rfl (lv_room (Nat.le_of_ble_eq_true rfl)) dX11_wrongHead_76 ⟨Nat.le_of_ble_eq_true rfl, Nat.le_of_ble_eq_true rfl⟩) hP hD hK hS hA [0, 1] [] rfl rfl (by decide) (by decide) (fun r_76 w ty1 H locs hw_76 hP hD _ hS => ?_)
          rcases hw_76 with ⟨hu, hr_76⟩
          cases hu
          have hP : va_P (dC, dI) vwCl [(h, .inr (10, mdF qa x0 x2 x3 x4 x13 x14 x15 x16 x17 x18 x19 x20 x21 x22 x23 x24 x26 x27 x28)), (qa 1, .inl (cB, 9000, .inl ft))] H := hP
          have hD : va_D A [(h, .inr (10, mdF qa x0 x2 x3 x4 x13 x14 x15 x16 x17 x18 x19 x20 x21 x22 x23 x24 x26 x27 x28)), (qa 1, .inl (cB, 9000, .inl ft))] := hD
          refine g_topi (y := nI (by8 ft (30 * q4 + 15))) hr_76 ?_
          refine lv_bipush (v := 64) hx hb dX11_wrongHead_79 (by decide) ?_
          refine lv_icmp_le (tgt := 89) hx hb dX11_wrongHead_81 (by decide) (fun c_81 => ?_) (fun c_81 => ?_)
          · refine lv_aload_n hx hb dX11_wrongHead_89 rfl (lv_at hl 4 rfl) ?_
            refine lv_iload_n hx hb dX11_wrongHead_90 rfl (lv_at hl 2 rfl) ?_
            refine lv_bipush (v := 28) hx hb dX11_wrongHead_91 (by decide) ?_
            refine lv_iadd hx hb dX11_wrongHead_93 ?_
            refine g_topi (y := nI (30 * q4 + 18)) ((nI_add _ 28).trans (up_e (by omega))) ?_
            refine g_calli (wr := []) (va_runV (As := [.int (nI (30 * q4 + 18))]) (rest := []) ⟨hx, hb, hml, hown, hts⟩ (m_two l dC dI H.size h qa x0 x2 x3 x4 x13 x14 x15 x16 x17 x18 x19 x20 x21 x22 x23 x24 x26 x27 x28 cB ft (30 * q4 + 18) (by omega)) (cwV 1 hts (gG_V kw_439 kw_440 kw_441 kw_5 kw_442) rfl rfl rfl (by decide +kernel) ⟨Nat.le_of_ble_eq_true rfl, Nat.le_of_ble_eq_true rfl⟩) (g_preV (C := RX11) (T := TX11) (N := 53) hP hD hK hS hA hN hZ (q0 := 0) rfl rfl [0, 1] (by decide) rfl [0] rfl) rfl rfl hl.1 rfl (lv_room (Nat.le_of_ble_eq_true rfl)) dX11_wrongHead_94 ⟨Nat.le_of_ble_eq_true rfl, Nat.le_of_ble_eq_true rfl⟩) hP hD hK hS hA [0, 1] [] rfl rfl (by decide) (by decide) (fun r_94 w ty1 H locs hw_94 hP hD _ hS => ?_)
            rcases hw_94 with ⟨hu, hr_94⟩
            cases hu
            have hP : va_P (dC, dI) vwCl [(h, .inr (10, mdF qa x0 x2 x3 x4 x13 x14 x15 x16 x17 x18 x19 x20 x21 x22 x23 x24 x26 x27 x28)), (qa 1, .inl (cB, 9000, .inl ft))] H := hP
            have hD : va_D A [(h, .inr (10, mdF qa x0 x2 x3 x4 x13 x14 x15 x16 x17 x18 x19 x20 x21 x22 x23 x24 x26 x27 x28)), (qa 1, .inl (cB, 9000, .inl ft))] := hD
            refine g_topi (y := nI (tw2 ft (30 * q4 + 18))) hr_94 ?_
            refine lv_istore (lv' := [(5, .int (nI (tw2 ft (30 * q4 + 18)))), (1, .int tv_31), (4, .int (nI (tw2 ft (30 * q4 + 12)))), (3, .int (nI (30 * q4 - 10))), (2, .int (nI q4)), (0, .ref h)]) hx hb dX11_wrongHead_97 hl (by decide) rfl (fun ls hl => ?_)
            refine lv_aload_n hx hb dX11_wrongHead_99 rfl (lv_at hl 5 rfl) ?_
            refine lv_iload_n hx hb dX11_wrongHead_100 rfl (lv_at hl 3 rfl) ?_
            refine lv_bipush (v := 26) hx hb dX11_wrongHead_101 (by decide) ?_
            refine lv_iadd hx hb dX11_wrongHead_103 ?_
            refine g_topi (y := nI (30 * q4 + 16)) ((nI_add _ 26).trans (up_e (by omega))) ?_
            refine g_calli (wr := []) (va_runV (As := [.int (nI (30 * q4 + 16))]) (rest := []) ⟨hx, hb, hml, hown, hts⟩ (m_two l dC dI H.size h qa x0 x2 x3 x4 x13 x14 x15 x16 x17 x18 x19 x20 x21 x22 x23 x24 x26 x27 x28 cB ft (30 * q4 + 16) (by omega)) (cwV 1 hts (gG_V kw_439 kw_440 kw_441 kw_5 kw_442) rfl rfl rfl (by decide +kernel) ⟨Nat.le_of_ble_eq_true rfl, Nat.le_of_ble_eq_true rfl⟩) (g_preV (C := RX11) (T := TX11) (N := 53) hP hD hK hS hA hN hZ (q0 := 0) rfl rfl [0, 1] (by decide) rfl [0] rfl) rfl rfl hl.1 rfl (lv_room (Nat.le_of_ble_eq_true rfl)) dX11_wrongHead_104 ⟨Nat.le_of_ble_eq_true rfl, Nat.le_of_ble_eq_true rfl⟩) hP hD hK hS hA [0, 1] [] rfl rfl (by decide) (by decide) (fun r_104 w ty1 H locs hw_104 hP hD _ hS => ?_)
            rcases hw_104 with ⟨hu, hr_104⟩
            cases hu
            have hP : va_P (dC, dI) vwCl [(h, .inr (10, mdF qa x0 x2 x3 x4 x13 x14 x15 x16 x17 x18 x19 x20 x21 x22 x23 x24 x26 x27 x28)), (qa 1, .inl (cB, 9000, .inl ft))] H := hP
            have hD : va_D A [(h, .inr (10, mdF qa x0 x2 x3 x4 x13 x14 x15 x16 x17 x18 x19 x20 x21 x22 x23 x24 x26 x27 x28)), (qa 1, .inl (cB, 9000, .inl ft))] := hD
            refine g_topi (y := nI (tw2 ft (30 * q4 + 16))) hr_104 ?_
            refine lv_iload hx hb dX11_wrongHead_107 (lv_at hl 0 rfl) ?_
            refine lv_iconst (v := 2) hx hb dX11_wrongHead_109 (by decide) ?_
            refine lv_icmp_le (tgt := 118) hx hb dX11_wrongHead_110 (by decide) (fun c_110 => ?_) (fun c_110 => ?_)
            · refine lv_iconst (v := 0) hx hb dX11_wrongHead_118 (by decide) ?_
              refine lv_iadd hx hb dX11_wrongHead_119 ?_
              refine lv_topi (fun tv_119 etv_119 => ?_)
              refine lv_iload hx hb dX11_wrongHead_120 (lv_at hl 2 rfl) ?_
              refine lv_icmp_le (tgt := 130) hx hb dX11_wrongHead_122 (by decide) (fun c_122 => ?_) (fun c_122 => ?_)
              · refine lv_iinc (v := nI (q4 + 1)) (lv' := [(2, .int (nI (q4 + 1))), (5, .int (nI (tw2 ft (30 * q4 + 18)))), (1, .int tv_31), (4, .int (nI (tw2 ft (30 * q4 + 12)))), (3, .int (nI (30 * q4 - 10))), (0, .ref h)]) hx hb dX11_wrongHead_130 hl (k := 4) rfl (nI_1 q4) (by decide) rfl (fun ls hl => ?_)
                refine lv_goto (tgt := 4) hx hb dX11_wrongHead_133 (by decide) ?_
                exact ih4 (q4 + 1) tv_31 (by omega) (by omega) (al1_s hwq (nI_nlt2' c_38 (by have := tw2_lt ft (30 * q4 + 12); omega))) (by omega) _ _ (hP.sub [0, 1] rfl) (hD.sub [0, 1] (by decide) rfl) hS _ (lv_sub hl [0, 2, 5] rfl)
              refine lv_iload_n hx hb dX11_wrongHead_125 rfl (lv_at hl 3 rfl) ?_
              refine lv_bipush (v := 26) hx hb dX11_wrongHead_126 (by decide) ?_
              refine lv_iadd hx hb dX11_wrongHead_128 ?_
              refine g_topi (y := nI (30 * q4 + 16)) ((nI_add _ 26).trans (up_e (by omega))) ?_
              have hP9 := hP
              have hD9 := hD
              have hK9 := hK.sub (tys' := []) [] rfl
              exact W.iret (v := nI (30 * q4 + 16)) hx hb hr (fun t ht hW => ⟨⟨nI (30 * q4 + 16), _, rfl, (Or.inr ⟨rfl, (nI_ne1 (by omega))⟩), by rw [ht]; exact hP9, va_K.moved hW.alike hK9, hD9⟩, hS.F ht⟩) hS.2.2 dX11_wrongHead_129
            refine lv_iload hx hb dX11_wrongHead_113 (lv_at hl 0 rfl) ?_
            refine lv_goto (tgt := 119) hx hb dX11_wrongHead_115 (by decide) ?_
            refine lv_iadd hx hb dX11_wrongHead_119 ?_
            refine lv_topi (fun tv_119 etv_119 => ?_)
            refine lv_iload hx hb dX11_wrongHead_120 (lv_at hl 2 rfl) ?_
            refine lv_icmp_le (tgt := 130) hx hb dX11_wrongHead_122 (by decide) (fun c_122 => ?_) (fun c_122 => ?_)
            · refine lv_iinc (v := nI (q4 + 1)) (lv' := [(2, .int (nI (q4 + 1))), (5, .int (nI (tw2 ft (30 * q4 + 18)))), (1, .int tv_31), (4, .int (nI (tw2 ft (30 * q4 + 12)))), (3, .int (nI (30 * q4 - 10))), (0, .ref h)]) hx hb dX11_wrongHead_130 hl (k := 4) rfl (nI_1 q4) (by decide) rfl (fun ls hl => ?_)
              refine lv_goto (tgt := 4) hx hb dX11_wrongHead_133 (by decide) ?_
              exact ih4 (q4 + 1) tv_31 (by omega) (by omega) (al1_s hwq (nI_nlt2' c_38 (by have := tw2_lt ft (30 * q4 + 12); omega))) (by omega) _ _ (hP.sub [0, 1] rfl) (hD.sub [0, 1] (by decide) rfl) hS _ (lv_sub hl [0, 2, 5] rfl)
            refine lv_iload_n hx hb dX11_wrongHead_125 rfl (lv_at hl 3 rfl) ?_
            refine lv_bipush (v := 26) hx hb dX11_wrongHead_126 (by decide) ?_
            refine lv_iadd hx hb dX11_wrongHead_128 ?_
            refine g_topi (y := nI (30 * q4 + 16)) ((nI_add _ 26).trans (up_e (by omega))) ?_
            have hP9 := hP
            have hD9 := hD
            have hK9 := hK.sub (tys' := []) [] rfl
            exact W.iret (v := nI (30 * q4 + 16)) hx hb hr (fun t ht hW => ⟨⟨nI (30 * q4 + 16), _, rfl, (Or.inr ⟨rfl, (nI_ne1 (by omega))⟩), by rw [ht]; exact hP9, va_K.moved hW.alike hK9, hD9⟩, hS.F ht⟩) hS.2.2 dX11_wrongHead_129
          refine lv_iload_n hx hb dX11_wrongHead_84 rfl (lv_at hl 2 rfl) ?_
          refine lv_bipush (v := 25) hx hb dX11_wrongHead_85 (by decide) ?_
          refine lv_iadd hx hb dX11_wrongHead_87 ?_
          refine g_topi (y := nI (30 * q4 + 15)) ((nI_add _ 25).trans (up_e (by omega))) ?_
          have hP9 := hP
          have hD9 := hD
          have hK9 := hK.sub (tys' := []) [] rfl
          exact W.iret (v := nI (30 * q4 + 15)) hx hb hr (fun t ht hW => ⟨⟨nI (30 * q4 + 15), _, rfl, (Or.inr ⟨rfl, (nI_ne1 (by omega))⟩), by rw [ht]; exact hP9, va_K.moved hW.alike hK9, hD9⟩, hS.F ht⟩) hS.2.2 dX11_wrongHead_88
        refine lv_iload_n hx hb dX11_wrongHead_66 rfl (lv_at hl 2 rfl) ?_
        refine lv_bipush (v := 24) hx hb dX11_wrongHead_67 (by decide) ?_
        refine lv_iadd hx hb dX11_wrongHead_69 ?_
        refine g_topi (y := nI (30 * q4 + 14)) ((nI_add _ 24).trans (up_e (by omega))) ?_
        have hP9 := hP
        have hD9 := hD
        have hK9 := hK.sub (tys' := []) [] rfl
        exact W.iret (v := nI (30 * q4 + 14)) hx hb hr (fun t ht hW => ⟨⟨nI (30 * q4 + 14), _, rfl, (Or.inr ⟨rfl, (nI_ne1 (by omega))⟩), by rw [ht]; exact hP9, va_K.moved hW.alike hK9, hD9⟩, hS.F ht⟩) hS.2.2 dX11_wrongHead_70
      refine lv_iload_n hx hb dX11_wrongHead_48 rfl (lv_at hl 2 rfl) ?_
      refine lv_bipush (v := 22) hx hb dX11_wrongHead_49 (by decide) ?_
      refine lv_iadd hx hb dX11_wrongHead_51 ?_
      refine g_topi (y := nI (30 * q4 + 12)) ((nI_add _ 22).trans (up_e (by omega))) ?_
      have hP9 := hP
      have hD9 := hD
      have hK9 := hK.sub (tys' := []) [] rfl
      exact W.iret (v := nI (30 * q4 + 12)) hx hb hr (fun t ht hW => ⟨⟨nI (30 * q4 + 12), _, rfl, (Or.inr ⟨rfl, (nI_ne1 (by omega))⟩), by rw [ht]; exact hP9, va_K.moved hW.alike hK9, hD9⟩, hS.F ht⟩) hS.2.2 dX11_wrongHead_52
  exact LP4 _ 1 0 (by decide) (by decide) (fun ss h1 h2 => absurd h2 (by omega)) (Nat.lt_succ_self _) _ _ (hP.sub [0, 1] rfl) (hD.sub [0, 1] (by decide) rfl) hS _ (lv_sub hl [0, 1, 2] rfl)

set_option maxHeartbeats 400000 in
set_option maxRecDepth 100000 in
theorem m_patTape (l : Launch) (dC : Nat → ClassId) (dI : Nat → Nat → Nat) (sz : Nat) (h : Nat) (qa : Nat → Nat) (x0 x2 x3 x4 x13 x14 x15 x16 x17 x18 x19 x20 x21 x22 x23 x24 x26 x27 x28 : Int32) (cB : ClassId) (ft : Nat → Int32) : Met l yX11_patternsOnTape (wsG (.code yX11_patternsOnTape cX11_patternsOnTape 3 (some .int))) ({ frames := 1, cells := 0, slots := 0, locals := 21 }) (va_Pc [.ref h] (gP (dC, dI) [(cB, .byte)] [(h, .inr (10, mdF qa x0 x2 x3 x4 x13 x14 x15 x16 x17 x18 x19 x20 x21 x22 x23 x24 x26 x27 x28)), (qa 1, .inl (cB, 9000, .inl ft))] sz)) (va_Qi (fun (r : Int32) (u : va_W × gT) => ∃ (np : Nat), u = ([(h, .inr (10, mdF qa x0 x2 x3 x4 x13 x14 x15 x16 x17 x18 x19 x20 x21 x22 x23 x24 x26 x27 x28)), (qa 1, .inl (cB, 9000, .inl ft))], []) ∧ r = nI np ∧ np ≤ 256) (gB (dC, dI) (va_A [(h, .inr (10, mdF qa x0 x2 x3 x4 x13 x14 x15 x16 x17 x18 x19 x20 x21 x22 x23 x24 x26 x27 x28)), (qa 1, .inl (cB, 9000, .inl ft))] sz)) (va_A [(h, .inr (10, mdF qa x0 x2 x3 x4 x13 x14 x15 x16 x17 x18 x19 x20 x21 x22 x23 x24 x26 x27 x28)), (qa 1, .inl (cB, 9000, .inl ft))] sz)) 0 0 (va_A [(h, .inr (10, mdF qa x0 x2 x3 x4 x13 x14 x15 x16 x17 x18 x19 x20 x21 x22 x23 x24 x26 x27 x28)), (qa 1, .inl (cB, 9000, .inl ft))] sz) := by
  refine Met.ofW (cc := cX11_patternsOnTape) (maxL := 3) (ret := (some .int)) (by decide) rfl ?_
  intro p e s m args below meth c s₁ B hml hv
  obtain ⟨rfl, hsz, hP, hK, hD0, hN, hZ⟩ := hv
  have hx := B.exec
  have hb := B.bytes
  have hr := B.returns
  have hts := atoms_spec (ws := (wsG (.code yX11_patternsOnTape cX11_patternsOnTape 3 (some .int)))) B.pre
  have hown : s.vm.findClass RX11 = some m.cls := findClass_of_methodNamed B.named
  have hlocks := B.notSynchronized
  subst hsz
  have hD := hD0.self (sz := s.heap.size)
  generalize hAe : va_A [(h, .inr (10, mdF qa x0 x2 x3 x4 x13 x14 x15 x16 x17 x18 x19 x20 x21 x22 x23 x24 x26 x27 x28)), (qa 1, .inl (cB, 9000, .inl ft))] s.heap.size = A at hD hZ ⊢
  have hA : ∀ q : Nat, s.heap.size ≤ q → A q := fun q h => by rw [← hAe]; exact Or.inr h
  have hl := lv_entry ([.ref h]) (n := 3) (Nat.le_of_ble_eq_true rfl)
  rw [lg_entry_eq]
  generalize (lg_sl ([.ref h]) ++ List.replicate (3 - (lg_sl ([.ref h])).length) Slot.unset).toArray = ls at hl ⊢
  have hl : lv_has ls 3 [(0, .ref h)] := hl
  refine g_start (A := A) hP (fun H locs hP hS => ?_)
  refine lv_iconst (v := 0) hx hb dX11_patternsOnTape_0 (by decide) ?_
  refine lv_istore_n (lv' := [(1, .int 0), (0, .ref h)]) hx hb dX11_patternsOnTape_1 rfl hl (by decide) rfl (fun ls hl => ?_)
  refine lv_iconst (v := 0) hx hb dX11_patternsOnTape_2 (by decide) ?_
  refine lv_istore_n (lv' := [(2, .int 0), (1, .int 0), (0, .ref h)]) hx hb dX11_patternsOnTape_3 rfl hl (by decide) rfl (fun ls hl => ?_)
  have LP4 : ∀ (fu4 : Nat) (q4 : Nat) (gn : Nat) (hq4 : q4 ≤ 256) (hgn : gn ≤ 256) (hm4 : 256 - q4 < fu4) (H : Heap) (locs : List Loc), va_P (dC, dI) vwCl [(h, .inr (10, mdF qa x0 x2 x3 x4 x13 x14 x15 x16 x17 x18 x19 x20 x21 x22 x23 x24 x26 x27 x28)), (qa 1, .inl (cB, 9000, .inl ft))] H → va_D A [(h, .inr (10, mdF qa x0 x2 x3 x4 x13 x14 x15 x16 x17 x18 x19 x20 x21 x22 x23 x24 x26 x27 x28)), (qa 1, .inl (cB, 9000, .inl ft))] → va_S A s.heap H locs → ∀ ls : Array Slot, lv_has ls 3 [(2, .int (nI q4)), (1, .int (nI gn)), (0, .ref h)] → W p l e ({ frames := 1, cells := 0, slots := 0, locals := 21 }) s m ([.ref h] : List Value).toArray below meth c H locs (0) (0) (MQ below (va_Qi (fun (r : Int32) (u : va_W × gT) => ∃ (np : Nat), u = ([(h, .inr (10, mdF qa x0 x2 x3 x4 x13 x14 x15 x16 x17 x18 x19 x20 x21 x22 x23 x24 x26 x27 x28)), (qa 1, .inl (cB, 9000, .inl ft))], []) ∧ r = nI np ∧ np ≤ 256) (gB (dC, dI) A) A) ([.ref h] : List Value).toArray s 0 0 A) (F0 m 4 ls []) := by
    intro fu4
    induction fu4 with
    | zero => intro q4 gn hq4 hgn hm4; exact absurd hm4 (Nat.not_lt_zero _)
    | succ fu4 ih4 =>
      intro q4 gn hq4 hgn hm4 H locs hP hD hS ls hl
      refine lv_iload_n hx hb dX11_patternsOnTape_4 rfl (lv_at hl 0 rfl) ?_
      refine lv_aload_n hx hb dX11_patternsOnTape_5 rfl (lv_at hl 2 rfl) ?_
      refine lv_sipush (v := 950) hx hb dX11_patternsOnTape_6 (by decide) ?_
      refine g_calli (wr := []) (va_runV (As := [.int 950]) (rest := [.int (nI q4)]) ⟨hx, hb, hml, hown, hts⟩ (m_one l dC dI H.size h qa x0 x2 x3 x4 x13 x14 x15 x16 x17 x18 x19 x20 x21 x22 x23 x24 x26 x27 x28 cB ft 950 (by decide)) (cwV 1 hts (gG_V kw_431 kw_432 kw_433 kw_5 kw_434) rfl rfl rfl (by decide +kernel) ⟨Nat.le_of_ble_eq_true rfl, Nat.le_of_ble_eq_true rfl⟩) (g_preV (C := RX11) (T := TX11) (N := 53) hP hD hK hS hA hN hZ (q0 := 0) rfl rfl [0, 1] (by decide) rfl [0] rfl) rfl rfl hl.1 rfl (lv_room (Nat.le_of_ble_eq_true rfl)) dX11_patternsOnTape_9 ⟨Nat.le_of_ble_eq_true rfl, Nat.le_of_ble_eq_true rfl⟩) hP hD hK hS hA [0, 1] [] rfl rfl (by decide) (by decide) (fun r_9 w ty1 H locs hw_9 hP hD _ hS => ?_)
      rcases hw_9 with ⟨hu, hr_9⟩
      cases hu
      have hP : va_P (dC, dI) vwCl [(h, .inr (10, mdF qa x0 x2 x3 x4 x13 x14 x15 x16 x17 x18 x19 x20 x21 x22 x23 x24 x26 x27 x28)), (qa 1, .inl (cB, 9000, .inl ft))] H := hP
      have hD : va_D A [(h, .inr (10, mdF qa x0 x2 x3 x4 x13 x14 x15 x16 x17 x18 x19 x20 x21 x22 x23 x24 x26 x27 x28)), (qa 1, .inl (cB, 9000, .inl ft))] := hD
      refine g_topi (y := nI (by8 ft 950)) hr_9 ?_
      refine lv_icmp_ge (tgt := 37) hx hb dX11_patternsOnTape_12 (by decide) (fun c_12 => ?_) (fun c_12 => ?_)
      · refine lv_iload_n hx hb dX11_patternsOnTape_37 rfl (lv_at hl 1 rfl) ?_
        have hP9 := hP
        have hD9 := hD
        have hK9 := hK.sub (tys' := []) [] rfl
        exact W.iret (v := nI gn) hx hb hr (fun t ht hW => ⟨⟨nI gn, _, rfl, ⟨gn, rfl, rfl, hgn⟩, by rw [ht]; exact hP9, va_K.moved hW.alike hK9, hD9⟩, hS.F ht⟩) hS.2.2 dX11_patternsOnTape_38
      refine lv_iload_n hx hb dX11_patternsOnTape_15 rfl (lv_at hl 1 rfl) ?_
      refine lv_aload_n hx hb dX11_patternsOnTape_16 rfl (lv_at hl 2 rfl) ?_
      refine lv_sipush (v := 952) hx hb dX11_patternsOnTape_17 (by decide) ?_
      refine lv_iload_n hx hb dX11_patternsOnTape_20 rfl (lv_at hl 0 rfl) ?_
      refine lv_iadd hx hb dX11_patternsOnTape_21 ?_
      refine g_topi (y := nI (952 + q4)) (nI_add 952 _) ?_
      refine g_calli (wr := []) (va_runV (As := [.int (nI (952 + q4))]) (rest := [.int (nI gn)]) ⟨hx, hb, hml, hown, hts⟩ (m_one l dC dI H.size h qa x0 x2 x3 x4 x13 x14 x15 x16 x17 x18 x19 x20 x21 x22 x23 x24 x26 x27 x28 cB ft (952 + q4) (by omega)) (cwV 1 hts (gG_V kw_431 kw_432 kw_433 kw_5 kw_434) rfl rfl rfl (by decide +kernel) ⟨Nat.le_of_ble_eq_true rfl, Nat.le_of_ble_eq_true rfl⟩) (g_preV (C := RX11) (T := TX11) (N := 53) hP hD hK hS hA hN hZ (q0 := 0) rfl rfl [0, 1] (by decide) rfl [0] rfl) rfl rfl hl.1 rfl (lv_room (Nat.le_of_ble_eq_true rfl)) dX11_patternsOnTape_22 ⟨Nat.le_of_ble_eq_true rfl, Nat.le_of_ble_eq_true rfl⟩) hP hD hK hS hA [0, 1] [] rfl rfl (by decide) (by decide) (fun r_22 w ty1 H locs hw_22 hP hD _ hS => ?_)
      rcases hw_22 with ⟨hu, hr_22⟩
      cases hu
      have hP : va_P (dC, dI) vwCl [(h, .inr (10, mdF qa x0 x2 x3 x4 x13 x14 x15 x16 x17 x18 x19 x20 x21 x22 x23 x24 x26 x27 x28)), (qa 1, .inl (cB, 9000, .inl ft))] H := hP
      have hD : va_D A [(h, .inr (10, mdF qa x0 x2 x3 x4 x13 x14 x15 x16 x17 x18 x19 x20 x21 x22 x23 x24 x26 x27 x28)), (qa 1, .inl (cB, 9000, .inl ft))] := hD
      refine g_topi (y := nI (by8 ft (952 + q4))) hr_22 ?_
      refine lv_iconst (v := 1) hx hb dX11_patternsOnTape_25 (by decide) ?_
      refine lv_iadd hx hb dX11_patternsOnTape_26 ?_
      refine g_topi (y := nI (by8 ft (952 + q4) + 1)) (nI_1 _) ?_
      have hb8 := by8_lt ft (952 + q4)
      refine va_mmax hx hb (by rw [hml]; exact hl.1.symm) hown (hts (.methodLink RX11 129 Lib.Math.max.name) (List.mem_cons_of_mem _ kw_212)) (hts (.static Lib.Math.max.name) (List.mem_cons_of_mem _ kw_102)) (hts (.initialized "java/lang/Math") (List.mem_cons_of_mem _ kw_103)) (hts (.code Lib.Math.max.name Lib.Math.max.code 2 (some .int)) (List.mem_cons_of_mem _ kw_104)) (Nat.le_of_ble_eq_true rfl) (Nat.le_of_ble_eq_true rfl) (Nat.le_of_ble_eq_true rfl) (Nat.le_of_ble_eq_true rfl) dX11_patternsOnTape_27 ?_
      refine g_topi (y := nI (max gn (by8 ft (952 + q4) + 1))) (mx_nI (by omega) (by omega)) ?_
      refine lv_istore_n (lv' := [(1, .int (nI (max gn (by8 ft (952 + q4) + 1)))), (2, .int (nI q4)), (0, .ref h)]) hx hb dX11_patternsOnTape_30 rfl hl (by decide) rfl (fun ls hl => ?_)
      refine lv_iinc (v := nI (q4 + 1)) (lv' := [(2, .int (nI (q4 + 1))), (1, .int (nI (max gn (by8 ft (952 + q4) + 1)))), (0, .ref h)]) hx hb dX11_patternsOnTape_31 hl (k := 1) rfl (nI_1 q4) (by decide) rfl (fun ls hl => ?_)
      refine lv_goto (tgt := 4) hx hb dX11_patternsOnTape_34 (by decide) ?_
      exact ih4 (q4 + 1) (max gn (by8 ft (952 + q4) + 1)) (by have := nI_nle' c_12 (by omega); have := by8_lt ft 950; omega) (by omega) (by have := nI_nle' c_12 (by omega); have := by8_lt ft 950; omega) _ _ (hP.sub [0, 1] rfl) (hD.sub [0, 1] (by decide) rfl) hS _ (lv_sub hl [0, 1, 2] rfl)
  exact LP4 _ 0 0 (Nat.zero_le _) (Nat.zero_le _) (Nat.lt_succ_self _) _ _ (hP.sub [0, 1] rfl) (hD.sub [0, 1] (by decide) rfl) hS _ (lv_sub hl [0, 1, 2] rfl)

set_option maxHeartbeats 400000 in
set_option maxRecDepth 100000 in
theorem m_cellAtM (l : Launch) (dC : Nat → ClassId) (dI : Nat → Nat → Nat) (sz : Nat) (h : Nat) (qa : Nat → Nat) (x0 x2 x3 x4 x13 x14 x15 x16 x17 x18 x19 x20 x21 x22 x23 x24 x26 x27 x28 : Int32) (cB : ClassId) (ft : Nat → Int32) (kx : Nat) (hkx : kx + 3 < 9000) : Met l yX11_cellAt (wsG (.code yX11_cellAt cX11_cellAt 4 (some .int))) ({ frames := 1, cells := 0, slots := 0, locals := 21 }) (va_Pc [.ref h, .int (nI kx)] (gP (dC, dI) [(cB, .byte)] [(h, .inr (10, mdF qa x0 x2 x3 x4 x13 x14 x15 x16 x17 x18 x19 x20 x21 x22 x23 x24 x26 x27 x28)), (qa 1, .inl (cB, 9000, .inl ft))] sz)) (va_Qi (fun (r : Int32) (u : va_W × gT) => u = ([(h, .inr (10, mdF qa x0 x2 x3 x4 x13 x14 x15 x16 x17 x18 x19 x20 x21 x22 x23 x24 x26 x27 x28)), (qa 1, .inl (cB, 9000, .inl ft))], [])) (gB (dC, dI) (va_A [(h, .inr (10, mdF qa x0 x2 x3 x4 x13 x14 x15 x16 x17 x18 x19 x20 x21 x22 x23 x24 x26 x27 x28)), (qa 1, .inl (cB, 9000, .inl ft))] sz)) (va_A [(h, .inr (10, mdF qa x0 x2 x3 x4 x13 x14 x15 x16 x17 x18 x19 x20 x21 x22 x23 x24 x26 x27 x28)), (qa 1, .inl (cB, 9000, .inl ft))] sz)) 0 0 (va_A [(h, .inr (10, mdF qa x0 x2 x3 x4 x13 x14 x15 x16 x17 x18 x19 x20 x21 x22 x23 x24 x26 x27 x28)), (qa 1, .inl (cB, 9000, .inl ft))] sz) := by
  refine Met.ofW (cc := cX11_cellAt) (maxL := 4) (ret := (some .int)) (by decide) rfl ?_
  intro p e s m args below meth c s₁ B hml hv
  obtain ⟨rfl, hsz, hP, hK, hD0, hN, hZ⟩ := hv
  have hx := B.exec
  have hb := B.bytes
  have hr := B.returns
  have hts := atoms_spec (ws := (wsG (.code yX11_cellAt cX11_cellAt 4 (some .int)))) B.pre
  have hown : s.vm.findClass RX11 = some m.cls := findClass_of_methodNamed B.named
  have hlocks := B.notSynchronized
  subst hsz
  have hD := hD0.self (sz := s.heap.size)
  generalize hAe : va_A [(h, .inr (10, mdF qa x0 x2 x3 x4 x13 x14 x15 x16 x17 x18 x19 x20 x21 x22 x23 x24 x26 x27 x28)), (qa 1, .inl (cB, 9000, .inl ft))] s.heap.size = A at hD hZ ⊢
  have hA : ∀ q : Nat, s.heap.size ≤ q → A q := fun q h => by rw [← hAe]; exact Or.inr h
  have hl := lv_entry ([.ref h, .int (nI kx)]) (n := 4) (Nat.le_of_ble_eq_true rfl)
  rw [lg_entry_eq]
  generalize (lg_sl ([.ref h, .int (nI kx)]) ++ List.replicate (4 - (lg_sl ([.ref h, .int (nI kx)])).length) Slot.unset).toArray = ls at hl ⊢
  have hl : lv_has ls 4 [(0, .ref h), (1, .int (nI kx))] := hl
  refine g_start (A := A) hP (fun H locs hP hS => ?_)
  refine lv_aload_n hx hb dX11_cellAt_0 rfl (lv_at hl 0 rfl) ?_
  refine lv_iload_n hx hb dX11_cellAt_1 rfl (lv_at hl 1 rfl) ?_
  refine g_calli (wr := []) (va_runV (As := [.int (nI kx)]) (rest := []) ⟨hx, hb, hml, hown, hts⟩ (m_one l dC dI H.size h qa x0 x2 x3 x4 x13 x14 x15 x16 x17 x18 x19 x20 x21 x22 x23 x24 x26 x27 x28 cB ft kx (by omega)) (cwV 1 hts (gG_V kw_431 kw_432 kw_433 kw_5 kw_434) rfl rfl rfl (by decide +kernel) ⟨Nat.le_of_ble_eq_true rfl, Nat.le_of_ble_eq_true rfl⟩) (g_preV (C := RX11) (T := TX11) (N := 53) hP hD hK hS hA hN hZ (q0 := 0) rfl rfl [0, 1] (by decide) rfl [0] rfl) rfl rfl hl.1 rfl (lv_room (Nat.le_of_ble_eq_true rfl)) dX11_cellAt_2 ⟨Nat.le_of_ble_eq_true rfl, Nat.le_of_ble_eq_true rfl⟩) hP hD hK hS hA [0, 1] [] rfl rfl (by decide) (by decide) (fun r_2 w ty1 H locs hw_2 hP hD _ hS => ?_)
  rcases hw_2 with ⟨hu, hr_2⟩
  cases hu
  have hP : va_P (dC, dI) vwCl [(h, .inr (10, mdF qa x0 x2 x3 x4 x13 x14 x15 x16 x17 x18 x19 x20 x21 x22 x23 x24 x26 x27 x28)), (qa 1, .inl (cB, 9000, .inl ft))] H := hP
  have hD : va_D A [(h, .inr (10, mdF qa x0 x2 x3 x4 x13 x14 x15 x16 x17 x18 x19 x20 x21 x22 x23 x24 x26 x27 x28)), (qa 1, .inl (cB, 9000, .inl ft))] := hD
  refine g_topi (y := nI (by8 ft kx)) hr_2 ?_
  refine lv_sipush (v := 240) hx hb dX11_cellAt_5 (by decide) ?_
  refine lv_iand hx hb dX11_cellAt_8 ?_
  refine lv_topi (fun tv_8 etv_8 => ?_)
  refine lv_aload_n hx hb dX11_cellAt_9 rfl (lv_at hl 0 rfl) ?_
  refine lv_iload_n hx hb dX11_cellAt_10 rfl (lv_at hl 1 rfl) ?_
  refine lv_iconst (v := 2) hx hb dX11_cellAt_11 (by decide) ?_
  refine lv_iadd hx hb dX11_cellAt_12 ?_
  refine g_topi (y := nI (kx + 2)) (nI_add _ 2) ?_
  refine g_calli (wr := []) (va_runV (As := [.int (nI (kx + 2))]) (rest := [.int tv_8]) ⟨hx, hb, hml, hown, hts⟩ (m_one l dC dI H.size h qa x0 x2 x3 x4 x13 x14 x15 x16 x17 x18 x19 x20 x21 x22 x23 x24 x26 x27 x28 cB ft (kx + 2) (by omega)) (cwV 1 hts (gG_V kw_431 kw_432 kw_433 kw_5 kw_434) rfl rfl rfl (by decide +kernel) ⟨Nat.le_of_ble_eq_true rfl, Nat.le_of_ble_eq_true rfl⟩) (g_preV (C := RX11) (T := TX11) (N := 53) hP hD hK hS hA hN hZ (q0 := 0) rfl rfl [0, 1] (by decide) rfl [0] rfl) rfl rfl hl.1 rfl (lv_room (Nat.le_of_ble_eq_true rfl)) dX11_cellAt_13 ⟨Nat.le_of_ble_eq_true rfl, Nat.le_of_ble_eq_true rfl⟩) hP hD hK hS hA [0, 1] [] rfl rfl (by decide) (by decide) (fun r_13 w ty1 H locs hw_13 hP hD _ hS => ?_)
  rcases hw_13 with ⟨hu, hr_13⟩
  cases hu
  have hP : va_P (dC, dI) vwCl [(h, .inr (10, mdF qa x0 x2 x3 x4 x13 x14 x15 x16 x17 x18 x19 x20 x21 x22 x23 x24 x26 x27 x28)), (qa 1, .inl (cB, 9000, .inl ft))] H := hP
  have hD : va_D A [(h, .inr (10, mdF qa x0 x2 x3 x4 x13 x14 x15 x16 x17 x18 x19 x20 x21 x22 x23 x24 x26 x27 x28)), (qa 1, .inl (cB, 9000, .inl ft))] := hD
  refine g_topi (y := nI (by8 ft (kx + 2))) hr_13 ?_
  refine lv_iconst (v := 4) hx hb dX11_cellAt_16 (by decide) ?_
  refine lv_ishr hx hb dX11_cellAt_17 ?_
  refine lv_topi (fun tv_17 etv_17 => ?_)
  refine lv_ior hx hb dX11_cellAt_18 ?_
  refine lv_topi (fun tv_18 etv_18 => ?_)
  refine lv_bipush (v := 31) hx hb dX11_cellAt_19 (by decide) ?_
  refine lv_iand hx hb dX11_cellAt_21 ?_
  refine lv_topi (fun tv_21 etv_21 => ?_)
  refine lv_istore_n (lv' := [(2, .int tv_21), (0, .ref h), (1, .int (nI kx))]) hx hb dX11_cellAt_22 rfl hl (by decide) rfl (fun ls hl => ?_)
  refine lv_sipush (v := 256) hx hb dX11_cellAt_23 (by decide) ?_
  refine lv_aload_n hx hb dX11_cellAt_26 rfl (lv_at hl 1 rfl) ?_
  refine lv_iload_n hx hb dX11_cellAt_27 rfl (lv_at hl 2 rfl) ?_
  refine g_calli (wr := []) (va_runV (As := [.int (nI kx)]) (rest := [.int 256]) ⟨hx, hb, hml, hown, hts⟩ (m_one l dC dI H.size h qa x0 x2 x3 x4 x13 x14 x15 x16 x17 x18 x19 x20 x21 x22 x23 x24 x26 x27 x28 cB ft kx (by omega)) (cwV 1 hts (gG_V kw_431 kw_432 kw_433 kw_5 kw_434) rfl rfl rfl (by decide +kernel) ⟨Nat.le_of_ble_eq_true rfl, Nat.le_of_ble_eq_true rfl⟩) (g_preV (C := RX11) (T := TX11) (N := 53) hP hD hK hS hA hN hZ (q0 := 0) rfl rfl [0, 1] (by decide) rfl [0] rfl) rfl rfl hl.1 rfl (lv_room (Nat.le_of_ble_eq_true rfl)) dX11_cellAt_28 ⟨Nat.le_of_ble_eq_true rfl, Nat.le_of_ble_eq_true rfl⟩) hP hD hK hS hA [0, 1] [] rfl rfl (by decide) (by decide) (fun r_28 w ty1 H locs hw_28 hP hD _ hS => ?_)
  rcases hw_28 with ⟨hu, hr_28⟩
  cases hu
  have hP : va_P (dC, dI) vwCl [(h, .inr (10, mdF qa x0 x2 x3 x4 x13 x14 x15 x16 x17 x18 x19 x20 x21 x22 x23 x24 x26 x27 x28)), (qa 1, .inl (cB, 9000, .inl ft))] H := hP
  have hD : va_D A [(h, .inr (10, mdF qa x0 x2 x3 x4 x13 x14 x15 x16 x17 x18 x19 x20 x21 x22 x23 x24 x26 x27 x28)), (qa 1, .inl (cB, 9000, .inl ft))] := hD
  refine g_topi (y := nI (by8 ft kx)) hr_28 ?_
  refine lv_bipush (v := 15) hx hb dX11_cellAt_31 (by decide) ?_
  refine lv_iand hx hb dX11_cellAt_33 ?_
  refine lv_topi (fun tv_33 etv_33 => ?_)
  refine lv_imul hx hb dX11_cellAt_34 ?_
  refine lv_topi (fun tv_34 etv_34 => ?_)
  refine lv_aload_n hx hb dX11_cellAt_35 rfl (lv_at hl 1 rfl) ?_
  refine lv_iload_n hx hb dX11_cellAt_36 rfl (lv_at hl 2 rfl) ?_
  refine lv_iconst (v := 1) hx hb dX11_cellAt_37 (by decide) ?_
  refine lv_iadd hx hb dX11_cellAt_38 ?_
  refine g_topi (y := nI (kx + 1)) (nI_add _ 1) ?_
  refine g_calli (wr := []) (va_runV (As := [.int (nI (kx + 1))]) (rest := [.int tv_34]) ⟨hx, hb, hml, hown, hts⟩ (m_one l dC dI H.size h qa x0 x2 x3 x4 x13 x14 x15 x16 x17 x18 x19 x20 x21 x22 x23 x24 x26 x27 x28 cB ft (kx + 1) (by omega)) (cwV 1 hts (gG_V kw_431 kw_432 kw_433 kw_5 kw_434) rfl rfl rfl (by decide +kernel) ⟨Nat.le_of_ble_eq_true rfl, Nat.le_of_ble_eq_true rfl⟩) (g_preV (C := RX11) (T := TX11) (N := 53) hP hD hK hS hA hN hZ (q0 := 0) rfl rfl [0, 1] (by decide) rfl [0] rfl) rfl rfl hl.1 rfl (lv_room (Nat.le_of_ble_eq_true rfl)) dX11_cellAt_39 ⟨Nat.le_of_ble_eq_true rfl, Nat.le_of_ble_eq_true rfl⟩) hP hD hK hS hA [0, 1] [] rfl rfl (by decide) (by decide) (fun r_39 w ty1 H locs hw_39 hP hD _ hS => ?_)
  rcases hw_39 with ⟨hu, hr_39⟩
  cases hu
  have hP : va_P (dC, dI) vwCl [(h, .inr (10, mdF qa x0 x2 x3 x4 x13 x14 x15 x16 x17 x18 x19 x20 x21 x22 x23 x24 x26 x27 x28)), (qa 1, .inl (cB, 9000, .inl ft))] H := hP
  have hD : va_D A [(h, .inr (10, mdF qa x0 x2 x3 x4 x13 x14 x15 x16 x17 x18 x19 x20 x21 x22 x23 x24 x26 x27 x28)), (qa 1, .inl (cB, 9000, .inl ft))] := hD
  refine g_topi (y := nI (by8 ft (kx + 1))) hr_39 ?_
  refine lv_iadd hx hb dX11_cellAt_42 ?_
  refine lv_topi (fun tv_42 etv_42 => ?_)
  refine lv_istore_n (lv' := [(3, .int tv_42), (2, .int tv_21), (0, .ref h), (1, .int (nI kx))]) hx hb dX11_cellAt_43 rfl hl (by decide) rfl (fun ls hl => ?_)
  refine lv_ldc (v := 131072) hx hb hown (hts (.constant RX11 178 (131072)) (List.mem_cons_of_mem _ kw_451)) dX11_cellAt_44 ?_
  refine lv_iload_n hx hb dX11_cellAt_46 rfl (lv_at hl 0 rfl) ?_
  refine lv_imul hx hb dX11_cellAt_47 ?_
  refine lv_topi (fun tv_47 etv_47 => ?_)
  refine lv_sipush (v := 4096) hx hb dX11_cellAt_48 (by decide) ?_
  refine lv_iload_n hx hb dX11_cellAt_51 rfl (lv_at hl 1 rfl) ?_
  refine lv_imul hx hb dX11_cellAt_52 ?_
  refine lv_topi (fun tv_52 etv_52 => ?_)
  refine lv_iadd hx hb dX11_cellAt_53 ?_
  refine lv_topi (fun tv_53 etv_53 => ?_)
  refine lv_sipush (v := 256) hx hb dX11_cellAt_54 (by decide) ?_
  refine lv_aload_n hx hb dX11_cellAt_57 rfl (lv_at hl 2 rfl) ?_
  refine lv_iload_n hx hb dX11_cellAt_58 rfl (lv_at hl 3 rfl) ?_
  refine lv_iconst (v := 2) hx hb dX11_cellAt_59 (by decide) ?_
  refine lv_iadd hx hb dX11_cellAt_60 ?_
  refine g_topi (y := nI (kx + 2)) (nI_add _ 2) ?_
  refine g_calli (wr := []) (va_runV (As := [.int (nI (kx + 2))]) (rest := [.int 256, .int tv_53]) ⟨hx, hb, hml, hown, hts⟩ (m_one l dC dI H.size h qa x0 x2 x3 x4 x13 x14 x15 x16 x17 x18 x19 x20 x21 x22 x23 x24 x26 x27 x28 cB ft (kx + 2) (by omega)) (cwV 1 hts (gG_V kw_431 kw_432 kw_433 kw_5 kw_434) rfl rfl rfl (by decide +kernel) ⟨Nat.le_of_ble_eq_true rfl, Nat.le_of_ble_eq_true rfl⟩) (g_preV (C := RX11) (T := TX11) (N := 53) hP hD hK hS hA hN hZ (q0 := 0) rfl rfl [0, 1] (by decide) rfl [0] rfl) rfl rfl hl.1 rfl (lv_room (Nat.le_of_ble_eq_true rfl)) dX11_cellAt_61 ⟨Nat.le_of_ble_eq_true rfl, Nat.le_of_ble_eq_true rfl⟩) hP hD hK hS hA [0, 1] [] rfl rfl (by decide) (by decide) (fun r_61 w ty1 H locs hw_61 hP hD _ hS => ?_)
  rcases hw_61 with ⟨hu, hr_61⟩
  cases hu
  have hP : va_P (dC, dI) vwCl [(h, .inr (10, mdF qa x0 x2 x3 x4 x13 x14 x15 x16 x17 x18 x19 x20 x21 x22 x23 x24 x26 x27 x28)), (qa 1, .inl (cB, 9000, .inl ft))] H := hP
  have hD : va_D A [(h, .inr (10, mdF qa x0 x2 x3 x4 x13 x14 x15 x16 x17 x18 x19 x20 x21 x22 x23 x24 x26 x27 x28)), (qa 1, .inl (cB, 9000, .inl ft))] := hD
  refine g_topi (y := nI (by8 ft (kx + 2))) hr_61 ?_
  refine lv_bipush (v := 15) hx hb dX11_cellAt_64 (by decide) ?_
  refine lv_iand hx hb dX11_cellAt_66 ?_
  refine lv_topi (fun tv_66 etv_66 => ?_)
  refine lv_imul hx hb dX11_cellAt_67 ?_
  refine lv_topi (fun tv_67 etv_67 => ?_)
  refine lv_iadd hx hb dX11_cellAt_68 ?_
  refine lv_topi (fun tv_68 etv_68 => ?_)
  refine lv_aload_n hx hb dX11_cellAt_69 rfl (lv_at hl 2 rfl) ?_
  refine lv_iload_n hx hb dX11_cellAt_70 rfl (lv_at hl 3 rfl) ?_
  refine lv_iconst (v := 3) hx hb dX11_cellAt_71 (by decide) ?_
  refine lv_iadd hx hb dX11_cellAt_72 ?_
  refine g_topi (y := nI (kx + 3)) (nI_add _ 3) ?_
  refine g_calli (wr := []) (va_runV (As := [.int (nI (kx + 3))]) (rest := [.int tv_68]) ⟨hx, hb, hml, hown, hts⟩ (m_one l dC dI H.size h qa x0 x2 x3 x4 x13 x14 x15 x16 x17 x18 x19 x20 x21 x22 x23 x24 x26 x27 x28 cB ft (kx + 3) (by omega)) (cwV 1 hts (gG_V kw_431 kw_432 kw_433 kw_5 kw_434) rfl rfl rfl (by decide +kernel) ⟨Nat.le_of_ble_eq_true rfl, Nat.le_of_ble_eq_true rfl⟩) (g_preV (C := RX11) (T := TX11) (N := 53) hP hD hK hS hA hN hZ (q0 := 0) rfl rfl [0, 1] (by decide) rfl [0] rfl) rfl rfl hl.1 rfl (lv_room (Nat.le_of_ble_eq_true rfl)) dX11_cellAt_73 ⟨Nat.le_of_ble_eq_true rfl, Nat.le_of_ble_eq_true rfl⟩) hP hD hK hS hA [0, 1] [] rfl rfl (by decide) (by decide) (fun r_73 w ty1 H locs hw_73 hP hD _ hS => ?_)
  rcases hw_73 with ⟨hu, hr_73⟩
  cases hu
  have hP : va_P (dC, dI) vwCl [(h, .inr (10, mdF qa x0 x2 x3 x4 x13 x14 x15 x16 x17 x18 x19 x20 x21 x22 x23 x24 x26 x27 x28)), (qa 1, .inl (cB, 9000, .inl ft))] H := hP
  have hD : va_D A [(h, .inr (10, mdF qa x0 x2 x3 x4 x13 x14 x15 x16 x17 x18 x19 x20 x21 x22 x23 x24 x26 x27 x28)), (qa 1, .inl (cB, 9000, .inl ft))] := hD
  refine g_topi (y := nI (by8 ft (kx + 3))) hr_73 ?_
  refine lv_iadd hx hb dX11_cellAt_76 ?_
  refine lv_topi (fun tv_76 etv_76 => ?_)
  have hP9 := hP
  have hD9 := hD
  have hK9 := hK.sub (tys' := []) [] rfl
  exact W.iret (v := tv_76) hx hb hr (fun t ht hW => ⟨⟨tv_76, _, rfl, rfl, by rw [ht]; exact hP9, va_K.moved hW.alike hK9, hD9⟩, hS.F ht⟩) hS.2.2 dX11_cellAt_77

