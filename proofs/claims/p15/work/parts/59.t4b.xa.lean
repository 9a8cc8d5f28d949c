set_option maxHeartbeats 400000 in
set_option maxRecDepth 100000 in
theorem X_msample (l : Launch) (dC : Nat → ClassId) (dI : Nat → Nat → Nat) (sz : Nat) (h : Nat) (qa : Nat → Nat) (x0 x2 x3 x4 x13 x14 x15 x16 x17 x18 x19 x20 x21 x22 x23 x24 x26 x27 x28 : Int32) (cI cB : ClassId) (g5 g6 g7 g8 g9 g10 : Nat → Int32) (sv nv tv vv : Int32) (ln : Nat → Nat) (hln : ∀ ss, 1 ≤ ss → ss < 32 → g5 ss = nI (ln ss)) (hl0 : ln 0 = 0) (hl4 : sumTo ln 32 ≤ 4000) (r_g5 : rg 32 0 2000 g5) (r_g8 : rg 32 0 131070 g8) (r_g9 : rg 32 0 131070 g9) : Met l yX11_sample (wsG (.code yX11_sample cX11_sample 7 (some .boolean))) ({ frames := 2, cells := 0, slots := 0, locals := 42 }) (va_Pc [.ref h, .int sv, .int nv, .int tv, .int vv] (gP (dC, dI) [(cI, .int), (cB, .byte)] [(h, .inr (10, mdF qa x0 x2 x3 x4 x13 x14 x15 x16 x17 x18 x19 x20 x21 x22 x23 x24 x26 x27 x28)), (qa 5, .inl (cI, 32, .inl g5)), (qa 6, .inl (cI, 32, .inl g6)), (qa 7, .inl (cI, 32, .inl g7)), (qa 8, .inl (cI, 32, .inl g8)), (qa 9, .inl (cI, 32, .inl g9)), (qa 10, .inl (cB, 64000, .inl g10))] sz)) (va_Qi (fun (r : Int32) (u : va_W × gT) => (∃ (ks : Nat) (ns : Nat) (k5 : Nat → Int32) (k6 : Nat → Int32) (k7 : Nat → Int32) (k8 : Nat → Int32) (k9 : Nat → Int32) (k10 : Nat → Int32), u = ([(h, .inr (10, mdF qa x0 x2 x3 x4 x13 x14 x15 x16 x17 x18 x19 x20 x21 x22 x23 x24 x26 x27 x28)), (qa 5, .inl (cI, 32, .inl k5)), (qa 6, .inl (cI, 32, .inl k6)), (qa 7, .inl (cI, 32, .inl k7)), (qa 8, .inl (cI, 32, .inl k8)), (qa 9, .inl (cI, 32, .inl k9)), (qa 10, .inl (cB, 64000, .inl k10))], []) ∧ r = 1 ∧ 1 ≤ ks ∧ ks < 32 ∧ sv = nI ks ∧ nv = nI ns ∧ ns ≤ 2000 ∧ ns % 2 = 0 ∧ sumTo ln 32 - ln ks + ns ≤ 4000 ∧ ((-8 ≤ tv ∧ tv ≤ 7)) ∧ ((0 ≤ vv ∧ vv ≤ 64)) ∧ k5 = upd g5 ks (nI ns) ∧ k6 = upd g6 ks tv ∧ k7 = upd g7 ks vv ∧ k8 = upd g8 ks 0 ∧ k9 = upd g9 ks 0 ∧ k10 = ffill g10 (2000 * ks) (2000 * ks + 2000) 0 ∧ rg 32 0 2000 k5 ∧ rg 32 0 131070 k8 ∧ rg 32 0 131070 k9) ∨ (u = ([(h, .inr (10, mdF qa x0 x2 x3 x4 x13 x14 x15 x16 x17 x18 x19 x20 x21 x22 x23 x24 x26 x27 x28)), (qa 5, .inl (cI, 32, .inl g5)), (qa 6, .inl (cI, 32, .inl g6)), (qa 7, .inl (cI, 32, .inl g7)), (qa 8, .inl (cI, 32, .inl g8)), (qa 9, .inl (cI, 32, .inl g9)), (qa 10, .inl (cB, 64000, .inl g10))], []) ∧ r = 0 ∧ ¬ sampG ln sv nv tv vv)) (gB (dC, dI) (va_A [(h, .inr (10, mdF qa x0 x2 x3 x4 x13 x14 x15 x16 x17 x18 x19 x20 x21 x22 x23 x24 x26 x27 x28)), (qa 5, .inl (cI, 32, .inl g5)), (qa 6, .inl (cI, 32, .inl g6)), (qa 7, .inl (cI, 32, .inl g7)), (qa 8, .inl (cI, 32, .inl g8)), (qa 9, .inl (cI, 32, .inl g9)), (qa 10, .inl (cB, 64000, .inl g10))] sz)) (va_A [(h, .inr (10, mdF qa x0 x2 x3 x4 x13 x14 x15 x16 x17 x18 x19 x20 x21 x22 x23 x24 x26 x27 x28)), (qa 5, .inl (cI, 32, .inl g5)), (qa 6, .inl (cI, 32, .inl g6)), (qa 7, .inl (cI, 32, .inl g7)), (qa 8, .inl (cI, 32, .inl g8)), (qa 9, .inl (cI, 32, .inl g9)), (qa 10, .inl (cB, 64000, .inl g10))] sz)) 0 0 (va_A [(h, .inr (10, mdF qa x0 x2 x3 x4 x13 x14 x15 x16 x17 x18 x19 x20 x21 x22 x23 x24 x26 x27 x28)), (qa 5, .inl (cI, 32, .inl g5)), (qa 6, .inl (cI, 32, .inl g6)), (qa 7, .inl (cI, 32, .inl g7)), (qa 8, .inl (cI, 32, .inl g8)), (qa 9, .inl (cI, 32, .inl g9)), (qa 10, .inl (cB, 64000, .inl g10))] sz) := by
  refine Met.ofW (cc := cX11_sample) (maxL := 7) (ret := (some .boolean)) (by decide) rfl ?_
  intro p e s m args below meth c s₁ B hml hv
  obtain ⟨rfl, hsz, hP, hK, hD0, hN, hZ⟩ := hv
  have hx := B.exec
  have hb := B.bytes
  have hr := B.returns
  have hts := atoms_spec (ws := (wsG (.code yX11_sample cX11_sample 7 (some .boolean)))) B.pre
  have hown : s.vm.findClass RX11 = some m.cls := findClass_of_methodNamed B.named
  have hlocks := B.notSynchronized
  subst hsz
  have hD := hD0.self (sz := s.heap.size)
  generalize hAe : va_A [(h, .inr (10, mdF qa x0 x2 x3 x4 x13 x14 x15 x16 x17 x18 x19 x20 x21 x22 x23 x24 x26 x27 x28)), (qa 5, .inl (cI, 32, .inl g5)), (qa 6, .inl (cI, 32, .inl g6)), (qa 7, .inl (cI, 32, .inl g7)), (qa 8, .inl (cI, 32, .inl g8)), (qa 9, .inl (cI, 32, .inl g9)), (qa 10, .inl (cB, 64000, .inl g10))] s.heap.size = A at hD hZ ⊢
  have hA : ∀ q : Nat, s.heap.size ≤ q → A q := fun q h => by rw [← hAe]; exact Or.inr h
  have hl := lv_entry ([.ref h, .int sv, .int nv, .int tv, .int vv]) (n := 7) (Nat.le_of_ble_eq_true rfl)
  rw [lg_entry_eq]
  generalize (lg_sl ([.ref h, .int sv, .int nv, .int tv, .int vv]) ++ List.replicate (7 - (lg_sl ([.ref h, .int sv, .int nv, .int tv, .int vv])).length) Slot.unset).toArray = ls at hl ⊢
  have hl : lv_has ls 7 [(0, .ref h), (1, .int sv), (2, .int nv), (3, .int tv), (4, .int vv)] := hl
  refine g_start (A := A) hP (fun H locs hP hS => ?_)
  refine lv_iload_n hx hb dX11_sample_0 rfl (lv_at hl 1 rfl) ?_
  refine g_calli (wr := [(h, .inr (10, mdF qa x0 x2 x3 x4 x13 x14 x15 x16 x17 x18 x19 x20 x21 x22 x23 x24 x26 x27 x28)), (qa 5, .inl (cI, 32, .inl g5)), (qa 6, .inl (cI, 32, .inl g6)), (qa 7, .inl (cI, 32, .inl g7)), (qa 8, .inl (cI, 32, .inl g8)), (qa 9, .inl (cI, 32, .inl g9)), (qa 10, .inl (cB, 64000, .inl g10))]) (va_runS (As := [.int sv]) (rest := []) ⟨hx, hb, hml, hown, hts⟩ (m_isSample l dC dI H.size sv ) (va_cwS 1 hts (gG_S kw_542 kw_543 kw_5 kw_544) rfl rfl rfl (by decide +kernel) ⟨Nat.le_of_ble_eq_true rfl, Nat.le_of_ble_eq_true rfl⟩) (g_preS hP hD hK hS hA hN hZ [] (by decide) rfl [] rfl) rfl rfl hl.1 rfl (lv_room (Nat.le_of_ble_eq_true rfl)) dX11_sample_1 ⟨Nat.le_of_ble_eq_true rfl, Nat.le_of_ble_eq_true rfl⟩) hP hD hK hS hA [] [0, 1, 2, 3, 4, 5, 6] rfl rfl (by decide +kernel) (by decide +kernel) (fun r_1 w ty1 H locs hw_1 hP hD _ hS => ?_)
  rcases hw_1 with ⟨hu, hr_1, hh_1⟩ | ⟨hu, hr_1, hh_1⟩
  · cases hu
    have hP : va_P (dC, dI) vwCl [(h, .inr (10, mdF qa x0 x2 x3 x4 x13 x14 x15 x16 x17 x18 x19 x20 x21 x22 x23 x24 x26 x27 x28)), (qa 5, .inl (cI, 32, .inl g5)), (qa 6, .inl (cI, 32, .inl g6)), (qa 7, .inl (cI, 32, .inl g7)), (qa 8, .inl (cI, 32, .inl g8)), (qa 9, .inl (cI, 32, .inl g9)), (qa 10, .inl (cB, 64000, .inl g10))] H := hP
    have hD : va_D A [(h, .inr (10, mdF qa x0 x2 x3 x4 x13 x14 x15 x16 x17 x18 x19 x20 x21 x22 x23 x24 x26 x27 x28)), (qa 5, .inl (cI, 32, .inl g5)), (qa 6, .inl (cI, 32, .inl g6)), (qa 7, .inl (cI, 32, .inl g7)), (qa 8, .inl (cI, 32, .inl g8)), (qa 9, .inl (cI, 32, .inl g9)), (qa 10, .inl (cB, 64000, .inl g10))] := hD
    refine g_topi (y := 1) hr_1 ?_
    obtain ⟨sq, hs1, hs2, hsq⟩ := in_1_31 hh_1
    subst hsq
    refine lv_if_eq (tgt := 46) hx hb dX11_sample_4 (by decide) (fun c_4 => absurd c_4 (by decide)) (fun c_4 => ?_)
    refine lv_iload_n hx hb dX11_sample_7 rfl (lv_at hl 2 rfl) ?_
    refine lv_iconst (v := 0) hx hb dX11_sample_8 (by decide) ?_
    refine lv_sipush (v := 2000) hx hb dX11_sample_9 (by decide) ?_
    refine g_calli (wr := [(h, .inr (10, mdF qa x0 x2 x3 x4 x13 x14 x15 x16 x17 x18 x19 x20 x21 x22 x23 x24 x26 x27 x28)), (qa 5, .inl (cI, 32, .inl g5)), (qa 6, .inl (cI, 32, .inl g6)), (qa 7, .inl (cI, 32, .inl g7)), (qa 8, .inl (cI, 32, .inl g8)), (qa 9, .inl (cI, 32, .inl g9)), (qa 10, .inl (cB, 64000, .inl g10))]) (va_runS (As := [.int nv, .int 0, .int 2000]) (rest := []) ⟨hx, hb, hml, hown, hts⟩ (m_in l dC dI H.size nv 0 2000 ) (va_cwS 3 hts (gG_S kw_266 kw_267 kw_5 kw_268) rfl rfl rfl (by decide +kernel) ⟨Nat.le_of_ble_eq_true rfl, Nat.le_of_ble_eq_true rfl⟩) (g_preS hP hD hK hS hA hN hZ [] (by decide) rfl [] rfl) rfl rfl hl.1 rfl (lv_room (Nat.le_of_ble_eq_true rfl)) dX11_sample_12 ⟨Nat.le_of_ble_eq_true rfl, Nat.le_of_ble_eq_true rfl⟩) hP hD hK hS hA [] [0, 1, 2, 3, 4, 5, 6] rfl rfl (by decide +kernel) (by decide +kernel) (fun r_12 w ty1 H locs hw_12 hP hD _ hS => ?_)
    rcases hw_12 with ⟨hu, hr_12, hh_12⟩ | ⟨hu, hr_12, hh_12⟩
    · cases hu
      have hP : va_P (dC, dI) vwCl [(h, .inr (10, mdF qa x0 x2 x3 x4 x13 x14 x15 x16 x17 x18 x19 x20 x21 x22 x23 x24 x26 x27 x28)), (qa 5, .inl (cI, 32, .inl g5)), (qa 6, .inl (cI, 32, .inl g6)), (qa 7, .inl (cI, 32, .inl g7)), (qa 8, .inl (cI, 32, .inl g8)), (qa 9, .inl (cI, 32, .inl g9)), (qa 10, .inl (cB, 64000, .inl g10))] H := hP
      have hD : va_D A [(h, .inr (10, mdF qa x0 x2 x3 x4 x13 x14 x15 x16 x17 x18 x19 x20 x21 x22 x23 x24 x26 x27 x28)), (qa 5, .inl (cI, 32, .inl g5)), (qa 6, .inl (cI, 32, .inl g6)), (qa 7, .inl (cI, 32, .inl g7)), (qa 8, .inl (cI, 32, .inl g8)), (qa 9, .inl (cI, 32, .inl g9)), (qa 10, .inl (cB, 64000, .inl g10))] := hD
      refine g_topi (y := 1) hr_12 ?_
      obtain ⟨nq, hnq, enq⟩ := in2000n hh_12
      subst enq
      refine lv_if_eq (tgt := 46) hx hb dX11_sample_15 (by decide) (fun c_15 => absurd c_15 (by decide)) (fun c_15 => ?_)
      refine lv_iload_n hx hb dX11_sample_18 rfl (lv_at hl 2 rfl) ?_
      refine lv_iconst (v := 2) hx hb dX11_sample_19 (by decide) ?_
      refine lv_irem hx hb dX11_sample_20 (by decide) ?_
      refine g_topi (y := nI (nq % 2)) (pk_rem (by omega) (d := 2) (by decide) (by decide)) ?_
      refine lv_if_ne (tgt := 46) hx hb dX11_sample_21 (by decide) (fun c_21 => ?_) (fun c_21 => ?_)
      · refine lv_iconst (v := 0) hx hb dX11_sample_46 (by decide) ?_
        have hP9 := hP
        have hD9 := hD
        have hK9 := hK.sub (tys' := []) [] rfl
        exact W.zret (v := 0) hx hb hr (by decide) (fun t ht hW => ⟨⟨0, _, rfl, (Or.inr ⟨rfl, rfl, (sgm_e hnq c_21)⟩), by rw [ht]; exact hP9, va_K.moved hW.alike hK9, hD9⟩, hS.F ht⟩) hS.2.2 dX11_sample_47
      have hev : nq % 2 = 0 := (nI_eq (b := 0) (by omega) (by decide)).mp c_21
      refine lv_iload_n hx hb dX11_sample_24 rfl (lv_at hl 3 rfl) ?_
      refine lv_bipush (v := (-8)) hx hb dX11_sample_25 (by decide) ?_
      refine lv_bipush (v := 7) hx hb dX11_sample_27 (by decide) ?_
      refine g_calli (wr := [(h, .inr (10, mdF qa x0 x2 x3 x4 x13 x14 x15 x16 x17 x18 x19 x20 x21 x22 x23 x24 x26 x27 x28)), (qa 5, .inl (cI, 32, .inl g5)), (qa 6, .inl (cI, 32, .inl g6)), (qa 7, .inl (cI, 32, .inl g7)), (qa 8, .inl (cI, 32, .inl g8)), (qa 9, .inl (cI, 32, .inl g9)), (qa 10, .inl (cB, 64000, .inl g10))]) (va_runS (As := [.int tv, .int (-8), .int 7]) (rest := []) ⟨hx, hb, hml, hown, hts⟩ (m_in l dC dI H.size tv (-8) 7 ) (va_cwS 3 hts (gG_S kw_266 kw_267 kw_5 kw_268) rfl rfl rfl (by decide +kernel) ⟨Nat.le_of_ble_eq_true rfl, Nat.le_of_ble_eq_true rfl⟩) (g_preS hP hD hK hS hA hN hZ [] (by decide) rfl [] rfl) rfl rfl hl.1 rfl (lv_room (Nat.le_of_ble_eq_true rfl)) dX11_sample_29 ⟨Nat.le_of_ble_eq_true rfl, Nat.le_of_ble_eq_true rfl⟩) hP hD hK hS hA [] [0, 1, 2, 3, 4, 5, 6] rfl rfl (by decide +kernel) (by decide +kernel) (fun r_29 w ty1 H locs hw_29 hP hD _ hS => ?_)
      rcases hw_29 with ⟨hu, hr_29, hh_29⟩ | ⟨hu, hr_29, hh_29⟩
      · cases hu
        have hP : va_P (dC, dI) vwCl [(h, .inr (10, mdF qa x0 x2 x3 x4 x13 x14 x15 x16 x17 x18 x19 x20 x21 x22 x23 x24 x26 x27 x28)), (qa 5, .inl (cI, 32, .inl g5)), (qa 6, .inl (cI, 32, .inl g6)), (qa 7, .inl (cI, 32, .inl g7)), (qa 8, .inl (cI, 32, .inl g8)), (qa 9, .inl (cI, 32, .inl g9)), (qa 10, .inl (cB, 64000, .inl g10))] H := hP
        have hD : va_D A [(h, .inr (10, mdF qa x0 x2 x3 x4 x13 x14 x15 x16 x17 x18 x19 x20 x21 x22 x23 x24 x26 x27 x28)), (qa 5, .inl (cI, 32, .inl g5)), (qa 6, .inl (cI, 32, .inl g6)), (qa 7, .inl (cI, 32, .inl g7)), (qa 8, .inl (cI, 32, .inl g8)), (qa 9, .inl (cI, 32, .inl g9)), (qa 10, .inl (cB, 64000, .inl g10))] := hD
        refine g_topi (y := 1) hr_29 ?_
        refine lv_if_eq (tgt := 46) hx hb dX11_sample_32 (by decide) (fun c_32 => absurd c_32 (by decide)) (fun c_32 => ?_)
        refine lv_iload hx hb dX11_sample_35 (lv_at hl 4 rfl) ?_
        refine lv_iconst (v := 0) hx hb dX11_sample_37 (by decide) ?_
        refine lv_bipush (v := 64) hx hb dX11_sample_38 (by decide) ?_
        refine g_calli (wr := [(h, .inr (10, mdF qa x0 x2 x3 x4 x13 x14 x15 x16 x17 x18 x19 x20 x21 x22 x23 x24 x26 x27 x28)), (qa 5, .inl (cI, 32, .inl g5)), (qa 6, .inl (cI, 32, .inl g6)), (qa 7, .inl (cI, 32, .inl g7)), (qa 8, .inl (cI, 32, .inl g8)), (qa 9, .inl (cI, 32, .inl g9)), (qa 10, .inl (cB, 64000, .inl g10))]) (va_runS (As := [.int vv, .int 0, .int 64]) (rest := []) ⟨hx, hb, hml, hown, hts⟩ (m_in l dC dI H.size vv 0 64 ) (va_cwS 3 hts (gG_S kw_266 kw_267 kw_5 kw_268) rfl rfl rfl (by decide +kernel) ⟨Nat.le_of_ble_eq_true rfl, Nat.le_of_ble_eq_true rfl⟩) (g_preS hP hD hK hS hA hN hZ [] (by decide) rfl [] rfl) rfl rfl hl.1 rfl (lv_room (Nat.le_of_ble_eq_true rfl)) dX11_sample_40 ⟨Nat.le_of_ble_eq_true rfl, Nat.le_of_ble_eq_true rfl⟩) hP hD hK hS hA [] [0, 1, 2, 3, 4, 5, 6] rfl rfl (by decide +kernel) (by decide +kernel) (fun r_40 w ty1 H locs hw_40 hP hD _ hS => ?_)
        rcases hw_40 with ⟨hu, hr_40, hh_40⟩ | ⟨hu, hr_40, hh_40⟩
        · cases hu
          have hP : va_P (dC, dI) vwCl [(h, .inr (10, mdF qa x0 x2 x3 x4 x13 x14 x15 x16 x17 x18 x19 x20 x21 x22 x23 x24 x26 x27 x28)), (qa 5, .inl (cI, 32, .inl g5)), (qa 6, .inl (cI, 32, .inl g6)), (qa 7, .inl (cI, 32, .inl g7)), (qa 8, .inl (cI, 32, .inl g8)), (qa 9, .inl (cI, 32, .inl g9)), (qa 10, .inl (cB, 64000, .inl g10))] H := hP
          have hD : va_D A [(h, .inr (10, mdF qa x0 x2 x3 x4 x13 x14 x15 x16 x17 x18 x19 x20 x21 x22 x23 x24 x26 x27 x28)), (qa 5, .inl (cI, 32, .inl g5)), (qa 6, .inl (cI, 32, .inl g6)), (qa 7, .inl (cI, 32, .inl g7)), (qa 8, .inl (cI, 32, .inl g8)), (qa 9, .inl (cI, 32, .inl g9)), (qa 10, .inl (cB, 64000, .inl g10))] := hD
          refine g_topi (y := 1) hr_40 ?_
          refine lv_if_ne (tgt := 48) hx hb dX11_sample_43 (by decide) (fun c_43 => ?_) (fun c_43 => absurd c_43 (by decide))
          refine lv_iload_n hx hb dX11_sample_48 rfl (lv_at hl 2 rfl) ?_
          refine lv_istore (lv' := [(5, .int (nI nq)), (0, .ref h), (1, .int (nI sq)), (2, .int (nI nq)), (3, .int tv), (4, .int vv)]) hx hb dX11_sample_49 hl (by decide) rfl (fun ls hl => ?_)
          refine lv_iconst (v := 1) hx hb dX11_sample_51 (by decide) ?_
          refine lv_istore (lv' := [(6, .int 1), (5, .int (nI nq)), (0, .ref h), (1, .int (nI sq)), (2, .int (nI nq)), (3, .int tv), (4, .int vv)]) hx hb dX11_sample_52 hl (by decide) rfl (fun ls hl => ?_)
          have LP54 : ∀ (fu54 : Nat) (q54 : Nat) (al_ : Nat) (hq54a : 1 ≤ q54) (hq54 : q54 ≤ 32) (eal_ : al_ = nq + sumTo (updN ln sq 0) q54) (hm54 : 32 - q54 < fu54) (H : Heap) (locs : List Loc), va_P (dC, dI) vwCl [(h, .inr (10, mdF qa x0 x2 x3 x4 x13 x14 x15 x16 x17 x18 x19 x20 x21 x22 x23 x24 x26 x27 x28)), (qa 5, .inl (cI, 32, .inl g5)), (qa 6, .inl (cI, 32, .inl g6)), (qa 7, .inl (cI, 32, .inl g7)), (qa 8, .inl (cI, 32, .inl g8)), (qa 9, .inl (cI, 32, .inl g9)), (qa 10, .inl (cB, 64000, .inl g10))] H → va_D A [(h, .inr (10, mdF qa x0 x2 x3 x4 x13 x14 x15 x16 x17 x18 x19 x20 x21 x22 x23 x24 x26 x27 x28)), (qa 5, .inl (cI, 32, .inl g5)), (qa 6, .inl (cI, 32, .inl g6)), (qa 7, .inl (cI, 32, .inl g7)), (qa 8, .inl (cI, 32, .inl g8)), (qa 9, .inl (cI, 32, .inl g9)), (qa 10, .inl (cB, 64000, .inl g10))] → va_S A s.heap H locs → ∀ ls : Array Slot, lv_has ls 7 [(6, .int (nI q54)), (5, .int (nI al_)), (0, .ref h), (1, .int (nI sq)), (2, .int (nI nq)), (3, .int tv), (4, .int vv)] → W p l e ({ frames := 2, cells := 0, slots := 0, locals := 42 }) s m ([.ref h, .int (nI sq), .int (nI nq), .int tv, .int vv] : List Value).toArray below meth c H locs (0) (0) (MQ below (va_Qi (fun (r : Int32) (u : va_W × gT) => (∃ (ks : Nat) (ns : Nat) (k5 : Nat → Int32) (k6 : Nat → Int32) (k7 : Nat → Int32) (k8 : Nat → Int32) (k9 : Nat → Int32) (k10 : Nat → Int32), u = ([(h, .inr (10, mdF qa x0 x2 x3 x4 x13 x14 x15 x16 x17 x18 x19 x20 x21 x22 x23 x24 x26 x27 x28)), (qa 5, .inl (cI, 32, .inl k5)), (qa 6, .inl (cI, 32, .inl k6)), (qa 7, .inl (cI, 32, .inl k7)), (qa 8, .inl (cI, 32, .inl k8)), (qa 9, .inl (cI, 32, .inl k9)), (qa 10, .inl (cB, 64000, .inl k10))], []) ∧ r = 1 ∧ 1 ≤ ks ∧ ks < 32 ∧ (nI sq) = nI ks ∧ (nI nq) = nI ns ∧ ns ≤ 2000 ∧ ns % 2 = 0 ∧ sumTo ln 32 - ln ks + ns ≤ 4000 ∧ ((-8 ≤ tv ∧ tv ≤ 7)) ∧ ((0 ≤ vv ∧ vv ≤ 64)) ∧ k5 = upd g5 ks (nI ns) ∧ k6 = upd g6 ks tv ∧ k7 = upd g7 ks vv ∧ k8 = upd g8 ks 0 ∧ k9 = upd g9 ks 0 ∧ k10 = ffill g10 (2000 * ks) (2000 * ks + 2000) 0 ∧ rg 32 0 2000 k5 ∧ rg 32 0 131070 k8 ∧ rg 32 0 131070 k9) ∨ (u = ([(h, .inr (10, mdF qa x0 x2 x3 x4 x13 x14 x15 x16 x17 x18 x19 x20 x21 x22 x23 x24 x26 x27 x28)), (qa 5, .inl (cI, 32, .inl g5)), (qa 6, .inl (cI, 32, .inl g6)), (qa 7, .inl (cI, 32, .inl g7)), (qa 8, .inl (cI, 32, .inl g8)), (qa 9, .inl (cI, 32, .inl g9)), (qa 10, .inl (cB, 64000, .inl g10))], []) ∧ r = 0 ∧ ¬ sampG ln (nI sq) (nI nq) tv vv)) (gB (dC, dI) A) A) ([.ref h, .int (nI sq), .int (nI nq), .int tv, .int vv] : List Value).toArray s 0 0 A) (F0 m 54 ls []) := by
            intro fu54
            induction fu54 with
            | zero => intro q54 al_ hq54a hq54 eal_ hm54; exact absurd hm54 (Nat.not_lt_zero _)
            | succ fu54 ih54 =>
              intro q54 al_ hq54a hq54 eal_ hm54 H locs hP hD hS ls hl
              refine lv_iload hx hb dX11_sample_54 (lv_at hl 0 rfl) ?_
              refine lv_bipush (v := 32) hx hb dX11_sample_56 (by decide) ?_
              refine lv_icmp_ge (tgt := 89) hx hb dX11_sample_58 (by decide) (fun c_58 => ?_) (fun c_58 => ?_)
              · have hqe : q54 = 32 := by have := nI_le' (a := 32) c_58 (by decide) (by omega); omega
                refine lv_iload hx hb dX11_sample_89 (lv_at hl 1 rfl) ?_
                refine lv_sipush (v := 4000) hx hb dX11_sample_91 (by decide) ?_
                refine lv_icmp_le (tgt := 99) hx hb dX11_sample_94 (by decide) (fun c_94 => ?_) (fun c_94 => ?_)
                · have hsu : sumTo ln 32 - ln sq + nq ≤ 4000 := by have h9 := nI_le' (b := 4000) c_94 (by have := up0_le ln (kx := sq) (jx := 32); rw [eal_, hqe]; omega) (by decide); rw [eal_, hqe, smp_e hl0 hs2 hl4] at h9; exact h9
                  refine lv_aload_n hx hb dX11_sample_99 rfl (lv_at hl 2 rfl) ?_
                  refine va_get (D := (dC, dI)) (ci := 10) (v := .ref (qa 5)) (C := RX11) (T := TX11) (N := 53) hx hb hts iwX11 hown hK hP 0 rfl rfl 5 (by decide) (hts (.fieldLink RX11 17 "ModulePlayerModel" "length" "[I") (List.mem_cons_of_mem _ kw_173)) (fun _ h9 => h9) rfl dX11_sample_100 ?_
                  refine lv_iload_n hx hb dX11_sample_103 rfl (lv_at hl 3 rfl) ?_
                  refine lv_iload_n hx hb dX11_sample_104 rfl (lv_at hl 4 rfl) ?_
                  refine g_iast hx hb hK hP hD hS 1 0 rfl rfl sq (nI_clamp (Nat.lt_trans (show sq < 32 from hs2) (by decide))) (vp_in_nI (hs2) (by decide)) dX11_sample_105 (fun H locs hP hD hS => ?_)
                  have hP : va_P (dC, dI) vwCl [(h, .inr (10, mdF qa x0 x2 x3 x4 x13 x14 x15 x16 x17 x18 x19 x20 x21 x22 x23 x24 x26 x27 x28)), (qa 5, .inl (cI, 32, .inl (upd g5 sq (nI nq)))), (qa 6, .inl (cI, 32, .inl g6)), (qa 7, .inl (cI, 32, .inl g7)), (qa 8, .inl (cI, 32, .inl g8)), (qa 9, .inl (cI, 32, .inl g9)), (qa 10, .inl (cB, 64000, .inl g10))] H := hP
                  have hD : va_D A [(h, .inr (10, mdF qa x0 x2 x3 x4 x13 x14 x15 x16 x17 x18 x19 x20 x21 x22 x23 x24 x26 x27 x28)), (qa 5, .inl (cI, 32, .inl (upd g5 sq (nI nq)))), (qa 6, .inl (cI, 32, .inl g6)), (qa 7, .inl (cI, 32, .inl g7)), (qa 8, .inl (cI, 32, .inl g8)), (qa 9, .inl (cI, 32, .inl g9)), (qa 10, .inl (cB, 64000, .inl g10))] := hD
                  obtain ⟨u5_105, r_u5_105, eu5_105⟩ : ∃ ff : Nat → Int32, rg 32 0 2000 ff ∧ ff = upd g5 sq (nI nq) := ⟨upd g5 sq (nI nq), rg_upd2 r_g5 (nI_rg (by omega) (by omega) (by omega)), rfl⟩
                  rw [← eu5_105] at hP hD
                  refine lv_aload_n hx hb dX11_sample_106 rfl (lv_at hl 2 rfl) ?_
                  refine va_get (D := (dC, dI)) (ci := 10) (v := .ref (qa 6)) (C := RX11) (T := TX11) (N := 53) hx hb hts iwX11 hown hK hP 0 rfl rfl 6 (by decide) (hts (.fieldLink RX11 21 "ModulePlayerModel" "tune" "[I") (List.mem_cons_of_mem _ kw_174)) (fun _ h9 => h9) rfl dX11_sample_107 ?_
                  refine lv_iload_n hx hb dX11_sample_110 rfl (lv_at hl 3 rfl) ?_
                  refine lv_iload_n hx hb dX11_sample_111 rfl (lv_at hl 5 rfl) ?_
                  refine g_iast hx hb hK hP hD hS 2 0 rfl rfl sq (nI_clamp (Nat.lt_trans (show sq < 32 from hs2) (by decide))) (vp_in_nI (hs2) (by decide)) dX11_sample_112 (fun H locs hP hD hS => ?_)
                  have hP : va_P (dC, dI) vwCl [(h, .inr (10, mdF qa x0 x2 x3 x4 x13 x14 x15 x16 x17 x18 x19 x20 x21 x22 x23 x24 x26 x27 x28)), (qa 5, .inl (cI, 32, .inl u5_105)), (qa 6, .inl (cI, 32, .inl (upd g6 sq tv))), (qa 7, .inl (cI, 32, .inl g7)), (qa 8, .inl (cI, 32, .inl g8)), (qa 9, .inl (cI, 32, .inl g9)), (qa 10, .inl (cB, 64000, .inl g10))] H := hP
                  have hD : va_D A [(h, .inr (10, mdF qa x0 x2 x3 x4 x13 x14 x15 x16 x17 x18 x19 x20 x21 x22 x23 x24 x26 x27 x28)), (qa 5, .inl (cI, 32, .inl u5_105)), (qa 6, .inl (cI, 32, .inl (upd g6 sq tv))), (qa 7, .inl (cI, 32, .inl g7)), (qa 8, .inl (cI, 32, .inl g8)), (qa 9, .inl (cI, 32, .inl g9)), (qa 10, .inl (cB, 64000, .inl g10))] := hD
                  obtain ⟨u6_112, eu6_112⟩ : ∃ ff : Nat → Int32, ff = upd g6 sq tv := ⟨_, rfl⟩
                  rw [← eu6_112] at hP hD
                  refine lv_aload_n hx hb dX11_sample_113 rfl (lv_at hl 2 rfl) ?_
                  refine va_get (D := (dC, dI)) (ci := 10) (v := .ref (qa 7)) (C := RX11) (T := TX11) (N := 53) hx hb hts iwX11 hown hK hP 0 rfl rfl 7 (by decide) (hts (.fieldLink RX11 24 "ModulePlayerModel" "loud" "[I") (List.mem_cons_of_mem _ kw_175)) (fun _ h9 => h9) rfl dX11_sample_114 ?_
                  refine lv_iload_n hx hb dX11_sample_117 rfl (lv_at hl 3 rfl) ?_
                  refine lv_iload hx hb dX11_sample_118 (lv_at hl 6 rfl) ?_
                  refine g_iast hx hb hK hP hD hS 3 0 rfl rfl sq (nI_clamp (Nat.lt_trans (show sq < 32 from hs2) (by decide))) (vp_in_nI (hs2) (by decide)) dX11_sample_120 (fun H locs hP hD hS => ?_)
                  have hP : va_P (dC, dI) vwCl [(h, .inr (10, mdF qa x0 x2 x3 x4 x13 x14 x15 x16 x17 x18 x19 x20 x21 x22 x23 x24 x26 x27 x28)), (qa 5, .inl (cI, 32, .inl u5_105)), (qa 6, .inl (cI, 32, .inl u6_112)), (qa 7, .inl (cI, 32, .inl (upd g7 sq vv))), (qa 8, .inl (cI, 32, .inl g8)), (qa 9, .inl (cI, 32, .inl g9)), (qa 10, .inl (cB, 64000, .inl g10))] H := hP
                  have hD : va_D A [(h, .inr (10, mdF qa x0 x2 x3 x4 x13 x14 x15 x16 x17 x18 x19 x20 x21 x22 x23 x24 x26 x27 x28)), (qa 5, .inl (cI, 32, .inl u5_105)), (qa 6, .inl (cI, 32, .inl u6_112)), (qa 7, .inl (cI, 32, .inl (upd g7 sq vv))), (qa 8, .inl (cI, 32, .inl g8)), (qa 9, .inl (cI, 32, .inl g9)), (qa 10, .inl (cB, 64000, .inl g10))] := hD
                  obtain ⟨u7_120, eu7_120⟩ : ∃ ff : Nat → Int32, ff = upd g7 sq vv := ⟨_, rfl⟩
                  rw [← eu7_120] at hP hD
                  refine lv_aload_n hx hb dX11_sample_121 rfl (lv_at hl 2 rfl) ?_
                  refine va_get (D := (dC, dI)) (ci := 10) (v := .ref (qa 8)) (C := RX11) (T := TX11) (N := 53) hx hb hts iwX11 hown hK hP 0 rfl rfl 8 (by decide) (hts (.fieldLink RX11 27 "ModulePlayerModel" "from" "[I") (List.mem_cons_of_mem _ kw_176)) (fun _ h9 => h9) rfl dX11_sample_122 ?_
                  refine lv_iload_n hx hb dX11_sample_125 rfl (lv_at hl 3 rfl) ?_
                  refine lv_iconst (v := 0) hx hb dX11_sample_126 (by decide) ?_
                  refine g_iast hx hb hK hP hD hS 4 0 rfl rfl sq (nI_clamp (Nat.lt_trans (show sq < 32 from hs2) (by decide))) (vp_in_nI (hs2) (by decide)) dX11_sample_127 (fun H locs hP hD hS => ?_)
                  have hP : va_P (dC, dI) vwCl [(h, .inr (10, mdF qa x0 x2 x3 x4 x13 x14 x15 x16 x17 x18 x19 x20 x21 x22 x23 x24 x26 x27 x28)), (qa 5, .inl (cI, 32, .inl u5_105)), (qa 6, .inl (cI, 32, .inl u6_112)), (qa 7, .inl (cI, 32, .inl u7_120)), (qa 8, .inl (cI, 32, .inl (upd g8 sq 0))), (qa 9, .inl (cI, 32, .inl g9)), (qa 10, .inl (cB, 64000, .inl g10))] H := hP
                  have hD : va_D A [(h, .inr (10, mdF qa x0 x2 x3 x4 x13 x14 x15 x16 x17 x18 x19 x20 x21 x22 x23 x24 x26 x27 x28)), (qa 5, .inl (cI, 32, .inl u5_105)), (qa 6, .inl (cI, 32, .inl u6_112)), (qa 7, .inl (cI, 32, .inl u7_120)), (qa 8, .inl (cI, 32, .inl (upd g8 sq 0))), (qa 9, .inl (cI, 32, .inl g9)), (qa 10, .inl (cB, 64000, .inl g10))] := hD
                  obtain ⟨u8_127, r_u8_127, eu8_127⟩ : ∃ ff : Nat → Int32, rg 32 0 131070 ff ∧ ff = upd g8 sq 0 := ⟨upd g8 sq 0, rg_upd2 r_g8 (⟨by decide, by decide⟩), rfl⟩
                  rw [← eu8_127] at hP hD
                  refine lv_aload_n hx hb dX11_sample_128 rfl (lv_at hl 2 rfl) ?_
                  refine va_get (D := (dC, dI)) (ci := 10) (v := .ref (qa 9)) (C := RX11) (T := TX11) (N := 53) hx hb hts iwX11 hown hK hP 0 rfl rfl 9 (by decide) (hts (.fieldLink RX11 30 "ModulePlayerModel" "round" "[I") (List.mem_cons_of_mem _ kw_177)) (fun _ h9 => h9) rfl dX11_sample_129 ?_
                  refine lv_iload_n hx hb dX11_sample_132 rfl (lv_at hl 3 rfl) ?_
                  refine lv_iconst (v := 0) hx hb dX11_sample_133 (by decide) ?_
                  refine g_iast hx hb hK hP hD hS 5 0 rfl rfl sq (nI_clamp (Nat.lt_trans (show sq < 32 from hs2) (by decide))) (vp_in_nI (hs2) (by decide)) dX11_sample_134 (fun H locs hP hD hS => ?_)
                  have hP : va_P (dC, dI) vwCl [(h, .inr (10, mdF qa x0 x2 x3 x4 x13 x14 x15 x16 x17 x18 x19 x20 x21 x22 x23 x24 x26 x27 x28)), (qa 5, .inl (cI, 32, .inl u5_105)), (qa 6, .inl (cI, 32, .inl u6_112)), (qa 7, .inl (cI, 32, .inl u7_120)), (qa 8, .inl (cI, 32, .inl u8_127)), (qa 9, .inl (cI, 32, .inl (upd g9 sq 0))), (qa 10, .inl (cB, 64000, .inl g10))] H := hP
                  have hD : va_D A [(h, .inr (10, mdF qa x0 x2 x3 x4 x13 x14 x15 x16 x17 x18 x19 x20 x21 x22 x23 x24 x26 x27 x28)), (qa 5, .inl (cI, 32, .inl u5_105)), (qa 6, .inl (cI, 32, .inl u6_112)), (qa 7, .inl (cI, 32, .inl u7_120)), (qa 8, .inl (cI, 32, .inl u8_127)), (qa 9, .inl (cI, 32, .inl (upd g9 sq 0))), (qa 10, .inl (cB, 64000, .inl g10))] := hD
                  obtain ⟨u9_134, r_u9_134, eu9_134⟩ : ∃ ff : Nat → Int32, rg 32 0 131070 ff ∧ ff = upd g9 sq 0 := ⟨upd g9 sq 0, rg_upd2 r_g9 (⟨by decide, by decide⟩), rfl⟩
                  rw [← eu9_134] at hP hD
                  refine lv_iconst (v := 0) hx hb dX11_sample_135 (by decide) ?_
                  refine lv_istore (lv' := [(6, .int 0), (5, .int (nI al_)), (0, .ref h), (1, .int (nI sq)), (2, .int (nI nq)), (3, .int tv), (4, .int vv)]) hx hb dX11_sample_136 hl (by decide) rfl (fun ls hl => ?_)
                  have LP138 : ∀ (fu138 : Nat) (q138 : Nat) (l10 : Nat → Int32) (hq138 : q138 ≤ 2000) (hl10 : l10 = ffill g10 (2000 * sq) (2000 * sq + q138) 0) (hm138 : 2000 - q138 < fu138) (H : Heap) (locs : List Loc), va_P (dC, dI) vwCl [(h, .inr (10, mdF qa x0 x2 x3 x4 x13 x14 x15 x16 x17 x18 x19 x20 x21 x22 x23 x24 x26 x27 x28)), (qa 5, .inl (cI, 32, .inl u5_105)), (qa 6, .inl (cI, 32, .inl u6_112)), (qa 7, .inl (cI, 32, .inl u7_120)), (qa 8, .inl (cI, 32, .inl u8_127)), (qa 9, .inl (cI, 32, .inl u9_134)), (qa 10, .inl (cB, 64000, .inl l10))] H → va_D A [(h, .inr (10, mdF qa x0 x2 x3 x4 x13 x14 x15 x16 x17 x18 x19 x20 x21 x22 x23 x24 x26 x27 x28)), (qa 5, .inl (cI, 32, .inl u5_105)), (qa 6, .inl (cI, 32, .inl u6_112)), (qa 7, .inl (cI, 32, .inl u7_120)), (qa 8, .inl (cI, 32, .inl u8_127)), (qa 9, .inl (cI, 32, .inl u9_134)), (qa 10, .inl (cB, 64000, .inl l10))] → va_S A s.heap H locs → ∀ ls : Array Slot, lv_has ls 7 [(6, .int (nI q138)), (0, .ref h), (1, .int (nI sq))] → W p l e ({ frames := 2, cells := 0, slots := 0, locals := 42 }) s m ([.ref h, .int (nI sq), .int (nI nq), .int tv, .int vv] : List Value).toArray below meth c H locs (0) (0) (MQ below (va_Qi (fun (r : Int32) (u : va_W × gT) => (∃ (ks : Nat) (ns : Nat) (k5 : Nat → Int32) (k6 : Nat → Int32) (k7 : Nat → Int32) (k8 : Nat → Int32) (k9 : Nat → Int32) (k10 : Nat → Int32), u = ([(h, .inr (10, mdF qa x0 x2 x3 x4 x13 x14 x15 x16 x17 x18 x19 x20 x21 x22 x23 x24 x26 x27 x28)), (qa 5, .inl (cI, 32, .inl k5)), (qa 6, .inl (cI, 32, .inl k6)), (qa 7, .inl (cI, 32, .inl k7)), (qa 8, .inl (cI, 32, .inl k8)), (qa 9, .inl (cI, 32, .inl k9)), (qa 10, .inl (cB, 64000, .inl k10))], []) ∧ r = 1 ∧ 1 ≤ ks ∧ ks < 32 ∧ (nI sq) = nI ks ∧ (nI nq) = nI ns ∧ ns ≤ 2000 ∧ ns % 2 = 0 ∧ sumTo ln 32 - ln ks + ns ≤ 4000 ∧ ((-8 ≤ tv ∧ tv ≤ 7)) ∧ ((0 ≤ vv ∧ vv ≤ 64)) ∧ k5 = upd g5 ks (nI ns) ∧ k6 = upd g6 ks tv ∧ k7 = upd g7 ks vv ∧ k8 = upd g8 ks 0 ∧ k9 = upd g9 ks 0 ∧ k10 = ffill g10 (2000 * ks) (2000 * ks + 2000) 0 ∧ rg 32 0 2000 k5 ∧ rg 32 0 131070 k8 ∧ rg 32 0 131070 k9) ∨ (u = ([(h, .inr (10, mdF qa x0 x2 x3 x4 x13 x14 x15 x16 x17 x18 x19 x20 x21 x22 x23 x24 x26 x27 x28)), (qa 5, .inl (cI, 32, .inl g5)), (qa 6, .inl (cI, 32, .inl g6)), (qa 7, .inl (cI, 32, .inl g7)), (qa 8, .inl (cI, 32, .inl g8)), (qa 9, .inl (cI, 32, .inl g9)), (qa 10, .inl (cB, 64000, .inl g10))], []) ∧ r = 0 ∧ ¬ sampG ln (nI sq) (nI nq) tv vv)) (gB (dC, dI) A) A) ([.ref h, .int (nI sq), .int (nI nq), .int tv, .int vv] : List Value).toArray s 0 0 A) (F0 m 138 ls []) := by
                    intro fu138
                    induction fu138 with
                    | zero => intro q138 l10 hq138 hl10 hm138; exact absurd hm138 (Nat.not_lt_zero _)
                    | succ fu138 ih138 =>
                      intro q138 l10 hq138 hl10 hm138 H locs hP hD hS ls hl
                      refine lv_iload hx hb dX11_sample_138 (lv_at hl 0 rfl) ?_
                      refine lv_sipush (v := 2000) hx hb dX11_sample_140 (by decide) ?_
                      refine lv_icmp_ge (tgt := 166) hx hb dX11_sample_143 (by decide) (fun c_143 => ?_) (fun c_143 => ?_)
                      · refine lv_iconst (v := 1) hx hb dX11_sample_166 (by decide) ?_
                        have hP9 := hP
                        have hD9 := hD
                        have hK9 := hK.sub (tys' := []) [] rfl
                        exact W.zret (v := 1) hx hb hr (by decide) (fun t ht hW => ⟨⟨1, _, rfl, (Or.inl ⟨sq, nq, u5_105, u6_112, u7_120, u8_127, u9_134, l10, rfl, rfl, hs1, hs2, rfl, rfl, hnq, hev, hsu, hh_29, hh_40, eu5_105, eu6_112, eu7_120, eu8_127, eu9_134, (by rw [hl10, show q138 = 2000 by have := nI_le' (a := 2000) c_143 (by decide) (by omega); omega]), r_u5_105, r_u8_127, r_u9_134⟩), by rw [ht]; exact hP9, va_K.moved hW.alike hK9, hD9⟩, hS.F ht⟩) hS.2.2 dX11_sample_167
                      refine lv_aload_n hx hb dX11_sample_146 rfl (lv_at hl 1 rfl) ?_
                      refine va_get (D := (dC, dI)) (ci := 10) (v := .ref (qa 10)) (C := RX11) (T := TX11) (N := 53) hx hb hts iwX11 hown hK hP 0 rfl rfl 10 (by decide) (hts (.fieldLink RX11 34 "ModulePlayerModel" "waves" "[B") (List.mem_cons_of_mem _ kw_179)) (fun _ h9 => h9) rfl dX11_sample_147 ?_
                      refine lv_sipush (v := 2000) hx hb dX11_sample_150 (by decide) ?_
                      refine lv_iload_n hx hb dX11_sample_153 rfl (lv_at hl 2 rfl) ?_
                      refine lv_imul hx hb dX11_sample_154 ?_
                      refine g_topi (y := nI (2000 * sq)) (pk_mul 2000 _) ?_
                      refine lv_iload hx hb dX11_sample_155 (lv_at hl 0 rfl) ?_
                      refine lv_iadd hx hb dX11_sample_157 ?_
                      refine g_topi (y := nI (2000 * sq + q138)) (nI_add _ _) ?_
                      refine lv_iconst (v := 0) hx hb dX11_sample_158 (by decide) ?_
                      refine g_bast hx hb hK hP hD hS 6 1 rfl rfl (x' := 0) (by decide) (2000 * sq + q138) (nI_clamp (Nat.lt_trans (show 2000 * sq + q138 < 64000 from by have := nI_nle' (a := 2000) c_143 (by omega); omega) (by decide))) (vp_in_nI (by have := nI_nle' (a := 2000) c_143 (by omega); omega) (by decide)) dX11_sample_159 (fun H locs hP hD hS => ?_)
                      have hP : va_P (dC, dI) vwCl [(h, .inr (10, mdF qa x0 x2 x3 x4 x13 x14 x15 x16 x17 x18 x19 x20 x21 x22 x23 x24 x26 x27 x28)), (qa 5, .inl (cI, 32, .inl u5_105)), (qa 6, .inl (cI, 32, .inl u6_112)), (qa 7, .inl (cI, 32, .inl u7_120)), (qa 8, .inl (cI, 32, .inl u8_127)), (qa 9, .inl (cI, 32, .inl u9_134)), (qa 10, .inl (cB, 64000, .inl (upd l10 (2000 * sq + q138) 0)))] H := hP
                      have hD : va_D A [(h, .inr (10, mdF qa x0 x2 x3 x4 x13 x14 x15 x16 x17 x18 x19 x20 x21 x22 x23 x24 x26 x27 x28)), (qa 5, .inl (cI, 32, .inl u5_105)), (qa 6, .inl (cI, 32, .inl u6_112)), (qa 7, .inl (cI, 32, .inl u7_120)), (qa 8, .inl (cI, 32, .inl u8_127)), (qa 9, .inl (cI, 32, .inl u9_134)), (qa 10, .inl (cB, 64000, .inl (upd l10 (2000 * sq + q138) 0)))] := hD
                      obtain ⟨u10_159, eu10_159⟩ : ∃ ff : Nat → Int32, ff = upd l10 (2000 * sq + q138) 0 := ⟨_, rfl⟩
                      rw [← eu10_159] at hP hD
                      refine lv_iinc (v := nI (q138 + 1)) (lv' := [(6, .int (nI (q138 + 1))), (0, .ref h), (1, .int (nI sq))]) hx hb dX11_sample_160 hl (k := 0) rfl (nI_1 q138) (by decide) rfl (fun ls hl => ?_)
                      refine lv_goto (tgt := 138) hx hb dX11_sample_163 (by decide) ?_
                      exact ih138 (q138 + 1) u10_159 (by have := nI_nle' (a := 2000) c_143 (by omega); omega) (by rw [eu10_159, hl10]; exact ffill_s (by omega)) (by have := nI_nle' (a := 2000) c_143 (by omega); omega) _ _ hP hD hS _ (lv_sub hl [0, 1, 2] rfl)
                  exact LP138 _ 0 g10 (Nat.zero_le _) ((ffill_0 _ _ _).symm) (Nat.lt_succ_self _) _ _ hP hD hS _ (lv_sub hl [0, 2, 3] rfl)
                refine lv_iconst (v := 0) hx hb dX11_sample_97 (by decide) ?_
                have hP9 := hP
                have hD9 := hD
                have hK9 := hK.sub (tys' := []) [] rfl
                exact W.zret (v := 0) hx hb hr (by decide) (fun t ht hW => ⟨⟨0, _, rfl, (Or.inr ⟨rfl, rfl, (sgm_s hs2 hnq (fun qv => c_94 (nI_le (b := 4000) (by rw [eal_, hqe, smp_e hl0 hs2 hl4]; exact qv) (by decide))))⟩), by rw [ht]; exact hP9, va_K.moved hW.alike hK9, hD9⟩, hS.F ht⟩) hS.2.2 dX11_sample_98
              refine lv_iload hx hb dX11_sample_61 (lv_at hl 1 rfl) ?_
              refine lv_iload hx hb dX11_sample_63 (lv_at hl 0 rfl) ?_
              refine lv_iload_n hx hb dX11_sample_65 rfl (lv_at hl 3 rfl) ?_
              refine lv_icmp_ne (tgt := 73) hx hb dX11_sample_66 (by decide) (fun c_66 => ?_) (fun c_66 => ?_)
              · refine lv_aload_n hx hb dX11_sample_73 rfl (lv_at hl 2 rfl) ?_
                refine va_get (D := (dC, dI)) (ci := 10) (v := .ref (qa 5)) (C := RX11) (T := TX11) (N := 53) hx hb hts iwX11 hown hK hP 0 rfl rfl 5 (by decide) (hts (.fieldLink RX11 17 "ModulePlayerModel" "length" "[I") (List.mem_cons_of_mem _ kw_173)) (fun _ h9 => h9) rfl dX11_sample_74 ?_
                refine lv_iload hx hb dX11_sample_77 (lv_at hl 0 rfl) ?_
                refine g_iald hx hb hK hP 1 0 rfl rfl q54 (nI_clamp (Nat.lt_trans (show q54 < 32 from by have := nI_nle' (a := 32) c_58 (by omega); omega) (by decide))) (vp_in_nI (by have := nI_nle' (a := 32) c_58 (by omega); omega) (by decide)) dX11_sample_79 ?_
                refine g_topi (y := nI (ln q54)) (hln q54 hq54a (by have := nI_nle' (a := 32) c_58 (by omega); omega)) ?_
                refine lv_iadd hx hb dX11_sample_80 ?_
                refine g_topi (y := nI (al_ + ln q54)) (nI_add _ _) ?_
                refine lv_istore (lv' := [(5, .int (nI (al_ + ln q54))), (6, .int (nI q54)), (0, .ref h), (1, .int (nI sq)), (2, .int (nI nq)), (3, .int tv), (4, .int vv)]) hx hb dX11_sample_81 hl (by decide) rfl (fun ls hl => ?_)
                refine lv_iinc (v := nI (q54 + 1)) (lv' := [(6, .int (nI (q54 + 1))), (5, .int (nI (al_ + ln q54))), (0, .ref h), (1, .int (nI sq)), (2, .int (nI nq)), (3, .int tv), (4, .int vv)]) hx hb dX11_sample_83 hl (k := 1) rfl (nI_1 q54) (by decide) rfl (fun ls hl => ?_)
                refine lv_goto (tgt := 54) hx hb dX11_sample_86 (by decide) ?_
                exact ih54 (q54 + 1) (al_ + ln q54) (by omega) (by have := nI_nle' (a := 32) c_58 (by omega); omega) (by rw [eal_]; show nq + sumTo (updN ln sq 0) q54 + ln q54 = nq + (sumTo (updN ln sq 0) q54 + updN ln sq 0 q54); rw [upn_ne (fun qv => c_66 (by rw [qv])), Nat.add_assoc]) (by have := nI_nle' (a := 32) c_58 (by omega); omega) _ _ hP hD hS _ (lv_sub hl [0, 1, 2, 3, 4, 5, 6] rfl)
              refine lv_iconst (v := 0) hx hb dX11_sample_69 (by decide) ?_
              refine lv_goto (tgt := 80) hx hb dX11_sample_70 (by decide) ?_
              refine lv_iadd hx hb dX11_sample_80 ?_
              refine g_topi (y := nI al_) (Int32.add_zero _) ?_
              refine lv_istore (lv' := [(5, .int (nI al_)), (6, .int (nI q54)), (0, .ref h), (1, .int (nI sq)), (2, .int (nI nq)), (3, .int tv), (4, .int vv)]) hx hb dX11_sample_81 hl (by decide) rfl (fun ls hl => ?_)
              refine lv_iinc (v := nI (q54 + 1)) (lv' := [(6, .int (nI (q54 + 1))), (5, .int (nI al_)), (0, .ref h), (1, .int (nI sq)), (2, .int (nI nq)), (3, .int tv), (4, .int vv)]) hx hb dX11_sample_83 hl (k := 1) rfl (nI_1 q54) (by decide) rfl (fun ls hl => ?_)
              refine lv_goto (tgt := 54) hx hb dX11_sample_86 (by decide) ?_
              exact ih54 (q54 + 1) al_ (by omega) (by have := nI_nle' (a := 32) c_58 (by omega); omega) (by rw [eal_]; show nq + sumTo (updN ln sq 0) q54 = nq + (sumTo (updN ln sq 0) q54 + updN ln sq 0 q54); rw [show q54 = sq from (nI_eq (by omega) (by omega)).mp c_66, upn_eq, Nat.add_zero]) (by have := nI_nle' (a := 32) c_58 (by omega); omega) _ _ hP hD hS _ (lv_sub hl [0, 1, 2, 3, 4, 5, 6] rfl)
          exact LP54 _ 1 nq (by decide) (by decide) (by rw [show sumTo (updN ln sq 0) 1 = updN ln sq 0 0 from Nat.zero_add _, upn_ne (by omega), hl0]; rfl) (Nat.lt_succ_self _) _ _ hP hD hS _ (lv_sub hl [0, 1, 2, 3, 4, 5, 6] rfl)
        cases hu
        have hP : va_P (dC, dI) vwCl [(h, .inr (10, mdF qa x0 x2 x3 x4 x13 x14 x15 x16 x17 x18 x19 x20 x21 x22 x23 x24 x26 x27 x28)), (qa 5, .inl (cI, 32, .inl g5)), (qa 6, .inl (cI, 32, .inl g6)), (qa 7, .inl (cI, 32, .inl g7)), (qa 8, .inl (cI, 32, .inl g8)), (qa 9, .inl (cI, 32, .inl g9)), (qa 10, .inl (cB, 64000, .inl g10))] H := hP
        have hD : va_D A [(h, .inr (10, mdF qa x0 x2 x3 x4 x13 x14 x15 x16 x17 x18 x19 x20 x21 x22 x23 x24 x26 x27 x28)), (qa 5, .inl (cI, 32, .inl g5)), (qa 6, .inl (cI, 32, .inl g6)), (qa 7, .inl (cI, 32, .inl g7)), (qa 8, .inl (cI, 32, .inl g8)), (qa 9, .inl (cI, 32, .inl g9)), (qa 10, .inl (cB, 64000, .inl g10))] := hD
        refine g_topi (y := 0) hr_40 ?_
        refine lv_if_ne (tgt := 48) hx hb dX11_sample_43 (by decide) (fun c_43 => absurd c_43 (by decide)) (fun c_43 => ?_)
        refine lv_iconst (v := 0) hx hb dX11_sample_46 (by decide) ?_
        have hP9 := hP
        have hD9 := hD
        have hK9 := hK.sub (tys' := []) [] rfl
        exact W.zret (v := 0) hx hb hr (by decide) (fun t ht hW => ⟨⟨0, _, rfl, (Or.inr ⟨rfl, rfl, (sg_t (fun qv => hh_40 qv.2))⟩), by rw [ht]; exact hP9, va_K.moved hW.alike hK9, hD9⟩, hS.F ht⟩) hS.2.2 dX11_sample_47
      cases hu
      have hP : va_P (dC, dI) vwCl [(h, .inr (10, mdF qa x0 x2 x3 x4 x13 x14 x15 x16 x17 x18 x19 x20 x21 x22 x23 x24 x26 x27 x28)), (qa 5, .inl (cI, 32, .inl g5)), (qa 6, .inl (cI, 32, .inl g6)), (qa 7, .inl (cI, 32, .inl g7)), (qa 8, .inl (cI, 32, .inl g8)), (qa 9, .inl (cI, 32, .inl g9)), (qa 10, .inl (cB, 64000, .inl g10))] H := hP
      have hD : va_D A [(h, .inr (10, mdF qa x0 x2 x3 x4 x13 x14 x15 x16 x17 x18 x19 x20 x21 x22 x23 x24 x26 x27 x28)), (qa 5, .inl (cI, 32, .inl g5)), (qa 6, .inl (cI, 32, .inl g6)), (qa 7, .inl (cI, 32, .inl g7)), (qa 8, .inl (cI, 32, .inl g8)), (qa 9, .inl (cI, 32, .inl g9)), (qa 10, .inl (cB, 64000, .inl g10))] := hD
      refine g_topi (y := 0) hr_29 ?_
      refine lv_if_eq (tgt := 46) hx hb dX11_sample_32 (by decide) (fun c_32 => ?_) (fun c_32 => absurd c_32 (by decide))
      refine lv_iconst (v := 0) hx hb dX11_sample_46 (by decide) ?_
      have hP9 := hP
      have hD9 := hD
      have hK9 := hK.sub (tys' := []) [] rfl
      exact W.zret (v := 0) hx hb hr (by decide) (fun t ht hW => ⟨⟨0, _, rfl, (Or.inr ⟨rfl, rfl, (sg_t (fun qv => hh_29 qv.1))⟩), by rw [ht]; exact hP9, va_K.moved hW.alike hK9, hD9⟩, hS.F ht⟩) hS.2.2 dX11_sample_47
    cases hu
    have hP : va_P (dC, dI) vwCl [(h, .inr (10, mdF qa x0 x2 x3 x4 x13 x14 x15 x16 x17 x18 x19 x20 x21 x22 x23 x24 x26 x27 x28)), (qa 5, .inl (cI, 32, .inl g5)), (qa 6, .inl (cI, 32, .inl g6)), (qa 7, .inl (cI, 32, .inl g7)), (qa 8, .inl (cI, 32, .inl g8)), (qa 9, .inl (cI, 32, .inl g9)), (qa 10, .inl (cB, 64000, .inl g10))] H := hP
    have hD : va_D A [(h, .inr (10, mdF qa x0 x2 x3 x4 x13 x14 x15 x16 x17 x18 x19 x20 x21 x22 x23 x24 x26 x27 x28)), (qa 5, .inl (cI, 32, .inl g5)), (qa 6, .inl (cI, 32, .inl g6)), (qa 7, .inl (cI, 32, .inl g7)), (qa 8, .inl (cI, 32, .inl g8)), (qa 9, .inl (cI, 32, .inl g9)), (qa 10, .inl (cB, 64000, .inl g10))] := hD
    refine g_topi (y := 0) hr_12 ?_
    refine lv_if_eq (tgt := 46) hx hb dX11_sample_15 (by decide) (fun c_15 => ?_) (fun c_15 => absurd c_15 (by decide))
    refine lv_iconst (v := 0) hx hb dX11_sample_46 (by decide) ?_
    have hP9 := hP
    have hD9 := hD
    have hK9 := hK.sub (tys' := []) [] rfl
    exact W.zret (v := 0) hx hb hr (by decide) (fun t ht hW => ⟨⟨0, _, rfl, (Or.inr ⟨rfl, rfl, (sgm_n hh_12)⟩), by rw [ht]; exact hP9, va_K.moved hW.alike hK9, hD9⟩, hS.F ht⟩) hS.2.2 dX11_sample_47
  cases hu
  have hP : va_P (dC, dI) vwCl [(h, .inr (10, mdF qa x0 x2 x3 x4 x13 x14 x15 x16 x17 x18 x19 x20 x21 x22 x23 x24 x26 x27 x28)), (qa 5, .inl (cI, 32, .inl g5)), (qa 6, .inl (cI, 32, .inl g6)), (qa 7, .inl (cI, 32, .inl g7)), (qa 8, .inl (cI, 32, .inl g8)), (qa 9, .inl (cI, 32, .inl g9)), (qa 10, .inl (cB, 64000, .inl g10))] H := hP
  have hD : va_D A [(h, .inr (10, mdF qa x0 x2 x3 x4 x13 x14 x15 x16 x17 x18 x19 x20 x21 x22 x23 x24 x26 x27 x28)), (qa 5, .inl (cI, 32, .inl g5)), (qa 6, .inl (cI, 32, .inl g6)), (qa 7, .inl (cI, 32, .inl g7)), (qa 8, .inl (cI, 32, .inl g8)), (qa 9, .inl (cI, 32, .inl g9)), (qa 10, .inl (cB, 64000, .inl g10))] := hD
  refine g_topi (y := 0) hr_1 ?_
  refine lv_if_eq (tgt := 46) hx hb dX11_sample_4 (by decide) (fun c_4 => ?_) (fun c_4 => absurd c_4 (by decide))
  refine lv_iconst (v := 0) hx hb dX11_sample_46 (by decide) ?_
  have hP9 := hP
  have hD9 := hD
  have hK9 := hK.sub (tys' := []) [] rfl
  exact W.zret (v := 0) hx hb hr (by decide) (fun t ht hW => ⟨⟨0, _, rfl, (Or.inr ⟨rfl, rfl, (sg_has hh_1)⟩), by rw [ht]; exact hP9, va_K.moved hW.alike hK9, hD9⟩, hS.F ht⟩) hS.2.2 dX11_sample_47

set_option maxHeartbeats 400000 in
set_option maxRecDepth 100000 in
theorem X_mloop (l : Launch) (dC : Nat → ClassId) (dI : Nat → Nat → Nat) (sz : Nat) (h : Nat) (qa : Nat → Nat) (x0 x2 x3 x4 x13 x14 x15 x16 x17 x18 x19 x20 x21 x22 x23 x24 x26 x27 x28 : Int32) (cI : ClassId) (g5 g8 g9 : Nat → Int32) (sv av bv : Int32) (r_g5 : rg 32 0 2000 g5) (r_g8 : rg 32 0 131070 g8) (r_g9 : rg 32 0 131070 g9) : Met l yX11_loop (wsG (.code yX11_loop cX11_loop 4 (some .boolean))) ({ frames := 2, cells := 0, slots := 0, locals := 42 }) (va_Pc [.ref h, .int sv, .int av, .int bv] (gP (dC, dI) [(cI, .int)] [(h, .inr (10, mdF qa x0 x2 x3 x4 x13 x14 x15 x16 x17 x18 x19 x20 x21 x22 x23 x24 x26 x27 x28)), (qa 5, .inl (cI, 32, .inl g5)), (qa 8, .inl (cI, 32, .inl g8)), (qa 9, .inl (cI, 32, .inl g9))] sz)) (va_Qi (fun (r : Int32) (u : va_W × gT) => (∃ (ks : Nat) (k8 : Nat → Int32) (k9 : Nat → Int32), u = ([(h, .inr (10, mdF qa x0 x2 x3 x4 x13 x14 x15 x16 x17 x18 x19 x20 x21 x22 x23 x24 x26 x27 x28)), (qa 5, .inl (cI, 32, .inl g5)), (qa 8, .inl (cI, 32, .inl k8)), (qa 9, .inl (cI, 32, .inl k9))], []) ∧ r = 1 ∧ 1 ≤ ks ∧ ks < 32 ∧ sv = nI ks ∧ lfP (g5 ks) av bv ∧ k8 = upd g8 ks av ∧ k9 = upd g9 ks bv ∧ rg 32 0 131070 k8 ∧ rg 32 0 131070 k9) ∨ (u = ([(h, .inr (10, mdF qa x0 x2 x3 x4 x13 x14 x15 x16 x17 x18 x19 x20 x21 x22 x23 x24 x26 x27 x28)), (qa 5, .inl (cI, 32, .inl g5)), (qa 8, .inl (cI, 32, .inl g8)), (qa 9, .inl (cI, 32, .inl g9))], []) ∧ r = 0 ∧ ¬ loopG g5 sv av bv)) (gB (dC, dI) (va_A [(h, .inr (10, mdF qa x0 x2 x3 x4 x13 x14 x15 x16 x17 x18 x19 x20 x21 x22 x23 x24 x26 x27 x28)), (qa 5, .inl (cI, 32, .inl g5)), (qa 8, .inl (cI, 32, .inl g8)), (qa 9, .inl (cI, 32, .inl g9))] sz)) (va_A [(h, .inr (10, mdF qa x0 x2 x3 x4 x13 x14 x15 x16 x17 x18 x19 x20 x21 x22 x23 x24 x26 x27 x28)), (qa 5, .inl (cI, 32, .inl g5)), (qa 8, .inl (cI, 32, .inl g8)), (qa 9, .inl (cI, 32, .inl g9))] sz)) 0 0 (va_A [(h, .inr (10, mdF qa x0 x2 x3 x4 x13 x14 x15 x16 x17 x18 x19 x20 x21 x22 x23 x24 x26 x27 x28)), (qa 5, .inl (cI, 32, .inl g5)), (qa 8, .inl (cI, 32, .inl g8)), (qa 9, .inl (cI, 32, .inl g9))] sz) := by
  refine Met.ofW (cc := cX11_loop) (maxL := 4) (ret := (some .boolean)) (by decide) rfl ?_
  intro p e s m args below meth c s₁ B hml hv
  obtain ⟨rfl, hsz, hP, hK, hD0, hN, hZ⟩ := hv
  have hx := B.exec
  have hb := B.bytes
  have hr := B.returns
  have hts := atoms_spec (ws := (wsG (.code yX11_loop cX11_loop 4 (some .boolean)))) B.pre
  have hown : s.vm.findClass RX11 = some m.cls := findClass_of_methodNamed B.named
  have hlocks := B.notSynchronized
  subst hsz
  have hD := hD0.self (sz := s.heap.size)
  generalize hAe : va_A [(h, .inr (10, mdF qa x0 x2 x3 x4 x13 x14 x15 x16 x17 x18 x19 x20 x21 x22 x23 x24 x26 x27 x28)), (qa 5, .inl (cI, 32, .inl g5)), (qa 8, .inl (cI, 32, .inl g8)), (qa 9, .inl (cI, 32, .inl g9))] s.heap.size = A at hD hZ ⊢
  have hA : ∀ q : Nat, s.heap.size ≤ q → A q := fun q h => by rw [← hAe]; exact Or.inr h
  have hl := lv_entry ([.ref h, .int sv, .int av, .int bv]) (n := 4) (Nat.le_of_ble_eq_true rfl)
  rw [lg_entry_eq]
  generalize (lg_sl ([.ref h, .int sv, .int av, .int bv]) ++ List.replicate (4 - (lg_sl ([.ref h, .int sv, .int av, .int bv])).length) Slot.unset).toArray = ls at hl ⊢
  have hl : lv_has ls 4 [(0, .ref h), (1, .int sv), (2, .int av), (3, .int bv)] := hl
  refine g_start (A := A) hP (fun H locs hP hS => ?_)
  refine lv_iload_n hx hb dX11_loop_0 rfl (lv_at hl 1 rfl) ?_
  refine g_calli (wr := [(h, .inr (10, mdF qa x0 x2 x3 x4 x13 x14 x15 x16 x17 x18 x19 x20 x21 x22 x23 x24 x26 x27 x28)), (qa 5, .inl (cI, 32, .inl g5)), (qa 8, .inl (cI, 32, .inl g8)), (qa 9, .inl (cI, 32, .inl g9))]) (va_runS (As := [.int sv]) (rest := []) ⟨hx, hb, hml, hown, hts⟩ (m_isSample l dC dI H.size sv ) (va_cwS 1 hts (gG_S kw_542 kw_543 kw_5 kw_544) rfl rfl rfl (by decide +kernel) ⟨Nat.le_of_ble_eq_true rfl, Nat.le_of_ble_eq_true rfl⟩) (g_preS hP hD hK hS hA hN hZ [] (by decide) rfl [] rfl) rfl rfl hl.1 rfl (lv_room (Nat.le_of_ble_eq_true rfl)) dX11_loop_1 ⟨Nat.le_of_ble_eq_true rfl, Nat.le_of_ble_eq_true rfl⟩) hP hD hK hS hA [] [0, 1, 2, 3] rfl rfl (by decide +kernel) (by decide +kernel) (fun r_1 w ty1 H locs hw_1 hP hD _ hS => ?_)
  rcases hw_1 with ⟨hu, hr_1, hh_1⟩ | ⟨hu, hr_1, hh_1⟩
  · cases hu
    have hP : va_P (dC, dI) vwCl [(h, .inr (10, mdF qa x0 x2 x3 x4 x13 x14 x15 x16 x17 x18 x19 x20 x21 x22 x23 x24 x26 x27 x28)), (qa 5, .inl (cI, 32, .inl g5)), (qa 8, .inl (cI, 32, .inl g8)), (qa 9, .inl (cI, 32, .inl g9))] H := hP
    have hD : va_D A [(h, .inr (10, mdF qa x0 x2 x3 x4 x13 x14 x15 x16 x17 x18 x19 x20 x21 x22 x23 x24 x26 x27 x28)), (qa 5, .inl (cI, 32, .inl g5)), (qa 8, .inl (cI, 32, .inl g8)), (qa 9, .inl (cI, 32, .inl g9))] := hD
    refine g_topi (y := 1) hr_1 ?_
    obtain ⟨sq, hs1, hs2, hsq⟩ := in_1_31 hh_1
    subst hsq
    refine lv_if_eq (tgt := 41) hx hb dX11_loop_4 (by decide) (fun c_4 => absurd c_4 (by decide)) (fun c_4 => ?_)
    refine lv_iload_n hx hb dX11_loop_7 rfl (lv_at hl 2 rfl) ?_
    refine lv_iconst (v := 0) hx hb dX11_loop_8 (by decide) ?_
    refine lv_sipush (v := 2000) hx hb dX11_loop_9 (by decide) ?_
    refine g_calli (wr := [(h, .inr (10, mdF qa x0 x2 x3 x4 x13 x14 x15 x16 x17 x18 x19 x20 x21 x22 x23 x24 x26 x27 x28)), (qa 5, .inl (cI, 32, .inl g5)), (qa 8, .inl (cI, 32, .inl g8)), (qa 9, .inl (cI, 32, .inl g9))]) (va_runS (As := [.int av, .int 0, .int 2000]) (rest := []) ⟨hx, hb, hml, hown, hts⟩ (m_in l dC dI H.size av 0 2000 ) (va_cwS 3 hts (gG_S kw_266 kw_267 kw_5 kw_268) rfl rfl rfl (by decide +kernel) ⟨Nat.le_of_ble_eq_true rfl, Nat.le_of_ble_eq_true rfl⟩) (g_preS hP hD hK hS hA hN hZ [] (by decide) rfl [] rfl) rfl rfl hl.1 rfl (lv_room (Nat.le_of_ble_eq_true rfl)) dX11_loop_12 ⟨Nat.le_of_ble_eq_true rfl, Nat.le_of_ble_eq_true rfl⟩) hP hD hK hS hA [] [0, 1, 2, 3] rfl rfl (by decide +kernel) (by decide +kernel) (fun r_12 w ty1 H locs hw_12 hP hD _ hS => ?_)
    rcases hw_12 with ⟨hu, hr_12, hh_12⟩ | ⟨hu, hr_12, hh_12⟩
    · cases hu
      have hP : va_P (dC, dI) vwCl [(h, .inr (10, mdF qa x0 x2 x3 x4 x13 x14 x15 x16 x17 x18 x19 x20 x21 x22 x23 x24 x26 x27 x28)), (qa 5, .inl (cI, 32, .inl g5)), (qa 8, .inl (cI, 32, .inl g8)), (qa 9, .inl (cI, 32, .inl g9))] H := hP
      have hD : va_D A [(h, .inr (10, mdF qa x0 x2 x3 x4 x13 x14 x15 x16 x17 x18 x19 x20 x21 x22 x23 x24 x26 x27 x28)), (qa 5, .inl (cI, 32, .inl g5)), (qa 8, .inl (cI, 32, .inl g8)), (qa 9, .inl (cI, 32, .inl g9))] := hD
      refine g_topi (y := 1) hr_12 ?_
      refine lv_if_eq (tgt := 41) hx hb dX11_loop_15 (by decide) (fun c_15 => absurd c_15 (by decide)) (fun c_15 => ?_)
      refine lv_iload_n hx hb dX11_loop_18 rfl (lv_at hl 3 rfl) ?_
      refine lv_iconst (v := 0) hx hb dX11_loop_19 (by decide) ?_
      refine lv_sipush (v := 2000) hx hb dX11_loop_20 (by decide) ?_
      refine g_calli (wr := [(h, .inr (10, mdF qa x0 x2 x3 x4 x13 x14 x15 x16 x17 x18 x19 x20 x21 x22 x23 x24 x26 x27 x28)), (qa 5, .inl (cI, 32, .inl g5)), (qa 8, .inl (cI, 32, .inl g8)), (qa 9, .inl (cI, 32, .inl g9))]) (va_runS (As := [.int bv, .int 0, .int 2000]) (rest := []) ⟨hx, hb, hml, hown, hts⟩ (m_in l dC dI H.size bv 0 2000 ) (va_cwS 3 hts (gG_S kw_266 kw_267 kw_5 kw_268) rfl rfl rfl (by decide +kernel) ⟨Nat.le_of_ble_eq_true rfl, Nat.le_of_ble_eq_true rfl⟩) (g_preS hP hD hK hS hA hN hZ [] (by decide) rfl [] rfl) rfl rfl hl.1 rfl (lv_room (Nat.le_of_ble_eq_true rfl)) dX11_loop_23 ⟨Nat.le_of_ble_eq_true rfl, Nat.le_of_ble_eq_true rfl⟩) hP hD hK hS hA [] [0, 1, 2, 3] rfl rfl (by decide +kernel) (by decide +kernel) (fun r_23 w ty1 H locs hw_23 hP hD _ hS => ?_)
      rcases hw_23 with ⟨hu, hr_23, hh_23⟩ | ⟨hu, hr_23, hh_23⟩
      · cases hu
        have hP : va_P (dC, dI) vwCl [(h, .inr (10, mdF qa x0 x2 x3 x4 x13 x14 x15 x16 x17 x18 x19 x20 x21 x22 x23 x24 x26 x27 x28)), (qa 5, .inl (cI, 32, .inl g5)), (qa 8, .inl (cI, 32, .inl g8)), (qa 9, .inl (cI, 32, .inl g9))] H := hP
        have hD : va_D A [(h, .inr (10, mdF qa x0 x2 x3 x4 x13 x14 x15 x16 x17 x18 x19 x20 x21 x22 x23 x24 x26 x27 x28)), (qa 5, .inl (cI, 32, .inl g5)), (qa 8, .inl (cI, 32, .inl g8)), (qa 9, .inl (cI, 32, .inl g9))] := hD
        refine g_topi (y := 1) hr_23 ?_
        refine lv_if_eq (tgt := 41) hx hb dX11_loop_26 (by decide) (fun c_26 => absurd c_26 (by decide)) (fun c_26 => ?_)
        refine lv_iload_n hx hb dX11_loop_29 rfl (lv_at hl 2 rfl) ?_
        refine lv_iconst (v := 2) hx hb dX11_loop_30 (by decide) ?_
        refine lv_irem hx hb dX11_loop_31 (by decide) ?_
        refine lv_topi (fun tv_31 etv_31 => ?_)
        refine lv_if_ne (tgt := 41) hx hb dX11_loop_32 (by decide) (fun c_32 => ?_) (fun c_32 => ?_)
        · refine lv_iconst (v := 0) hx hb dX11_loop_41 (by decide) ?_
          have hP9 := hP
          have hD9 := hD
          have hK9 := hK.sub (tys' := []) [] rfl
          exact W.zret (v := 0) hx hb hr (by decide) (fun t ht hW => ⟨⟨0, _, rfl, (Or.inr ⟨rfl, rfl, (lgm_r (rg_ex r_g5) (fun qv => c_32 (etv_31 ▸ qv.2.2.1)))⟩), by rw [ht]; exact hP9, va_K.moved hW.alike hK9, hD9⟩, hS.F ht⟩) hS.2.2 dX11_loop_42
        refine lv_iload_n hx hb dX11_loop_35 rfl (lv_at hl 3 rfl) ?_
        refine lv_iconst (v := 2) hx hb dX11_loop_36 (by decide) ?_
        refine lv_irem hx hb dX11_loop_37 (by decide) ?_
        refine lv_topi (fun tv_37 etv_37 => ?_)
        refine lv_if_eq (tgt := 43) hx hb dX11_loop_38 (by decide) (fun c_38 => ?_) (fun c_38 => ?_)
        · refine lv_iload_n hx hb dX11_loop_43 rfl (lv_at hl 2 rfl) ?_
          refine lv_iload_n hx hb dX11_loop_44 rfl (lv_at hl 3 rfl) ?_
          refine lv_iconst (v := 2) hx hb dX11_loop_45 (by decide) ?_
          refine lv_icmp_le (tgt := 53) hx hb dX11_loop_46 (by decide) (fun c_46 => ?_) (fun c_46 => ?_)
          · refine lv_iconst (v := 0) hx hb dX11_loop_53 (by decide) ?_
            refine lv_iadd hx hb dX11_loop_54 ?_
            refine lv_aload_n hx hb dX11_loop_55 rfl (lv_at hl 0 rfl) ?_
            refine va_get (D := (dC, dI)) (ci := 10) (v := .ref (qa 5)) (C := RX11) (T := TX11) (N := 53) hx hb hts iwX11 hown hK hP 0 rfl rfl 5 (by decide) (hts (.fieldLink RX11 17 "ModulePlayerModel" "length" "[I") (List.mem_cons_of_mem _ kw_173)) (fun _ h9 => h9) rfl dX11_loop_56 ?_
            refine lv_iload_n hx hb dX11_loop_59 rfl (lv_at hl 1 rfl) ?_
            refine g_iald hx hb hK hP 1 0 rfl rfl sq (nI_clamp (Nat.lt_trans (show sq < 32 from hs2) (by decide))) (vp_in_nI (hs2) (by decide)) dX11_loop_60 ?_
            obtain ⟨jn_60, hjn_60, ejn_60⟩ := rg_nat (kx := sq) (mx := 2000) r_g5 (hs2) rfl
            refine g_topi (y := nI jn_60) ejn_60 ?_
            refine lv_icmp_le (tgt := 66) hx hb dX11_loop_61 (by decide) (fun c_61 => ?_) (fun c_61 => ?_)
            · have hlf : lfP (g5 sq) av bv := by rw [ejn_60]; exact (lp_iff hjn_60 hh_12 hh_23 (etv_31 ▸ c_32) (etv_37 ▸ c_38)).mpr (by rw [if_pos c_46]; have h9 := i_le.mp c_61; rw [Int32.add_zero, nI_toInt (by omega)] at h9; exact h9)
              refine lv_aload_n hx hb dX11_loop_66 rfl (lv_at hl 0 rfl) ?_
              refine va_get (D := (dC, dI)) (ci := 10) (v := .ref (qa 8)) (C := RX11) (T := TX11) (N := 53) hx hb hts iwX11 hown hK hP 0 rfl rfl 8 (by decide) (hts (.fieldLink RX11 27 "ModulePlayerModel" "from" "[I") (List.mem_cons_of_mem _ kw_176)) (fun _ h9 => h9) rfl dX11_loop_67 ?_
              refine lv_iload_n hx hb dX11_loop_70 rfl (lv_at hl 1 rfl) ?_
              refine lv_iload_n hx hb dX11_loop_71 rfl (lv_at hl 2 rfl) ?_
              refine g_iast hx hb hK hP hD hS 2 0 rfl rfl sq (nI_clamp (Nat.lt_trans (show sq < 32 from hs2) (by decide))) (vp_in_nI (hs2) (by decide)) dX11_loop_72 (fun H locs hP hD hS => ?_)
              have hP : va_P (dC, dI) vwCl [(h, .inr (10, mdF qa x0 x2 x3 x4 x13 x14 x15 x16 x17 x18 x19 x20 x21 x22 x23 x24 x26 x27 x28)), (qa 5, .inl (cI, 32, .inl g5)), (qa 8, .inl (cI, 32, .inl (upd g8 sq av))), (qa 9, .inl (cI, 32, .inl g9))] H := hP
              have hD : va_D A [(h, .inr (10, mdF qa x0 x2 x3 x4 x13 x14 x15 x16 x17 x18 x19 x20 x21 x22 x23 x24 x26 x27 x28)), (qa 5, .inl (cI, 32, .inl g5)), (qa 8, .inl (cI, 32, .inl (upd g8 sq av))), (qa 9, .inl (cI, 32, .inl g9))] := hD
              obtain ⟨u8_72, r_u8_72, eu8_72⟩ : ∃ ff : Nat → Int32, rg 32 0 131070 ff ∧ ff = upd g8 sq av := ⟨upd g8 sq av, rg_upd2 r_g8 (in2000' hh_12), rfl⟩
              rw [← eu8_72] at hP hD
              refine lv_aload_n hx hb dX11_loop_73 rfl (lv_at hl 0 rfl) ?_
              refine va_get (D := (dC, dI)) (ci := 10) (v := .ref (qa 9)) (C := RX11) (T := TX11) (N := 53) hx hb hts iwX11 hown hK hP 0 rfl rfl 9 (by decide) (hts (.fieldLink RX11 30 "ModulePlayerModel" "round" "[I") (List.mem_cons_of_mem _ kw_177)) (fun _ h9 => h9) rfl dX11_loop_74 ?_
              refine lv_iload_n hx hb dX11_loop_77 rfl (lv_at hl 1 rfl) ?_
              refine lv_iload_n hx hb dX11_loop_78 rfl (lv_at hl 3 rfl) ?_
              refine g_iast hx hb hK hP hD hS 3 0 rfl rfl sq (nI_clamp (Nat.lt_trans (show sq < 32 from hs2) (by decide))) (vp_in_nI (hs2) (by decide)) dX11_loop_79 (fun H locs hP hD hS => ?_)
              have hP : va_P (dC, dI) vwCl [(h, .inr (10, mdF qa x0 x2 x3 x4 x13 x14 x15 x16 x17 x18 x19 x20 x21 x22 x23 x24 x26 x27 x28)), (qa 5, .inl (cI, 32, .inl g5)), (qa 8, .inl (cI, 32, .inl u8_72)), (qa 9, .inl (cI, 32, .inl (upd g9 sq bv)))] H := hP
              have hD : va_D A [(h, .inr (10, mdF qa x0 x2 x3 x4 x13 x14 x15 x16 x17 x18 x19 x20 x21 x22 x23 x24 x26 x27 x28)), (qa 5, .inl (cI, 32, .inl g5)), (qa 8, .inl (cI, 32, .inl u8_72)), (qa 9, .inl (cI, 32, .inl (upd g9 sq bv)))] := hD
              obtain ⟨u9_79, r_u9_79, eu9_79⟩ : ∃ ff : Nat → Int32, rg 32 0 131070 ff ∧ ff = upd g9 sq bv := ⟨upd g9 sq bv, rg_upd2 r_g9 (in2000' hh_23), rfl⟩
              rw [← eu9_79] at hP hD
              refine lv_iconst (v := 1) hx hb dX11_loop_80 (by decide) ?_
              have hP9 := hP
              have hD9 := hD
              have hK9 := hK.sub (tys' := []) [] rfl
              exact W.zret (v := 1) hx hb hr (by decide) (fun t ht hW => ⟨⟨1, _, rfl, (Or.inl ⟨sq, u8_72, u9_79, rfl, rfl, hs1, hs2, rfl, hlf, eu8_72, eu9_79, r_u8_72, r_u9_79⟩), by rw [ht]; exact hP9, va_K.moved hW.alike hK9, hD9⟩, hS.F ht⟩) hS.2.2 dX11_loop_81
            have hnlf : ¬ lfP (nI jn_60) av bv := fun h7 => by have h8 := (lp_iff hjn_60 hh_12 hh_23 (etv_31 ▸ c_32) (etv_37 ▸ c_38)).mp h7; rw [if_pos c_46] at h8; exact c_61 (by rw [Int32.add_zero]; rw [i_le, nI_toInt (by omega)]; exact h8)
            refine lv_iconst (v := 0) hx hb dX11_loop_64 (by decide) ?_
            have hP9 := hP
            have hD9 := hD
            have hK9 := hK.sub (tys' := []) [] rfl
            exact W.zret (v := 0) hx hb hr (by decide) (fun t ht hW => ⟨⟨0, _, rfl, (Or.inr ⟨rfl, rfl, (lg_f hs2 (fun qv => hnlf (ejn_60 ▸ qv)))⟩), by rw [ht]; exact hP9, va_K.moved hW.alike hK9, hD9⟩, hS.F ht⟩) hS.2.2 dX11_loop_65
          refine lv_iload_n hx hb dX11_loop_49 rfl (lv_at hl 3 rfl) ?_
          refine lv_goto (tgt := 54) hx hb dX11_loop_50 (by decide) ?_
          refine lv_iadd hx hb dX11_loop_54 ?_
          refine lv_aload_n hx hb dX11_loop_55 rfl (lv_at hl 0 rfl) ?_
          refine va_get (D := (dC, dI)) (ci := 10) (v := .ref (qa 5)) (C := RX11) (T := TX11) (N := 53) hx hb hts iwX11 hown hK hP 0 rfl rfl 5 (by decide) (hts (.fieldLink RX11 17 "ModulePlayerModel" "length" "[I") (List.mem_cons_of_mem _ kw_173)) (fun _ h9 => h9) rfl dX11_loop_56 ?_
          refine lv_iload_n hx hb dX11_loop_59 rfl (lv_at hl 1 rfl) ?_
          refine g_iald hx hb hK hP 1 0 rfl rfl sq (nI_clamp (Nat.lt_trans (show sq < 32 from hs2) (by decide))) (vp_in_nI (hs2) (by decide)) dX11_loop_60 ?_
          obtain ⟨jn_60, hjn_60, ejn_60⟩ := rg_nat (kx := sq) (mx := 2000) r_g5 (hs2) rfl
          refine g_topi (y := nI jn_60) ejn_60 ?_
          refine lv_icmp_le (tgt := 66) hx hb dX11_loop_61 (by decide) (fun c_61 => ?_) (fun c_61 => ?_)
          · have hlf : lfP (g5 sq) av bv := by rw [ejn_60]; exact (lp_iff hjn_60 hh_12 hh_23 (etv_31 ▸ c_32) (etv_37 ▸ c_38)).mpr (by rw [if_neg c_46, ← i_sum hh_12 hh_23]; have h9 := i_le.mp c_61; rw [nI_toInt (by omega)] at h9; exact h9)
            refine lv_aload_n hx hb dX11_loop_66 rfl (lv_at hl 0 rfl) ?_
            refine va_get (D := (dC, dI)) (ci := 10) (v := .ref (qa 8)) (C := RX11) (T := TX11) (N := 53) hx hb hts iwX11 hown hK hP 0 rfl rfl 8 (by decide) (hts (.fieldLink RX11 27 "ModulePlayerModel" "from" "[I") (List.mem_cons_of_mem _ kw_176)) (fun _ h9 => h9) rfl dX11_loop_67 ?_
            refine lv_iload_n hx hb dX11_loop_70 rfl (lv_at hl 1 rfl) ?_
            refine lv_iload_n hx hb dX11_loop_71 rfl (lv_at hl 2 rfl) ?_
            refine g_iast hx hb hK hP hD hS 2 0 rfl rfl sq (nI_clamp (Nat.lt_trans (show sq < 32 from hs2) (by decide))) (vp_in_nI (hs2) (by decide)) dX11_loop_72 (fun H locs hP hD hS => ?_)
            have hP : va_P (dC, dI) vwCl [(h, .inr (10, mdF qa x0 x2 x3 x4 x13 x14 x15 x16 x17 x18 x19 x20 x21 x22 x23 x24 x26 x27 x28)), (qa 5, .inl (cI, 32, .inl g5)), (qa 8, .inl (cI, 32, .inl (upd g8 sq av))), (qa 9, .inl (cI, 32, .inl g9))] H := hP
            have hD : va_D A [(h, .inr (10, mdF qa x0 x2 x3 x4 x13 x14 x15 x16 x17 x18 x19 x20 x21 x22 x23 x24 x26 x27 x28)), (qa 5, .inl (cI, 32, .inl g5)), (qa 8, .inl (cI, 32, .inl (upd g8 sq av))), (qa 9, .inl (cI, 32, .inl g9))] := hD
            obtain ⟨u8_72, r_u8_72, eu8_72⟩ : ∃ ff : Nat → Int32, rg 32 0 131070 ff ∧ ff = upd g8 sq av := ⟨upd g8 sq av, rg_upd2 r_g8 (in2000' hh_12), rfl⟩
            rw [← eu8_72] at hP hD
            refine lv_aload_n hx hb dX11_loop_73 rfl (lv_at hl 0 rfl) ?_
            refine va_get (D := (dC, dI)) (ci := 10) (v := .ref (qa 9)) (C := RX11) (T := TX11) (N := 53) hx hb hts iwX11 hown hK hP 0 rfl rfl 9 (by decide) (hts (.fieldLink RX11 30 "ModulePlayerModel" "round" "[I") (List.mem_cons_of_mem _ kw_177)) (fun _ h9 => h9) rfl dX11_loop_74 ?_
            refine lv_iload_n hx hb dX11_loop_77 rfl (lv_at hl 1 rfl) ?_
            refine lv_iload_n hx hb dX11_loop_78 rfl (lv_at hl 3 rfl) ?_
            refine g_iast hx hb hK hP hD hS 3 0 rfl rfl sq (nI_clamp (Nat.lt_trans (show sq < 32 from hs2) (by decide))) (vp_in_nI (hs2) (by decide)) dX11_loop_79 (fun H locs hP hD hS => ?_)
            have hP : va_P (dC, dI) vwCl [(h, .inr (10, mdF qa x0 x2 x3 x4 x13 x14 x15 x16 x17 x18 x19 x20 x21 x22 x23 x24 x26 x27 x28)), (qa 5, .inl (cI, 32, .inl g5)), (qa 8, .inl (cI, 32, .inl u8_72)), (qa 9, .inl (cI, 32, .inl (upd g9 sq bv)))] H := hP
            have hD : va_D A [(h, .inr (10, mdF qa x0 x2 x3 x4 x13 x14 x15 x16 x17 x18 x19 x20 x21 x22 x23 x24 x26 x27 x28)), (qa 5, .inl (cI, 32, .inl g5)), (qa 8, .inl (cI, 32, .inl u8_72)), (qa 9, .inl (cI, 32, .inl (upd g9 sq bv)))] := hD
            obtain ⟨u9_79, r_u9_79, eu9_79⟩ : ∃ ff : Nat → Int32, rg 32 0 131070 ff ∧ ff = upd g9 sq bv := ⟨upd g9 sq bv, rg_upd2 r_g9 (in2000' hh_23), rfl⟩
            rw [← eu9_79] at hP hD
            refine lv_iconst (v := 1) hx hb dX11_loop_80 (by decide) ?_
            have hP9 := hP
            have hD9 := hD
            have hK9 := hK.sub (tys' := []) [] rfl
            exact W.zret (v := 1) hx hb hr (by decide) (fun t ht hW => ⟨⟨1, _, rfl, (Or.inl ⟨sq, u8_72, u9_79, rfl, rfl, hs1, hs2, rfl, hlf, eu8_72, eu9_79, r_u8_72, r_u9_79⟩), by rw [ht]; exact hP9, va_K.moved hW.alike hK9, hD9⟩, hS.F ht⟩) hS.2.2 dX11_loop_81
          have hnlf : ¬ lfP (nI jn_60) av bv := fun h7 => by have h8 := (lp_iff hjn_60 hh_12 hh_23 (etv_31 ▸ c_32) (etv_37 ▸ c_38)).mp h7; rw [if_neg c_46, ← i_sum hh_12 hh_23] at h8; exact c_61 (by rw [i_le, nI_toInt (by omega)]; exact h8)
          refine lv_iconst (v := 0) hx hb dX11_loop_64 (by decide) ?_
          have hP9 := hP
          have hD9 := hD
          have hK9 := hK.sub (tys' := []) [] rfl
          exact W.zret (v := 0) hx hb hr (by decide) (fun t ht hW => ⟨⟨0, _, rfl, (Or.inr ⟨rfl, rfl, (lg_f hs2 (fun qv => hnlf (ejn_60 ▸ qv)))⟩), by rw [ht]; exact hP9, va_K.moved hW.alike hK9, hD9⟩, hS.F ht⟩) hS.2.2 dX11_loop_65
        refine lv_iconst (v := 0) hx hb dX11_loop_41 (by decide) ?_
        have hP9 := hP
        have hD9 := hD
        have hK9 := hK.sub (tys' := []) [] rfl
        exact W.zret (v := 0) hx hb hr (by decide) (fun t ht hW => ⟨⟨0, _, rfl, (Or.inr ⟨rfl, rfl, (lgm_r (rg_ex r_g5) (fun qv => c_38 (etv_37 ▸ qv.2.2.2)))⟩), by rw [ht]; exact hP9, va_K.moved hW.alike hK9, hD9⟩, hS.F ht⟩) hS.2.2 dX11_loop_42
      cases hu
      have hP : va_P (dC, dI) vwCl [(h, .inr (10, mdF qa x0 x2 x3 x4 x13 x14 x15 x16 x17 x18 x19 x20 x21 x22 x23 x24 x26 x27 x28)), (qa 5, .inl (cI, 32, .inl g5)), (qa 8, .inl (cI, 32, .inl g8)), (qa 9, .inl (cI, 32, .inl g9))] H := hP
      have hD : va_D A [(h, .inr (10, mdF qa x0 x2 x3 x4 x13 x14 x15 x16 x17 x18 x19 x20 x21 x22 x23 x24 x26 x27 x28)), (qa 5, .inl (cI, 32, .inl g5)), (qa 8, .inl (cI, 32, .inl g8)), (qa 9, .inl (cI, 32, .inl g9))] := hD
      refine g_topi (y := 0) hr_23 ?_
      refine lv_if_eq (tgt := 41) hx hb dX11_loop_26 (by decide) (fun c_26 => ?_) (fun c_26 => absurd c_26 (by decide))
      refine lv_iconst (v := 0) hx hb dX11_loop_41 (by decide) ?_
      have hP9 := hP
      have hD9 := hD
      have hK9 := hK.sub (tys' := []) [] rfl
      exact W.zret (v := 0) hx hb hr (by decide) (fun t ht hW => ⟨⟨0, _, rfl, (Or.inr ⟨rfl, rfl, (lgm_r (rg_ex r_g5) (fun qv => hh_23 qv.2.1))⟩), by rw [ht]; exact hP9, va_K.moved hW.alike hK9, hD9⟩, hS.F ht⟩) hS.2.2 dX11_loop_42
    cases hu
    have hP : va_P (dC, dI) vwCl [(h, .inr (10, mdF qa x0 x2 x3 x4 x13 x14 x15 x16 x17 x18 x19 x20 x21 x22 x23 x24 x26 x27 x28)), (qa 5, .inl (cI, 32, .inl g5)), (qa 8, .inl (cI, 32, .inl g8)), (qa 9, .inl (cI, 32, .inl g9))] H := hP
    have hD : va_D A [(h, .inr (10, mdF qa x0 x2 x3 x4 x13 x14 x15 x16 x17 x18 x19 x20 x21 x22 x23 x24 x26 x27 x28)), (qa 5, .inl (cI, 32, .inl g5)), (qa 8, .inl (cI, 32, .inl g8)), (qa 9, .inl (cI, 32, .inl g9))] := hD
    refine g_topi (y := 0) hr_12 ?_
    refine lv_if_eq (tgt := 41) hx hb dX11_loop_15 (by decide) (fun c_15 => ?_) (fun c_15 => absurd c_15 (by decide))
    refine lv_iconst (v := 0) hx hb dX11_loop_41 (by decide) ?_
    have hP9 := hP
    have hD9 := hD
    have hK9 := hK.sub (tys' := []) [] rfl
    exact W.zret (v := 0) hx hb hr (by decide) (fun t ht hW => ⟨⟨0, _, rfl, (Or.inr ⟨rfl, rfl, (lgm_r (rg_ex r_g5) (fun qv => hh_12 qv.1))⟩), by rw [ht]; exact hP9, va_K.moved hW.alike hK9, hD9⟩, hS.F ht⟩) hS.2.2 dX11_loop_42
  cases hu
  have hP : va_P (dC, dI) vwCl [(h, .inr (10, mdF qa x0 x2 x3 x4 x13 x14 x15 x16 x17 x18 x19 x20 x21 x22 x23 x24 x26 x27 x28)), (qa 5, .inl (cI, 32, .inl g5)), (qa 8, .inl (cI, 32, .inl g8)), (qa 9, .inl (cI, 32, .inl g9))] H := hP
  have hD : va_D A [(h, .inr (10, mdF qa x0 x2 x3 x4 x13 x14 x15 x16 x17 x18 x19 x20 x21 x22 x23 x24 x26 x27 x28)), (qa 5, .inl (cI, 32, .inl g5)), (qa 8, .inl (cI, 32, .inl g8)), (qa 9, .inl (cI, 32, .inl g9))] := hD
  refine g_topi (y := 0) hr_1 ?_
  refine lv_if_eq (tgt := 41) hx hb dX11_loop_4 (by decide) (fun c_4 => ?_) (fun c_4 => absurd c_4 (by decide))
  refine lv_iconst (v := 0) hx hb dX11_loop_41 (by decide) ?_
  have hP9 := hP
  have hD9 := hD
  have hK9 := hK.sub (tys' := []) [] rfl
  exact W.zret (v := 0) hx hb hr (by decide) (fun t ht hW => ⟨⟨0, _, rfl, (Or.inr ⟨rfl, rfl, (lg_has hh_1)⟩), by rw [ht]; exact hP9, va_K.moved hW.alike hK9, hD9⟩, hS.F ht⟩) hS.2.2 dX11_loop_42

set_option maxHeartbeats 400000 in
set_option maxRecDepth 100000 in
theorem X_mwave (l : Launch) (dC : Nat → ClassId) (dI : Nat → Nat → Nat) (sz : Nat) (h : Nat) (qa : Nat → Nat) (x0 x2 x3 x4 x13 x14 x15 x16 x17 x18 x19 x20 x21 x22 x23 x24 x26 x27 x28 : Int32) (cI cB : ClassId) (g5 g10 : Nat → Int32) (sv jv vv : Int32) (r_g5 : rg 32 0 2000 g5) : Met l yX11_wave (wsG (.code yX11_wave cX11_wave 4 (some .boolean))) ({ frames := 2, cells := 0, slots := 0, locals := 42 }) (va_Pc [.ref h, .int sv, .int jv, .int vv] (gP (dC, dI) [(cI, .int), (cB, .byte)] [(h, .inr (10, mdF qa x0 x2 x3 x4 x13 x14 x15 x16 x17 x18 x19 x20 x21 x22 x23 x24 x26 x27 x28)), (qa 5, .inl (cI, 32, .inl g5)), (qa 10, .inl (cB, 64000, .inl g10))] sz)) (va_Qi (fun (r : Int32) (u : va_W × gT) => (∃ (ks : Nat) (js : Nat) (k10 : Nat → Int32), u = ([(h, .inr (10, mdF qa x0 x2 x3 x4 x13 x14 x15 x16 x17 x18 x19 x20 x21 x22 x23 x24 x26 x27 x28)), (qa 5, .inl (cI, 32, .inl g5)), (qa 10, .inl (cB, 64000, .inl k10))], []) ∧ r = 1 ∧ 1 ≤ ks ∧ ks < 32 ∧ sv = nI ks ∧ jv = nI js ∧ nI js < g5 ks ∧ js < 2000 ∧ ((-128 ≤ vv ∧ vv ≤ 127)) ∧ k10 = upd g10 (2000 * ks + js) vv.toInt8.toInt32) ∨ (u = ([(h, .inr (10, mdF qa x0 x2 x3 x4 x13 x14 x15 x16 x17 x18 x19 x20 x21 x22 x23 x24 x26 x27 x28)), (qa 5, .inl (cI, 32, .inl g5)), (qa 10, .inl (cB, 64000, .inl g10))], []) ∧ r = 0 ∧ ¬ waveG g5 sv jv vv)) (gB (dC, dI) (va_A [(h, .inr (10, mdF qa x0 x2 x3 x4 x13 x14 x15 x16 x17 x18 x19 x20 x21 x22 x23 x24 x26 x27 x28)), (qa 5, .inl (cI, 32, .inl g5)), (qa 10, .inl (cB, 64000, .inl g10))] sz)) (va_A [(h, .inr (10, mdF qa x0 x2 x3 x4 x13 x14 x15 x16 x17 x18 x19 x20 x21 x22 x23 x24 x26 x27 x28)), (qa 5, .inl (cI, 32, .inl g5)), (qa 10, .inl (cB, 64000, .inl g10))] sz)) 0 0 (va_A [(h, .inr (10, mdF qa x0 x2 x3 x4 x13 x14 x15 x16 x17 x18 x19 x20 x21 x22 x23 x24 x26 x27 x28)), (qa 5, .inl (cI, 32, .inl g5)), (qa 10, .inl (cB, 64000, .inl g10))] sz) := by
  refine Met.ofW (cc := cX11_wave) (maxL := 4) (ret := (some .boolean)) (by decide) rfl ?_
  intro p e s m args below meth c s₁ B hml hv
  obtain ⟨rfl, hsz, hP, hK, hD0, hN, hZ⟩ := hv
  have hx := B.exec
  have hb := B.bytes
  have hr := B.returns
  have hts := atoms_spec (ws := (wsG (.code yX11_wave cX11_wave 4 (some .boolean)))) B.pre
  have hown : s.vm.findClass RX11 = some m.cls := findClass_of_methodNamed B.named
  have hlocks := B.notSynchronized
  subst hsz
  have hD := hD0.self (sz := s.heap.size)
  generalize hAe : va_A [(h, .inr (10, mdF qa x0 x2 x3 x4 x13 x14 x15 x16 x17 x18 x19 x20 x21 x22 x23 x24 x26 x27 x28)), (qa 5, .inl (cI, 32, .inl g5)), (qa 10, .inl (cB, 64000, .inl g10))] s.heap.size = A at hD hZ ⊢
  have hA : ∀ q : Nat, s.heap.size ≤ q → A q := fun q h => by rw [← hAe]; exact Or.inr h
  have hl := lv_entry ([.ref h, .int sv, .int jv, .int vv]) (n := 4) (Nat.le_of_ble_eq_true rfl)
  rw [lg_entry_eq]
  generalize (lg_sl ([.ref h, .int sv, .int jv, .int vv]) ++ List.replicate (4 - (lg_sl ([.ref h, .int sv, .int jv, .int vv])).length) Slot.unset).toArray = ls at hl ⊢
  have hl : lv_has ls 4 [(0, .ref h), (1, .int sv), (2, .int jv), (3, .int vv)] := hl
  refine g_start (A := A) hP (fun H locs hP hS => ?_)
  refine lv_iload_n hx hb dX11_wave_0 rfl (lv_at hl 1 rfl) ?_
  refine g_calli (wr := [(h, .inr (10, mdF qa x0 x2 x3 x4 x13 x14 x15 x16 x17 x18 x19 x20 x21 x22 x23 x24 x26 x27 x28)), (qa 5, .inl (cI, 32, .inl g5)), (qa 10, .inl (cB, 64000, .inl g10))]) (va_runS (As := [.int sv]) (rest := []) ⟨hx, hb, hml, hown, hts⟩ (m_isSample l dC dI H.size sv ) (va_cwS 1 hts (gG_S kw_542 kw_543 kw_5 kw_544) rfl rfl rfl (by decide +kernel) ⟨Nat.le_of_ble_eq_true rfl, Nat.le_of_ble_eq_true rfl⟩) (g_preS hP hD hK hS hA hN hZ [] (by decide) rfl [] rfl) rfl rfl hl.1 rfl (lv_room (Nat.le_of_ble_eq_true rfl)) dX11_wave_1 ⟨Nat.le_of_ble_eq_true rfl, Nat.le_of_ble_eq_true rfl⟩) hP hD hK hS hA [] [0, 1, 2] rfl rfl (by decide +kernel) (by decide +kernel) (fun r_1 w ty1 H locs hw_1 hP hD _ hS => ?_)
  rcases hw_1 with ⟨hu, hr_1, hh_1⟩ | ⟨hu, hr_1, hh_1⟩
  · cases hu
    have hP : va_P (dC, dI) vwCl [(h, .inr (10, mdF qa x0 x2 x3 x4 x13 x14 x15 x16 x17 x18 x19 x20 x21 x22 x23 x24 x26 x27 x28)), (qa 5, .inl (cI, 32, .inl g5)), (qa 10, .inl (cB, 64000, .inl g10))] H := hP
    have hD : va_D A [(h, .inr (10, mdF qa x0 x2 x3 x4 x13 x14 x15 x16 x17 x18 x19 x20 x21 x22 x23 x24 x26 x27 x28)), (qa 5, .inl (cI, 32, .inl g5)), (qa 10, .inl (cB, 64000, .inl g10))] := hD
    refine g_topi (y := 1) hr_1 ?_
    obtain ⟨sq, hs1, hs2, hsq⟩ := in_1_31 hh_1
    subst hsq
    refine lv_if_eq (tgt := 34) hx hb dX11_wave_4 (by decide) (fun c_4 => absurd c_4 (by decide)) (fun c_4 => ?_)
    refine lv_iload_n hx hb dX11_wave_7 rfl (lv_at hl 2 rfl) ?_
    refine lv_iconst (v := 0) hx hb dX11_wave_8 (by decide) ?_
    refine lv_aload_n hx hb dX11_wave_9 rfl (lv_at hl 0 rfl) ?_
    refine va_get (D := (dC, dI)) (ci := 10) (v := .ref (qa 5)) (C := RX11) (T := TX11) (N := 53) hx hb hts iwX11 hown hK hP 0 rfl rfl 5 (by decide) (hts (.fieldLink RX11 17 "ModulePlayerModel" "length" "[I") (List.mem_cons_of_mem _ kw_173)) (fun _ h9 => h9) rfl dX11_wave_10 ?_
    refine lv_iload_n hx hb dX11_wave_13 rfl (lv_at hl 1 rfl) ?_
    refine g_iald hx hb hK hP 1 0 rfl rfl sq (nI_clamp (Nat.lt_trans (show sq < 32 from by omega) (by decide))) (vp_in_nI (by omega) (by decide)) dX11_wave_14 ?_
    obtain ⟨jn_14, hjn_14, ejn_14⟩ := rg_nat (kx := sq) (mx := 2000) r_g5 (by omega) rfl
    refine g_topi (y := nI jn_14) ejn_14 ?_
    refine lv_iconst (v := 1) hx hb dX11_wave_15 (by decide) ?_
    refine lv_isub hx hb dX11_wave_16 ?_
    refine g_calli (wr := [(h, .inr (10, mdF qa x0 x2 x3 x4 x13 x14 x15 x16 x17 x18 x19 x20 x21 x22 x23 x24 x26 x27 x28)), (qa 5, .inl (cI, 32, .inl g5)), (qa 10, .inl (cB, 64000, .inl g10))]) (va_runS (As := [.int jv, .int 0, .int ((nI jn_14) - 1)]) (rest := []) ⟨hx, hb, hml, hown, hts⟩ (m_in l dC dI H.size jv 0 ((nI jn_14) - 1) ) (va_cwS 3 hts (gG_S kw_266 kw_267 kw_5 kw_268) rfl rfl rfl (by decide +kernel) ⟨Nat.le_of_ble_eq_true rfl, Nat.le_of_ble_eq_true rfl⟩) (g_preS hP hD hK hS hA hN hZ [] (by decide) rfl [] rfl) rfl rfl hl.1 rfl (lv_room (Nat.le_of_ble_eq_true rfl)) dX11_wave_17 ⟨Nat.le_of_ble_eq_true rfl, Nat.le_of_ble_eq_true rfl⟩) hP hD hK hS hA [] [0, 1, 2] rfl rfl (by decide +kernel) (by decide +kernel) (fun r_17 w ty1 H locs hw_17 hP hD _ hS => ?_)
    rcases hw_17 with ⟨hu, hr_17, hh_17⟩ | ⟨hu, hr_17, hh_17⟩
    · cases hu
      have hP : va_P (dC, dI) vwCl [(h, .inr (10, mdF qa x0 x2 x3 x4 x13 x14 x15 x16 x17 x18 x19 x20 x21 x22 x23 x24 x26 x27 x28)), (qa 5, .inl (cI, 32, .inl g5)), (qa 10, .inl (cB, 64000, .inl g10))] H := hP
      have hD : va_D A [(h, .inr (10, mdF qa x0 x2 x3 x4 x13 x14 x15 x16 x17 x18 x19 x20 x21 x22 x23 x24 x26 x27 x28)), (qa 5, .inl (cI, 32, .inl g5)), (qa 10, .inl (cB, 64000, .inl g10))] := hD
      refine g_topi (y := 1) hr_17 ?_
      obtain ⟨jw, hjw, hij⟩ := i_in (n := jn_14) (by omega) ((tp_in (by omega)).mp hh_17).1 ((tp_in (by omega)).mp hh_17).2
      subst hij
      have hjs9 : nI jw < g5 sq := by rw [ejn_14]; exact nI_lt hjw (by omega)
      refine lv_if_eq (tgt := 34) hx hb dX11_wave_20 (by decide) (fun c_20 => absurd c_20 (by decide)) (fun c_20 => ?_)
      refine lv_iload_n hx hb dX11_wave_23 rfl (lv_at hl 3 rfl) ?_
      refine lv_bipush (v := (-128)) hx hb dX11_wave_24 (by decide) ?_
      refine lv_bipush (v := 127) hx hb dX11_wave_26 (by decide) ?_
      refine g_calli (wr := [(h, .inr (10, mdF qa x0 x2 x3 x4 x13 x14 x15 x16 x17 x18 x19 x20 x21 x22 x23 x24 x26 x27 x28)), (qa 5, .inl (cI, 32, .inl g5)), (qa 10, .inl (cB, 64000, .inl g10))]) (va_runS (As := [.int vv, .int (-128), .int 127]) (rest := []) ⟨hx, hb, hml, hown, hts⟩ (m_in l dC dI H.size vv (-128) 127 ) (va_cwS 3 hts (gG_S kw_266 kw_267 kw_5 kw_268) rfl rfl rfl (by decide +kernel) ⟨Nat.le_of_ble_eq_true rfl, Nat.le_of_ble_eq_true rfl⟩) (g_preS hP hD hK hS hA hN hZ [] (by decide) rfl [] rfl) rfl rfl hl.1 rfl (lv_room (Nat.le_of_ble_eq_true rfl)) dX11_wave_28 ⟨Nat.le_of_ble_eq_true rfl, Nat.le_of_ble_eq_true rfl⟩) hP hD hK hS hA [] [0, 1, 2] rfl rfl (by decide +kernel) (by decide +kernel) (fun r_28 w ty1 H locs hw_28 hP hD _ hS => ?_)
      rcases hw_28 with ⟨hu, hr_28, hh_28⟩ | ⟨hu, hr_28, hh_28⟩
      · cases hu
        have hP : va_P (dC, dI) vwCl [(h, .inr (10, mdF qa x0 x2 x3 x4 x13 x14 x15 x16 x17 x18 x19 x20 x21 x22 x23 x24 x26 x27 x28)), (qa 5, .inl (cI, 32, .inl g5)), (qa 10, .inl (cB, 64000, .inl g10))] H := hP
        have hD : va_D A [(h, .inr (10, mdF qa x0 x2 x3 x4 x13 x14 x15 x16 x17 x18 x19 x20 x21 x22 x23 x24 x26 x27 x28)), (qa 5, .inl (cI, 32, .inl g5)), (qa 10, .inl (cB, 64000, .inl g10))] := hD
        refine g_topi (y := 1) hr_28 ?_
        refine lv_if_ne (tgt := 36) hx hb dX11_wave_31 (by decide) (fun c_31 => ?_) (fun c_31 => absurd c_31 (by decide))
        refine lv_aload_n hx hb dX11_wave_36 rfl (lv_at hl 0 rfl) ?_
        refine va_get (D := (dC, dI)) (ci := 10) (v := .ref (qa 10)) (C := RX11) (T := TX11) (N := 53) hx hb hts iwX11 hown hK hP 0 rfl rfl 10 (by decide) (hts (.fieldLink RX11 34 "ModulePlayerModel" "waves" "[B") (List.mem_cons_of_mem _ kw_179)) (fun _ h9 => h9) rfl dX11_wave_37 ?_
        refine lv_sipush (v := 2000) hx hb dX11_wave_40 (by decide) ?_
        refine lv_iload_n hx hb dX11_wave_43 rfl (lv_at hl 1 rfl) ?_
        refine lv_imul hx hb dX11_wave_44 ?_
        refine g_topi (y := nI (2000 * sq)) (pk_mul 2000 _) ?_
        refine lv_iload_n hx hb dX11_wave_45 rfl (lv_at hl 2 rfl) ?_
        refine lv_iadd hx hb dX11_wave_46 ?_
        refine g_topi (y := nI (2000 * sq + jw)) (nI_add _ _) ?_
        refine lv_iload_n hx hb dX11_wave_47 rfl (lv_at hl 3 rfl) ?_
        refine lv_i2b (v := vv.toInt8.toInt32) hx hb dX11_wave_48 rfl ?_
        refine g_bast hx hb hK hP hD hS 2 1 rfl rfl (x' := vv.toInt8.toInt32) (pk_vb _) (2000 * sq + jw) (nI_clamp (Nat.lt_trans (show 2000 * sq + jw < 64000 from by omega) (by decide))) (vp_in_nI (by omega) (by decide)) dX11_wave_49 (fun H locs hP hD hS => ?_)
        have hP : va_P (dC, dI) vwCl [(h, .inr (10, mdF qa x0 x2 x3 x4 x13 x14 x15 x16 x17 x18 x19 x20 x21 x22 x23 x24 x26 x27 x28)), (qa 5, .inl (cI, 32, .inl g5)), (qa 10, .inl (cB, 64000, .inl (upd g10 (2000 * sq + jw) vv.toInt8.toInt32)))] H := hP
        have hD : va_D A [(h, .inr (10, mdF qa x0 x2 x3 x4 x13 x14 x15 x16 x17 x18 x19 x20 x21 x22 x23 x24 x26 x27 x28)), (qa 5, .inl (cI, 32, .inl g5)), (qa 10, .inl (cB, 64000, .inl (upd g10 (2000 * sq + jw) vv.toInt8.toInt32)))] := hD
        obtain ⟨u10_49, eu10_49⟩ : ∃ ff : Nat → Int32, ff = upd g10 (2000 * sq + jw) vv.toInt8.toInt32 := ⟨_, rfl⟩
        rw [← eu10_49] at hP hD
        refine lv_iconst (v := 1) hx hb dX11_wave_50 (by decide) ?_
        have hP9 := hP
        have hD9 := hD
        have hK9 := hK.sub (tys' := []) [] rfl
        exact W.zret (v := 1) hx hb hr (by decide) (fun t ht hW => ⟨⟨1, _, rfl, (Or.inl ⟨sq, jw, u10_49, rfl, rfl, hs1, hs2, rfl, rfl, hjs9, (by omega), hh_28, eu10_49⟩), by rw [ht]; exact hP9, va_K.moved hW.alike hK9, hD9⟩, hS.F ht⟩) hS.2.2 dX11_wave_51
      cases hu
      have hP : va_P (dC, dI) vwCl [(h, .inr (10, mdF qa x0 x2 x3 x4 x13 x14 x15 x16 x17 x18 x19 x20 x21 x22 x23 x24 x26 x27 x28)), (qa 5, .inl (cI, 32, .inl g5)), (qa 10, .inl (cB, 64000, .inl g10))] H := hP
      have hD : va_D A [(h, .inr (10, mdF qa x0 x2 x3 x4 x13 x14 x15 x16 x17 x18 x19 x20 x21 x22 x23 x24 x26 x27 x28)), (qa 5, .inl (cI, 32, .inl g5)), (qa 10, .inl (cB, 64000, .inl g10))] := hD
      refine g_topi (y := 0) hr_28 ?_
      refine lv_if_ne (tgt := 36) hx hb dX11_wave_31 (by decide) (fun c_31 => absurd c_31 (by decide)) (fun c_31 => ?_)
      refine lv_iconst (v := 0) hx hb dX11_wave_34 (by decide) ?_
      have hP9 := hP
      have hD9 := hD
      have hK9 := hK.sub (tys' := []) [] rfl
      exact W.zret (v := 0) hx hb hr (by decide) (fun t ht hW => ⟨⟨0, _, rfl, (Or.inr ⟨rfl, rfl, (wg_v hh_28)⟩), by rw [ht]; exact hP9, va_K.moved hW.alike hK9, hD9⟩, hS.F ht⟩) hS.2.2 dX11_wave_35
    cases hu
    have hP : va_P (dC, dI) vwCl [(h, .inr (10, mdF qa x0 x2 x3 x4 x13 x14 x15 x16 x17 x18 x19 x20 x21 x22 x23 x24 x26 x27 x28)), (qa 5, .inl (cI, 32, .inl g5)), (qa 10, .inl (cB, 64000, .inl g10))] H := hP
    have hD : va_D A [(h, .inr (10, mdF qa x0 x2 x3 x4 x13 x14 x15 x16 x17 x18 x19 x20 x21 x22 x23 x24 x26 x27 x28)), (qa 5, .inl (cI, 32, .inl g5)), (qa 10, .inl (cB, 64000, .inl g10))] := hD
    refine g_topi (y := 0) hr_17 ?_
    refine lv_if_eq (tgt := 34) hx hb dX11_wave_20 (by decide) (fun c_20 => ?_) (fun c_20 => absurd c_20 (by decide))
    refine lv_iconst (v := 0) hx hb dX11_wave_34 (by decide) ?_
    have hP9 := hP
    have hD9 := hD
    have hK9 := hK.sub (tys' := []) [] rfl
    exact W.zret (v := 0) hx hb hr (by decide) (fun t ht hW => ⟨⟨0, _, rfl, (Or.inr ⟨rfl, rfl, (wg_f hs2 (fun qv => hh_17 ((tp_in (by omega)).mpr (ejn_14 ▸ qv))))⟩), by rw [ht]; exact hP9, va_K.moved hW.alike hK9, hD9⟩, hS.F ht⟩) hS.2.2 dX11_wave_35
  cases hu
  have hP : va_P (dC, dI) vwCl [(h, .inr (10, mdF qa x0 x2 x3 x4 x13 x14 x15 x16 x17 x18 x19 x20 x21 x22 x23 x24 x26 x27 x28)), (qa 5, .inl (cI, 32, .inl g5)), (qa 10, .inl (cB, 64000, .inl g10))] H := hP
  have hD : va_D A [(h, .inr (10, mdF qa x0 x2 x3 x4 x13 x14 x15 x16 x17 x18 x19 x20 x21 x22 x23 x24 x26 x27 x28)), (qa 5, .inl (cI, 32, .inl g5)), (qa 10, .inl (cB, 64000, .inl g10))] := hD
  refine g_topi (y := 0) hr_1 ?_
  refine lv_if_eq (tgt := 34) hx hb dX11_wave_4 (by decide) (fun c_4 => ?_) (fun c_4 => absurd c_4 (by decide))
  refine lv_iconst (v := 0) hx hb dX11_wave_34 (by decide) ?_
  have hP9 := hP
  have hD9 := hD
  have hK9 := hK.sub (tys' := []) [] rfl
  exact W.zret (v := 0) hx hb hr (by decide) (fun t ht hW => ⟨⟨0, _, rfl, (Or.inr ⟨rfl, rfl, (wg_has hh_1)⟩), by rw [ht]; exact hP9, va_K.moved hW.alike hK9, hD9⟩, hS.F ht⟩) hS.2.2 dX11_wave_35

