set_option maxHeartbeats 400000 in
set_option maxRecDepth 100000 in
theorem m_first (l : Launch) (dC : Nat → ClassId) (dI : Nat → Nat → Nat) (sz : Nat) (h : Nat) (qa : Nat → Nat) (x0 x2 x3 x4 x13 x14 x15 x16 x17 x18 x19 x20 x21 x22 x23 x24 x26 x27 x28 : Int32) (cI cJ cZ : ClassId) (g5 g31 g32 g33 g34 g37 g38 g40 g41 g43 g44 g45 g46 g51 : Nat → Int32) (g50 : Nat → Int64) (cv : Nat) (v : Int32) (hcv : cv < 4) (r_g5 : rg 32 0 2000 g5) (r_g31 : rg 4 0 31 g31) (r_g34 : rg 4 0 856 g34) (r_g37 : rg 4 0 255 g37) (r_g44 : rg 4 0 255 g44) (r_g45 : rg 4 0 63 g45) (r_g50 : rgL 4 0 1099511627776 g50) (h_x16 : tmo x16) (h_x18 : rg1 0 63 x18) (h_x26 : jmp x26) (h_x27 : stp x27) (h_x28 : stp x28) : Met l yX11_first (wsG (.code yX11_first cX11_first 4 none)) ({ frames := 4, cells := 0, slots := 0, locals := 81 }) (va_Pc [.ref h, .int (nI cv), .int v] (gP (dC, dI) [(cI, .int), (cJ, .long), (cZ, .boolean)] [(h, .inr (10, mdF qa x0 x2 x3 x4 x13 x14 x15 x16 x17 x18 x19 x20 x21 x22 x23 x24 x26 x27 x28)), (qa 5, .inl (cI, 32, .inl g5)), (qa 31, .inl (cI, 4, .inl g31)), (qa 32, .inl (cI, 4, .inl g32)), (qa 33, .inl (cI, 4, .inl g33)), (qa 34, .inl (cI, 4, .inl g34)), (qa 37, .inl (cI, 4, .inl g37)), (qa 38, .inl (cI, 4, .inl g38)), (qa 40, .inl (cI, 4, .inl g40)), (qa 41, .inl (cI, 4, .inl g41)), (qa 43, .inl (cI, 4, .inl g43)), (qa 44, .inl (cI, 4, .inl g44)), (qa 45, .inl (cI, 4, .inl g45)), (qa 46, .inl (cI, 4, .inl g46)), (qa 50, .inl (cJ, 4, .inr (.inl g50))), (qa 51, .inl (cZ, 4, .inl g51))] sz)) (va_Qv (fun u : va_W × gT => ∃ (y15 : Int32) (y16 : Int32) (y20 : Int32) (y26 : Int32) (y27 : Int32) (y28 : Int32) (k32 : Nat → Int32) (k33 : Nat → Int32) (k34 : Nat → Int32) (k37 : Nat → Int32) (k38 : Nat → Int32) (k40 : Nat → Int32) (k41 : Nat → Int32) (k43 : Nat → Int32) (k44 : Nat → Int32) (k45 : Nat → Int32) (k46 : Nat → Int32) (k51 : Nat → Int32) (k50 : Nat → Int64), u = ([(h, .inr (10, mdF qa x0 x2 x3 x4 x13 x14 y15 y16 x17 x18 x19 y20 x21 x22 x23 x24 y26 y27 y28)), (qa 5, .inl (cI, 32, .inl g5)), (qa 31, .inl (cI, 4, .inl g31)), (qa 32, .inl (cI, 4, .inl k32)), (qa 33, .inl (cI, 4, .inl k33)), (qa 34, .inl (cI, 4, .inl k34)), (qa 37, .inl (cI, 4, .inl k37)), (qa 38, .inl (cI, 4, .inl k38)), (qa 40, .inl (cI, 4, .inl k40)), (qa 41, .inl (cI, 4, .inl k41)), (qa 43, .inl (cI, 4, .inl k43)), (qa 44, .inl (cI, 4, .inl k44)), (qa 45, .inl (cI, 4, .inl k45)), (qa 46, .inl (cI, 4, .inl k46)), (qa 50, .inl (cJ, 4, .inr (.inl k50))), (qa 51, .inl (cZ, 4, .inl k51))], []) ∧ rg 4 0 856 k34 ∧ rg 4 0 255 k37 ∧ rg 4 0 255 k44 ∧ rg 4 0 63 k45 ∧ rgL 4 0 1099511627776 k50 ∧ tmo y16 ∧ jmp y26 ∧ stp y27 ∧ stp y28) (gB (dC, dI) (va_A [(h, .inr (10, mdF qa x0 x2 x3 x4 x13 x14 x15 x16 x17 x18 x19 x20 x21 x22 x23 x24 x26 x27 x28)), (qa 5, .inl (cI, 32, .inl g5)), (qa 31, .inl (cI, 4, .inl g31)), (qa 32, .inl (cI, 4, .inl g32)), (qa 33, .inl (cI, 4, .inl g33)), (qa 34, .inl (cI, 4, .inl g34)), (qa 37, .inl (cI, 4, .inl g37)), (qa 38, .inl (cI, 4, .inl g38)), (qa 40, .inl (cI, 4, .inl g40)), (qa 41, .inl (cI, 4, .inl g41)), (qa 43, .inl (cI, 4, .inl g43)), (qa 44, .inl (cI, 4, .inl g44)), (qa 45, .inl (cI, 4, .inl g45)), (qa 46, .inl (cI, 4, .inl g46)), (qa 50, .inl (cJ, 4, .inr (.inl g50))), (qa 51, .inl (cZ, 4, .inl g51))] sz)) (va_A [(h, .inr (10, mdF qa x0 x2 x3 x4 x13 x14 x15 x16 x17 x18 x19 x20 x21 x22 x23 x24 x26 x27 x28)), (qa 5, .inl (cI, 32, .inl g5)), (qa 31, .inl (cI, 4, .inl g31)), (qa 32, .inl (cI, 4, .inl g32)), (qa 33, .inl (cI, 4, .inl g33)), (qa 34, .inl (cI, 4, .inl g34)), (qa 37, .inl (cI, 4, .inl g37)), (qa 38, .inl (cI, 4, .inl g38)), (qa 40, .inl (cI, 4, .inl g40)), (qa 41, .inl (cI, 4, .inl g41)), (qa 43, .inl (cI, 4, .inl g43)), (qa 44, .inl (cI, 4, .inl g44)), (qa 45, .inl (cI, 4, .inl g45)), (qa 46, .inl (cI, 4, .inl g46)), (qa 50, .inl (cJ, 4, .inr (.inl g50))), (qa 51, .inl (cZ, 4, .inl g51))] sz)) 0 0 (va_A [(h, .inr (10, mdF qa x0 x2 x3 x4 x13 x14 x15 x16 x17 x18 x19 x20 x21 x22 x23 x24 x26 x27 x28)), (qa 5, .inl (cI, 32, .inl g5)), (qa 31, .inl (cI, 4, .inl g31)), (qa 32, .inl (cI, 4, .inl g32)), (qa 33, .inl (cI, 4, .inl g33)), (qa 34, .inl (cI, 4, .inl g34)), (qa 37, .inl (cI, 4, .inl g37)), (qa 38, .inl (cI, 4, .inl g38)), (qa 40, .inl (cI, 4, .inl g40)), (qa 41, .inl (cI, 4, .inl g41)), (qa 43, .inl (cI, 4, .inl g43)), (qa 44, .inl (cI, 4, .inl g44)), (qa 45, .inl (cI, 4, .inl g45)), (qa 46, .inl (cI, 4, .inl g46)), (qa 50, .inl (cJ, 4, .inr (.inl g50))), (qa 51, .inl (cZ, 4, .inl g51))] sz) := by
  refine Met.ofW (cc := cX11_first) (maxL := 4) (ret := none) (by decide) rfl ?_
  intro p e s m args below meth c s₁ B hml hv
  obtain ⟨rfl, hsz, hP, hK, hD0, hN, hZ⟩ := hv
  have hx := B.exec
  have hb := B.bytes
  have hr := B.returns
  have hts := atoms_spec (ws := (wsG (.code yX11_first cX11_first 4 none))) B.pre
  have hown : s.vm.findClass RX11 = some m.cls := findClass_of_methodNamed B.named
  have hlocks := B.notSynchronized
  subst hsz
  have hD := hD0.self (sz := s.heap.size)
  generalize hAe : va_A [(h, .inr (10, mdF qa x0 x2 x3 x4 x13 x14 x15 x16 x17 x18 x19 x20 x21 x22 x23 x24 x26 x27 x28)), (qa 5, .inl (cI, 32, .inl g5)), (qa 31, .inl (cI, 4, .inl g31)), (qa 32, .inl (cI, 4, .inl g32)), (qa 33, .inl (cI, 4, .inl g33)), (qa 34, .inl (cI, 4, .inl g34)), (qa 37, .inl (cI, 4, .inl g37)), (qa 38, .inl (cI, 4, .inl g38)), (qa 40, .inl (cI, 4, .inl g40)), (qa 41, .inl (cI, 4, .inl g41)), (qa 43, .inl (cI, 4, .inl g43)), (qa 44, .inl (cI, 4, .inl g44)), (qa 45, .inl (cI, 4, .inl g45)), (qa 46, .inl (cI, 4, .inl g46)), (qa 50, .inl (cJ, 4, .inr (.inl g50))), (qa 51, .inl (cZ, 4, .inl g51))] s.heap.size = A at hD hZ ⊢
  have hA : ∀ q : Nat, s.heap.size ≤ q → A q := fun q h => by rw [← hAe]; exact Or.inr h
  have hl := lv_entry ([.ref h, .int (nI cv), .int v]) (n := 4) (Nat.le_of_ble_eq_true rfl)
  rw [lg_entry_eq]
  generalize (lg_sl ([.ref h, .int (nI cv), .int v]) ++ List.replicate (4 - (lg_sl ([.ref h, .int (nI cv), .int v])).length) Slot.unset).toArray = ls at hl ⊢
  have hl : lv_has ls 4 [(0, .ref h), (1, .int (nI cv)), (2, .int v)] := hl
  refine g_start (A := A) hP (fun H locs hP hS => ?_)
  refine lv_iload_n hx hb dX11_first_0 rfl (lv_at hl 2 rfl) ?_
  refine lv_sipush (v := 255) hx hb dX11_first_1 (by decide) ?_
  obtain ⟨nq, hnq, enq⟩ := pk_andE (v) (m := 255) 8 (by decide)
  refine lv_iand hx hb dX11_first_4 ?_
  refine g_topi (y := nI nq) (enq) ?_
  refine lv_istore_n (lv' := [(3, .int (nI nq)), (0, .ref h), (1, .int (nI cv)), (2, .int v)]) hx hb dX11_first_5 rfl hl (by decide) rfl (fun ls hl => ?_)
  refine lv_iload_n hx hb dX11_first_6 rfl (lv_at hl 3 rfl) ?_
  refine g_calli (wr := [(h, .inr (10, mdF qa x0 x2 x3 x4 x13 x14 x15 x16 x17 x18 x19 x20 x21 x22 x23 x24 x26 x27 x28)), (qa 5, .inl (cI, 32, .inl g5)), (qa 31, .inl (cI, 4, .inl g31)), (qa 32, .inl (cI, 4, .inl g32)), (qa 33, .inl (cI, 4, .inl g33)), (qa 34, .inl (cI, 4, .inl g34)), (qa 37, .inl (cI, 4, .inl g37)), (qa 38, .inl (cI, 4, .inl g38)), (qa 40, .inl (cI, 4, .inl g40)), (qa 41, .inl (cI, 4, .inl g41)), (qa 43, .inl (cI, 4, .inl g43)), (qa 44, .inl (cI, 4, .inl g44)), (qa 45, .inl (cI, 4, .inl g45)), (qa 46, .inl (cI, 4, .inl g46)), (qa 50, .inl (cJ, 4, .inr (.inl g50))), (qa 51, .inl (cZ, 4, .inl g51))]) (va_runS (As := [.int v]) (rest := []) ⟨hx, hb, hml, hown, hts⟩ (m_effect l dC dI H.size v ) (va_cwS 1 hts (gG_S kw_859 kw_860 kw_5 kw_861) rfl rfl rfl (by decide +kernel) ⟨Nat.le_of_ble_eq_true rfl, Nat.le_of_ble_eq_true rfl⟩) (g_preS hP hD hK hS hA hN hZ [] (by decide) rfl [] rfl) rfl rfl hl.1 rfl (lv_room (Nat.le_of_ble_eq_true rfl)) dX11_first_7 ⟨Nat.le_of_ble_eq_true rfl, Nat.le_of_ble_eq_true rfl⟩) hP hD hK hS hA [] [0, 1, 2, 3, 4, 5, 6, 7, 8, 9, 10, 11, 12, 13, 14, 15] rfl rfl (by decide +kernel) (by decide +kernel) (fun r_7 w ty1 H locs hw_7 hP hD _ hS => ?_)
  rcases hw_7 with ⟨hu, hr_7⟩
  cases hu
  have hP : va_P (dC, dI) vwCl [(h, .inr (10, mdF qa x0 x2 x3 x4 x13 x14 x15 x16 x17 x18 x19 x20 x21 x22 x23 x24 x26 x27 x28)), (qa 5, .inl (cI, 32, .inl g5)), (qa 31, .inl (cI, 4, .inl g31)), (qa 32, .inl (cI, 4, .inl g32)), (qa 33, .inl (cI, 4, .inl g33)), (qa 34, .inl (cI, 4, .inl g34)), (qa 37, .inl (cI, 4, .inl g37)), (qa 38, .inl (cI, 4, .inl g38)), (qa 40, .inl (cI, 4, .inl g40)), (qa 41, .inl (cI, 4, .inl g41)), (qa 43, .inl (cI, 4, .inl g43)), (qa 44, .inl (cI, 4, .inl g44)), (qa 45, .inl (cI, 4, .inl g45)), (qa 46, .inl (cI, 4, .inl g46)), (qa 50, .inl (cJ, 4, .inr (.inl g50))), (qa 51, .inl (cZ, 4, .inl g51))] H := hP
  have hD : va_D A [(h, .inr (10, mdF qa x0 x2 x3 x4 x13 x14 x15 x16 x17 x18 x19 x20 x21 x22 x23 x24 x26 x27 x28)), (qa 5, .inl (cI, 32, .inl g5)), (qa 31, .inl (cI, 4, .inl g31)), (qa 32, .inl (cI, 4, .inl g32)), (qa 33, .inl (cI, 4, .inl g33)), (qa 34, .inl (cI, 4, .inl g34)), (qa 37, .inl (cI, 4, .inl g37)), (qa 38, .inl (cI, 4, .inl g38)), (qa 40, .inl (cI, 4, .inl g40)), (qa 41, .inl (cI, 4, .inl g41)), (qa 43, .inl (cI, 4, .inl g43)), (qa 44, .inl (cI, 4, .inl g44)), (qa 45, .inl (cI, 4, .inl g45)), (qa 46, .inl (cI, 4, .inl g46)), (qa 50, .inl (cJ, 4, .inr (.inl g50))), (qa 51, .inl (cZ, 4, .inl g51))] := hD
  refine g_topi (y := (v >>> (8 &&& 31)) &&& 15) hr_7 ?_
  by_cases hlo_10 : ((v >>> (8 &&& 31)) &&& 15).toInt < 3
  · refine lv_tableOut (tgt := 302) hx hb dX11_first_10 (Or.inl hlo_10) (by decide) ?_
    have hP9 := hP
    have hD9 := hD
    have hK9 := hK.sub (tys' := []) [] rfl
    exact W.vret hx hb hr (fun t ht hW => ⟨⟨_, rfl, ⟨x15, x16, x20, x26, x27, x28, g32, g33, g34, g37, g38, g40, g41, g43, g44, g45, g46, g51, g50, rfl, r_g34, r_g37, r_g44, r_g45, r_g50, h_x16, h_x26, h_x27, h_x28⟩, by rw [ht]; exact hP9, va_K.moved hW.alike hK9, hD9⟩, hS.F ht⟩) hS.2.2 dX11_first_302
  by_cases hhi_10 : 15 < ((v >>> (8 &&& 31)) &&& 15).toInt
  · refine lv_tableOut (tgt := 302) hx hb dX11_first_10 (Or.inr hhi_10) (by decide) ?_
    have hP9 := hP
    have hD9 := hD
    have hK9 := hK.sub (tys' := []) [] rfl
    exact W.vret hx hb hr (fun t ht hW => ⟨⟨_, rfl, ⟨x15, x16, x20, x26, x27, x28, g32, g33, g34, g37, g38, g40, g41, g43, g44, g45, g46, g51, g50, rfl, r_g34, r_g37, r_g44, r_g45, r_g50, h_x16, h_x26, h_x27, h_x28⟩, by rw [ht]; exact hP9, va_K.moved hW.alike hK9, hD9⟩, hS.F ht⟩) hS.2.2 dX11_first_302
  have hsw_10 : (v >>> (8 &&& 31)) &&& 15 = 3 ∨ (v >>> (8 &&& 31)) &&& 15 = 4 ∨ (v >>> (8 &&& 31)) &&& 15 = 5 ∨ (v >>> (8 &&& 31)) &&& 15 = 6 ∨ (v >>> (8 &&& 31)) &&& 15 = 7 ∨ (v >>> (8 &&& 31)) &&& 15 = 8 ∨ (v >>> (8 &&& 31)) &&& 15 = 9 ∨ (v >>> (8 &&& 31)) &&& 15 = 10 ∨ (v >>> (8 &&& 31)) &&& 15 = 11 ∨ (v >>> (8 &&& 31)) &&& 15 = 12 ∨ (v >>> (8 &&& 31)) &&& 15 = 13 ∨ (v >>> (8 &&& 31)) &&& 15 = 14 ∨ (v >>> (8 &&& 31)) &&& 15 = 15 := by
    have h1 : ((v >>> (8 &&& 31)) &&& 15).toInt = 3 ∨ ((v >>> (8 &&& 31)) &&& 15).toInt = 4 ∨ ((v >>> (8 &&& 31)) &&& 15).toInt = 5 ∨ ((v >>> (8 &&& 31)) &&& 15).toInt = 6 ∨ ((v >>> (8 &&& 31)) &&& 15).toInt = 7 ∨ ((v >>> (8 &&& 31)) &&& 15).toInt = 8 ∨ ((v >>> (8 &&& 31)) &&& 15).toInt = 9 ∨ ((v >>> (8 &&& 31)) &&& 15).toInt = 10 ∨ ((v >>> (8 &&& 31)) &&& 15).toInt = 11 ∨ ((v >>> (8 &&& 31)) &&& 15).toInt = 12 ∨ ((v >>> (8 &&& 31)) &&& 15).toInt = 13 ∨ ((v >>> (8 &&& 31)) &&& 15).toInt = 14 ∨ ((v >>> (8 &&& 31)) &&& 15).toInt = 15 := by omega
    rcases h1 with h1 | h1 | h1 | h1 | h1 | h1 | h1 | h1 | h1 | h1 | h1 | h1 | h1 <;> simp only [i_eq, h1] <;> decide
  rcases hsw_10 with hq | hq | hq | hq | hq | hq | hq | hq | hq | hq | hq | hq | hq
  · refine lv_tableIn (off := 66) (tgt := 76) hx hb dX11_first_10 (by rw [hq]; decide) (by rw [hq]; decide) (by rw [hq]; decide) (by decide) ?_
    refine lv_iload_n hx hb dX11_first_76 rfl (lv_at hl 0 rfl) ?_
    refine lv_if_eq (tgt := 302) hx hb dX11_first_77 (by decide) (fun c_77 => ?_) (fun c_77 => ?_)
    · have hP9 := hP
      have hD9 := hD
      have hK9 := hK.sub (tys' := []) [] rfl
      exact W.vret hx hb hr (fun t ht hW => ⟨⟨_, rfl, ⟨x15, x16, x20, x26, x27, x28, g32, g33, g34, g37, g38, g40, g41, g43, g44, g45, g46, g51, g50, rfl, r_g34, r_g37, r_g44, r_g45, r_g50, h_x16, h_x26, h_x27, h_x28⟩, by rw [ht]; exact hP9, va_K.moved hW.alike hK9, hD9⟩, hS.F ht⟩) hS.2.2 dX11_first_302
    refine lv_aload_n hx hb dX11_first_80 rfl (lv_at hl 1 rfl) ?_
    refine va_get (D := (dC, dI)) (ci := 10) (v := .ref (qa 37)) (C := RX11) (T := TX11) (N := 53) hx hb hts iwX11 hown hK hP 0 rfl rfl 37 (by decide) (hts (.fieldLink RX11 74 "ModulePlayerModel" "porta" "[I") (List.mem_cons_of_mem _ kw_193)) (fun _ h9 => h9) rfl dX11_first_81 ?_
    refine lv_iload_n hx hb dX11_first_84 rfl (lv_at hl 2 rfl) ?_
    refine lv_iload_n hx hb dX11_first_85 rfl (lv_at hl 0 rfl) ?_
    refine g_iast hx hb hK hP hD hS 6 0 rfl rfl cv (nI_clamp (Nat.lt_trans (show cv < 4 from by omega) (by decide))) (vp_in_nI (by omega) (by decide)) dX11_first_86 (fun H locs hP hD hS => ?_)
    have hP : va_P (dC, dI) vwCl [(h, .inr (10, mdF qa x0 x2 x3 x4 x13 x14 x15 x16 x17 x18 x19 x20 x21 x22 x23 x24 x26 x27 x28)), (qa 5, .inl (cI, 32, .inl g5)), (qa 31, .inl (cI, 4, .inl g31)), (qa 32, .inl (cI, 4, .inl g32)), (qa 33, .inl (cI, 4, .inl g33)), (qa 34, .inl (cI, 4, .inl g34)), (qa 37, .inl (cI, 4, .inl (upd g37 cv (nI nq)))), (qa 38, .inl (cI, 4, .inl g38)), (qa 40, .inl (cI, 4, .inl g40)), (qa 41, .inl (cI, 4, .inl g41)), (qa 43, .inl (cI, 4, .inl g43)), (qa 44, .inl (cI, 4, .inl g44)), (qa 45, .inl (cI, 4, .inl g45)), (qa 46, .inl (cI, 4, .inl g46)), (qa 50, .inl (cJ, 4, .inr (.inl g50))), (qa 51, .inl (cZ, 4, .inl g51))] H := hP
    have hD : va_D A [(h, .inr (10, mdF qa x0 x2 x3 x4 x13 x14 x15 x16 x17 x18 x19 x20 x21 x22 x23 x24 x26 x27 x28)), (qa 5, .inl (cI, 32, .inl g5)), (qa 31, .inl (cI, 4, .inl g31)), (qa 32, .inl (cI, 4, .inl g32)), (qa 33, .inl (cI, 4, .inl g33)), (qa 34, .inl (cI, 4, .inl g34)), (qa 37, .inl (cI, 4, .inl (upd g37 cv (nI nq)))), (qa 38, .inl (cI, 4, .inl g38)), (qa 40, .inl (cI, 4, .inl g40)), (qa 41, .inl (cI, 4, .inl g41)), (qa 43, .inl (cI, 4, .inl g43)), (qa 44, .inl (cI, 4, .inl g44)), (qa 45, .inl (cI, 4, .inl g45)), (qa 46, .inl (cI, 4, .inl g46)), (qa 50, .inl (cJ, 4, .inr (.inl g50))), (qa 51, .inl (cZ, 4, .inl g51))] := hD
    obtain ⟨u37_86, r_u37_86, eu37_86⟩ : ∃ ff : Nat → Int32, rg 4 0 255 ff ∧ ff = upd g37 cv (nI nq) := ⟨upd g37 cv (nI nq), rg_upd2 r_g37 (nI_rg (by omega) (by omega) (by omega)), rfl⟩
    rw [← eu37_86] at hP hD
    refine lv_goto (tgt := 302) hx hb dX11_first_87 (by decide) ?_
    have hP9 := hP
    have hD9 := hD
    have hK9 := hK.sub (tys' := []) [] rfl
    exact W.vret hx hb hr (fun t ht hW => ⟨⟨_, rfl, ⟨x15, x16, x20, x26, x27, x28, g32, g33, g34, u37_86, g38, g40, g41, g43, g44, g45, g46, g51, g50, rfl, r_g34, r_u37_86, r_g44, r_g45, r_g50, h_x16, h_x26, h_x27, h_x28⟩, by rw [ht]; exact hP9, va_K.moved hW.alike hK9, hD9⟩, hS.F ht⟩) hS.2.2 dX11_first_302
  · refine lv_tableIn (off := 80) (tgt := 90) hx hb dX11_first_10 (by rw [hq]; decide) (by rw [hq]; decide) (by rw [hq]; decide) (by decide) ?_
    refine lv_aload_n hx hb dX11_first_90 rfl (lv_at hl 1 rfl) ?_
    refine va_get (D := (dC, dI)) (ci := 10) (v := .ref (qa 38)) (C := RX11) (T := TX11) (N := 53) hx hb hts iwX11 hown hK hP 0 rfl rfl 38 (by decide) (hts (.fieldLink RX11 77 "ModulePlayerModel" "vib" "[I") (List.mem_cons_of_mem _ kw_194)) (fun _ h9 => h9) rfl dX11_first_91 ?_
    refine lv_iload_n hx hb dX11_first_94 rfl (lv_at hl 2 rfl) ?_
    refine lv_aload_n hx hb dX11_first_95 rfl (lv_at hl 1 rfl) ?_
    refine va_get (D := (dC, dI)) (ci := 10) (v := .ref (qa 38)) (C := RX11) (T := TX11) (N := 53) hx hb hts iwX11 hown hK hP 0 rfl rfl 38 (by decide) (hts (.fieldLink RX11 77 "ModulePlayerModel" "vib" "[I") (List.mem_cons_of_mem _ kw_194)) (fun _ h9 => h9) rfl dX11_first_96 ?_
    refine lv_iload_n hx hb dX11_first_99 rfl (lv_at hl 2 rfl) ?_
    refine g_iald hx hb hK hP 7 0 rfl rfl cv (nI_clamp (Nat.lt_trans (show cv < 4 from by omega) (by decide))) (vp_in_nI (by omega) (by decide)) dX11_first_100 ?_
    refine lv_topi (fun tv_100 etv_100 => ?_)
    refine lv_iload_n hx hb dX11_first_101 rfl (lv_at hl 0 rfl) ?_
    refine g_calli (wr := [(h, .inr (10, mdF qa x0 x2 x3 x4 x13 x14 x15 x16 x17 x18 x19 x20 x21 x22 x23 x24 x26 x27 x28)), (qa 5, .inl (cI, 32, .inl g5)), (qa 31, .inl (cI, 4, .inl g31)), (qa 32, .inl (cI, 4, .inl g32)), (qa 33, .inl (cI, 4, .inl g33)), (qa 34, .inl (cI, 4, .inl g34)), (qa 37, .inl (cI, 4, .inl g37)), (qa 38, .inl (cI, 4, .inl g38)), (qa 40, .inl (cI, 4, .inl g40)), (qa 41, .inl (cI, 4, .inl g41)), (qa 43, .inl (cI, 4, .inl g43)), (qa 44, .inl (cI, 4, .inl g44)), (qa 45, .inl (cI, 4, .inl g45)), (qa 46, .inl (cI, 4, .inl g46)), (qa 50, .inl (cJ, 4, .inr (.inl g50))), (qa 51, .inl (cZ, 4, .inl g51))]) (va_runS (As := [.int tv_100, .int (nI nq)]) (rest := [.int (nI cv), .ref (qa 38)]) ⟨hx, hb, hml, hown, hts⟩ (m_replaced l dC dI H.size tv_100 (nI nq) ) (va_cwS 2 hts (gG_S kw_888 kw_889 kw_5 kw_890) rfl rfl rfl (by decide +kernel) ⟨Nat.le_of_ble_eq_true rfl, Nat.le_of_ble_eq_true rfl⟩) (g_preS hP hD hK hS hA hN hZ [] (by decide) rfl [] rfl) rfl rfl hl.1 rfl (lv_room (Nat.le_of_ble_eq_true rfl)) dX11_first_102 ⟨Nat.le_of_ble_eq_true rfl, Nat.le_of_ble_eq_true rfl⟩) hP hD hK hS hA [] [0, 1, 2, 3, 4, 5, 6, 7, 8, 9, 10, 11, 12, 13, 14, 15] rfl rfl (by decide +kernel) (by decide +kernel) (fun r_102 w ty1 H locs hw_102 hP hD _ hS => ?_)
    have hu := hw_102
    cases hu
    have hP : va_P (dC, dI) vwCl [(h, .inr (10, mdF qa x0 x2 x3 x4 x13 x14 x15 x16 x17 x18 x19 x20 x21 x22 x23 x24 x26 x27 x28)), (qa 5, .inl (cI, 32, .inl g5)), (qa 31, .inl (cI, 4, .inl g31)), (qa 32, .inl (cI, 4, .inl g32)), (qa 33, .inl (cI, 4, .inl g33)), (qa 34, .inl (cI, 4, .inl g34)), (qa 37, .inl (cI, 4, .inl g37)), (qa 38, .inl (cI, 4, .inl g38)), (qa 40, .inl (cI, 4, .inl g40)), (qa 41, .inl (cI, 4, .inl g41)), (qa 43, .inl (cI, 4, .inl g43)), (qa 44, .inl (cI, 4, .inl g44)), (qa 45, .inl (cI, 4, .inl g45)), (qa 46, .inl (cI, 4, .inl g46)), (qa 50, .inl (cJ, 4, .inr (.inl g50))), (qa 51, .inl (cZ, 4, .inl g51))] H := hP
    have hD : va_D A [(h, .inr (10, mdF qa x0 x2 x3 x4 x13 x14 x15 x16 x17 x18 x19 x20 x21 x22 x23 x24 x26 x27 x28)), (qa 5, .inl (cI, 32, .inl g5)), (qa 31, .inl (cI, 4, .inl g31)), (qa 32, .inl (cI, 4, .inl g32)), (qa 33, .inl (cI, 4, .inl g33)), (qa 34, .inl (cI, 4, .inl g34)), (qa 37, .inl (cI, 4, .inl g37)), (qa 38, .inl (cI, 4, .inl g38)), (qa 40, .inl (cI, 4, .inl g40)), (qa 41, .inl (cI, 4, .inl g41)), (qa 43, .inl (cI, 4, .inl g43)), (qa 44, .inl (cI, 4, .inl g44)), (qa 45, .inl (cI, 4, .inl g45)), (qa 46, .inl (cI, 4, .inl g46)), (qa 50, .inl (cJ, 4, .inr (.inl g50))), (qa 51, .inl (cZ, 4, .inl g51))] := hD
    refine g_iast hx hb hK hP hD hS 7 0 rfl rfl cv (nI_clamp (Nat.lt_trans (show cv < 4 from by omega) (by decide))) (vp_in_nI (by omega) (by decide)) dX11_first_105 (fun H locs hP hD hS => ?_)
    have hP : va_P (dC, dI) vwCl [(h, .inr (10, mdF qa x0 x2 x3 x4 x13 x14 x15 x16 x17 x18 x19 x20 x21 x22 x23 x24 x26 x27 x28)), (qa 5, .inl (cI, 32, .inl g5)), (qa 31, .inl (cI, 4, .inl g31)), (qa 32, .inl (cI, 4, .inl g32)), (qa 33, .inl (cI, 4, .inl g33)), (qa 34, .inl (cI, 4, .inl g34)), (qa 37, .inl (cI, 4, .inl g37)), (qa 38, .inl (cI, 4, .inl (upd g38 cv r_102))), (qa 40, .inl (cI, 4, .inl g40)), (qa 41, .inl (cI, 4, .inl g41)), (qa 43, .inl (cI, 4, .inl g43)), (qa 44, .inl (cI, 4, .inl g44)), (qa 45, .inl (cI, 4, .inl g45)), (qa 46, .inl (cI, 4, .inl g46)), (qa 50, .inl (cJ, 4, .inr (.inl g50))), (qa 51, .inl (cZ, 4, .inl g51))] H := hP
    have hD : va_D A [(h, .inr (10, mdF qa x0 x2 x3 x4 x13 x14 x15 x16 x17 x18 x19 x20 x21 x22 x23 x24 x26 x27 x28)), (qa 5, .inl (cI, 32, .inl g5)), (qa 31, .inl (cI, 4, .inl g31)), (qa 32, .inl (cI, 4, .inl g32)), (qa 33, .inl (cI, 4, .inl g33)), (qa 34, .inl (cI, 4, .inl g34)), (qa 37, .inl (cI, 4, .inl g37)), (qa 38, .inl (cI, 4, .inl (upd g38 cv r_102))), (qa 40, .inl (cI, 4, .inl g40)), (qa 41, .inl (cI, 4, .inl g41)), (qa 43, .inl (cI, 4, .inl g43)), (qa 44, .inl (cI, 4, .inl g44)), (qa 45, .inl (cI, 4, .inl g45)), (qa 46, .inl (cI, 4, .inl g46)), (qa 50, .inl (cJ, 4, .inr (.inl g50))), (qa 51, .inl (cZ, 4, .inl g51))] := hD
    generalize upd g38 cv r_102 = u38_105 at hP hD
    refine lv_goto (tgt := 302) hx hb dX11_first_106 (by decide) ?_
    have hP9 := hP
    have hD9 := hD
    have hK9 := hK.sub (tys' := []) [] rfl
    exact W.vret hx hb hr (fun t ht hW => ⟨⟨_, rfl, ⟨x15, x16, x20, x26, x27, x28, g32, g33, g34, g37, u38_105, g40, g41, g43, g44, g45, g46, g51, g50, rfl, r_g34, r_g37, r_g44, r_g45, r_g50, h_x16, h_x26, h_x27, h_x28⟩, by rw [ht]; exact hP9, va_K.moved hW.alike hK9, hD9⟩, hS.F ht⟩) hS.2.2 dX11_first_302
  · refine lv_tableIn (off := 292) (tgt := 302) hx hb dX11_first_10 (by rw [hq]; decide) (by rw [hq]; decide) (by rw [hq]; decide) (by decide) ?_
    have hP9 := hP
    have hD9 := hD
    have hK9 := hK.sub (tys' := []) [] rfl
    exact W.vret hx hb hr (fun t ht hW => ⟨⟨_, rfl, ⟨x15, x16, x20, x26, x27, x28, g32, g33, g34, g37, g38, g40, g41, g43, g44, g45, g46, g51, g50, rfl, r_g34, r_g37, r_g44, r_g45, r_g50, h_x16, h_x26, h_x27, h_x28⟩, by rw [ht]; exact hP9, va_K.moved hW.alike hK9, hD9⟩, hS.F ht⟩) hS.2.2 dX11_first_302
  · refine lv_tableIn (off := 292) (tgt := 302) hx hb dX11_first_10 (by rw [hq]; decide) (by rw [hq]; decide) (by rw [hq]; decide) (by decide) ?_
    have hP9 := hP
    have hD9 := hD
    have hK9 := hK.sub (tys' := []) [] rfl
    exact W.vret hx hb hr (fun t ht hW => ⟨⟨_, rfl, ⟨x15, x16, x20, x26, x27, x28, g32, g33, g34, g37, g38, g40, g41, g43, g44, g45, g46, g51, g50, rfl, r_g34, r_g37, r_g44, r_g45, r_g50, h_x16, h_x26, h_x27, h_x28⟩, by rw [ht]; exact hP9, va_K.moved hW.alike hK9, hD9⟩, hS.F ht⟩) hS.2.2 dX11_first_302
  · refine lv_tableIn (off := 99) (tgt := 109) hx hb dX11_first_10 (by rw [hq]; decide) (by rw [hq]; decide) (by rw [hq]; decide) (by decide) ?_
    refine lv_aload_n hx hb dX11_first_109 rfl (lv_at hl 1 rfl) ?_
    refine va_get (D := (dC, dI)) (ci := 10) (v := .ref (qa 41)) (C := RX11) (T := TX11) (N := 53) hx hb hts iwX11 hown hK hP 0 rfl rfl 41 (by decide) (hts (.fieldLink RX11 86 "ModulePlayerModel" "trem" "[I") (List.mem_cons_of_mem _ kw_197)) (fun _ h9 => h9) rfl dX11_first_110 ?_
    refine lv_iload_n hx hb dX11_first_113 rfl (lv_at hl 2 rfl) ?_
    refine lv_aload_n hx hb dX11_first_114 rfl (lv_at hl 1 rfl) ?_
    refine va_get (D := (dC, dI)) (ci := 10) (v := .ref (qa 41)) (C := RX11) (T := TX11) (N := 53) hx hb hts iwX11 hown hK hP 0 rfl rfl 41 (by decide) (hts (.fieldLink RX11 86 "ModulePlayerModel" "trem" "[I") (List.mem_cons_of_mem _ kw_197)) (fun _ h9 => h9) rfl dX11_first_115 ?_
    refine lv_iload_n hx hb dX11_first_118 rfl (lv_at hl 2 rfl) ?_
    refine g_iald hx hb hK hP 9 0 rfl rfl cv (nI_clamp (Nat.lt_trans (show cv < 4 from by omega) (by decide))) (vp_in_nI (by omega) (by decide)) dX11_first_119 ?_
    refine lv_topi (fun tv_119 etv_119 => ?_)
    refine lv_iload_n hx hb dX11_first_120 rfl (lv_at hl 0 rfl) ?_
    refine g_calli (wr := [(h, .inr (10, mdF qa x0 x2 x3 x4 x13 x14 x15 x16 x17 x18 x19 x20 x21 x22 x23 x24 x26 x27 x28)), (qa 5, .inl (cI, 32, .inl g5)), (qa 31, .inl (cI, 4, .inl g31)), (qa 32, .inl (cI, 4, .inl g32)), (qa 33, .inl (cI, 4, .inl g33)), (qa 34, .inl (cI, 4, .inl g34)), (qa 37, .inl (cI, 4, .inl g37)), (qa 38, .inl (cI, 4, .inl g38)), (qa 40, .inl (cI, 4, .inl g40)), (qa 41, .inl (cI, 4, .inl g41)), (qa 43, .inl (cI, 4, .inl g43)), (qa 44, .inl (cI, 4, .inl g44)), (qa 45, .inl (cI, 4, .inl g45)), (qa 46, .inl (cI, 4, .inl g46)), (qa 50, .inl (cJ, 4, .inr (.inl g50))), (qa 51, .inl (cZ, 4, .inl g51))]) (va_runS (As := [.int tv_119, .int (nI nq)]) (rest := [.int (nI cv), .ref (qa 41)]) ⟨hx, hb, hml, hown, hts⟩ (m_replaced l dC dI H.size tv_119 (nI nq) ) (va_cwS 2 hts (gG_S kw_888 kw_889 kw_5 kw_890) rfl rfl rfl (by decide +kernel) ⟨Nat.le_of_ble_eq_true rfl, Nat.le_of_ble_eq_true rfl⟩) (g_preS hP hD hK hS hA hN hZ [] (by decide) rfl [] rfl) rfl rfl hl.1 rfl (lv_room (Nat.le_of_ble_eq_true rfl)) dX11_first_121 ⟨Nat.le_of_ble_eq_true rfl, Nat.le_of_ble_eq_true rfl⟩) hP hD hK hS hA [] [0, 1, 2, 3, 4, 5, 6, 7, 8, 9, 10, 11, 12, 13, 14, 15] rfl rfl (by decide +kernel) (by decide +kernel) (fun r_121 w ty1 H locs hw_121 hP hD _ hS => ?_)
    have hu := hw_121
    cases hu
    have hP : va_P (dC, dI) vwCl [(h, .inr (10, mdF qa x0 x2 x3 x4 x13 x14 x15 x16 x17 x18 x19 x20 x21 x22 x23 x24 x26 x27 x28)), (qa 5, .inl (cI, 32, .inl g5)), (qa 31, .inl (cI, 4, .inl g31)), (qa 32, .inl (cI, 4, .inl g32)), (qa 33, .inl (cI, 4, .inl g33)), (qa 34, .inl (cI, 4, .inl g34)), (qa 37, .inl (cI, 4, .inl g37)), (qa 38, .inl (cI, 4, .inl g38)), (qa 40, .inl (cI, 4, .inl g40)), (qa 41, .inl (cI, 4, .inl g41)), (qa 43, .inl (cI, 4, .inl g43)), (qa 44, .inl (cI, 4, .inl g44)), (qa 45, .inl (cI, 4, .inl g45)), (qa 46, .inl (cI, 4, .inl g46)), (qa 50, .inl (cJ, 4, .inr (.inl g50))), (qa 51, .inl (cZ, 4, .inl g51))] H := hP
    have hD : va_D A [(h, .inr (10, mdF qa x0 x2 x3 x4 x13 x14 x15 x16 x17 x18 x19 x20 x21 x22 x23 x24 x26 x27 x28)), (qa 5, .inl (cI, 32, .inl g5)), (qa 31, .inl (cI, 4, .inl g31)), (qa 32, .inl (cI, 4, .inl g32)), (qa 33, .inl (cI, 4, .inl g33)), (qa 34, .inl (cI, 4, .inl g34)), (qa 37, .inl (cI, 4, .inl g37)), (qa 38, .inl (cI, 4, .inl g38)), (qa 40, .inl (cI, 4, .inl g40)), (qa 41, .inl (cI, 4, .inl g41)), (qa 43, .inl (cI, 4, .inl g43)), (qa 44, .inl (cI, 4, .inl g44)), (qa 45, .inl (cI, 4, .inl g45)), (qa 46, .inl (cI, 4, .inl g46)), (qa 50, .inl (cJ, 4, .inr (.inl g50))), (qa 51, .inl (cZ, 4, .inl g51))] := hD
    refine g_iast hx hb hK hP hD hS 9 0 rfl rfl cv (nI_clamp (Nat.lt_trans (show cv < 4 from by omega) (by decide))) (vp_in_nI (by omega) (by decide)) dX11_first_124 (fun H locs hP hD hS => ?_)
    have hP : va_P (dC, dI) vwCl [(h, .inr (10, mdF qa x0 x2 x3 x4 x13 x14 x15 x16 x17 x18 x19 x20 x21 x22 x23 x24 x26 x27 x28)), (qa 5, .inl (cI, 32, .inl g5)), (qa 31, .inl (cI, 4, .inl g31)), (qa 32, .inl (cI, 4, .inl g32)), (qa 33, .inl (cI, 4, .inl g33)), (qa 34, .inl (cI, 4, .inl g34)), (qa 37, .inl (cI, 4, .inl g37)), (qa 38, .inl (cI, 4, .inl g38)), (qa 40, .inl (cI, 4, .inl g40)), (qa 41, .inl (cI, 4, .inl (upd g41 cv r_121))), (qa 43, .inl (cI, 4, .inl g43)), (qa 44, .inl (cI, 4, .inl g44)), (qa 45, .inl (cI, 4, .inl g45)), (qa 46, .inl (cI, 4, .inl g46)), (qa 50, .inl (cJ, 4, .inr (.inl g50))), (qa 51, .inl (cZ, 4, .inl g51))] H := hP
    have hD : va_D A [(h, .inr (10, mdF qa x0 x2 x3 x4 x13 x14 x15 x16 x17 x18 x19 x20 x21 x22 x23 x24 x26 x27 x28)), (qa 5, .inl (cI, 32, .inl g5)), (qa 31, .inl (cI, 4, .inl g31)), (qa 32, .inl (cI, 4, .inl g32)), (qa 33, .inl (cI, 4, .inl g33)), (qa 34, .inl (cI, 4, .inl g34)), (qa 37, .inl (cI, 4, .inl g37)), (qa 38, .inl (cI, 4, .inl g38)), (qa 40, .inl (cI, 4, .inl g40)), (qa 41, .inl (cI, 4, .inl (upd g41 cv r_121))), (qa 43, .inl (cI, 4, .inl g43)), (qa 44, .inl (cI, 4, .inl g44)), (qa 45, .inl (cI, 4, .inl g45)), (qa 46, .inl (cI, 4, .inl g46)), (qa 50, .inl (cJ, 4, .inr (.inl g50))), (qa 51, .inl (cZ, 4, .inl g51))] := hD
    generalize upd g41 cv r_121 = u41_124 at hP hD
    refine lv_goto (tgt := 302) hx hb dX11_first_125 (by decide) ?_
    have hP9 := hP
    have hD9 := hD
    have hK9 := hK.sub (tys' := []) [] rfl
    exact W.vret hx hb hr (fun t ht hW => ⟨⟨_, rfl, ⟨x15, x16, x20, x26, x27, x28, g32, g33, g34, g37, g38, g40, u41_124, g43, g44, g45, g46, g51, g50, rfl, r_g34, r_g37, r_g44, r_g45, r_g50, h_x16, h_x26, h_x27, h_x28⟩, by rw [ht]; exact hP9, va_K.moved hW.alike hK9, hD9⟩, hS.F ht⟩) hS.2.2 dX11_first_302
  · refine lv_tableIn (off := 292) (tgt := 302) hx hb dX11_first_10 (by rw [hq]; decide) (by rw [hq]; decide) (by rw [hq]; decide) (by decide) ?_
    have hP9 := hP
    have hD9 := hD
    have hK9 := hK.sub (tys' := []) [] rfl
    exact W.vret hx hb hr (fun t ht hW => ⟨⟨_, rfl, ⟨x15, x16, x20, x26, x27, x28, g32, g33, g34, g37, g38, g40, g41, g43, g44, g45, g46, g51, g50, rfl, r_g34, r_g37, r_g44, r_g45, r_g50, h_x16, h_x26, h_x27, h_x28⟩, by rw [ht]; exact hP9, va_K.moved hW.alike hK9, hD9⟩, hS.F ht⟩) hS.2.2 dX11_first_302
  · refine lv_tableIn (off := 118) (tgt := 128) hx hb dX11_first_10 (by rw [hq]; decide) (by rw [hq]; decide) (by rw [hq]; decide) (by decide) ?_
    refine lv_iload_n hx hb dX11_first_128 rfl (lv_at hl 0 rfl) ?_
    refine lv_if_eq (tgt := 139) hx hb dX11_first_129 (by decide) (fun c_129 => ?_) (fun c_129 => ?_)
    · refine lv_iload_n hx hb dX11_first_139 rfl (lv_at hl 3 rfl) ?_
      refine lv_bipush (v := 17) hx hb dX11_first_140 (by decide) ?_
      refine lv_ishr hx hb dX11_first_142 ?_
      refine lv_topi (fun tv_142 etv_142 => ?_)
      refine lv_if_eq (tgt := 302) hx hb dX11_first_143 (by decide) (fun c_143 => ?_) (fun c_143 => ?_)
      · have hP9 := hP
        have hD9 := hD
        have hK9 := hK.sub (tys' := []) [] rfl
        exact W.vret hx hb hr (fun t ht hW => ⟨⟨_, rfl, ⟨x15, x16, x20, x26, x27, x28, g32, g33, g34, g37, g38, g40, g41, g43, g44, g45, g46, g51, g50, rfl, r_g34, r_g37, r_g44, r_g45, r_g50, h_x16, h_x26, h_x27, h_x28⟩, by rw [ht]; exact hP9, va_K.moved hW.alike hK9, hD9⟩, hS.F ht⟩) hS.2.2 dX11_first_302
      refine lv_aload_n hx hb dX11_first_146 rfl (lv_at hl 1 rfl) ?_
      refine va_get (D := (dC, dI)) (ci := 10) (v := .ref (qa 50)) (C := RX11) (T := TX11) (N := 53) hx hb hts iwX11 hown hK hP 0 rfl rfl 50 (by decide) (hts (.fieldLink RX11 113 "ModulePlayerModel" "at" "[J") (List.mem_cons_of_mem _ kw_206)) (fun _ h9 => h9) rfl dX11_first_147 ?_
      refine lv_iload_n hx hb dX11_first_150 rfl (lv_at hl 2 rfl) ?_
      refine lv_ldc2 (v := 16777216) hx hb hown (hts (.constantLong RX11 295 (16777216)) (List.mem_cons_of_mem _ kw_887)) dX11_first_151 ?_
      refine lv_aload_n hx hb dX11_first_154 rfl (lv_at hl 1 rfl) ?_
      refine va_get (D := (dC, dI)) (ci := 10) (v := .ref (qa 44)) (C := RX11) (T := TX11) (N := 53) hx hb hts iwX11 hown hK hP 0 rfl rfl 44 (by decide) (hts (.fieldLink RX11 95 "ModulePlayerModel" "offset" "[I") (List.mem_cons_of_mem _ kw_200)) (fun _ h9 => h9) rfl dX11_first_155 ?_
      refine lv_iload_n hx hb dX11_first_158 rfl (lv_at hl 2 rfl) ?_
      refine g_iald hx hb hK hP 11 0 rfl rfl cv (nI_clamp (Nat.lt_trans (show cv < 4 from by omega) (by decide))) (vp_in_nI (by omega) (by decide)) dX11_first_159 ?_
      obtain ⟨jn_159, hjn_159, ejn_159⟩ := rg_nat (kx := cv) (mx := 255) r_g44 (by omega) rfl
      refine g_topi (y := nI jn_159) ejn_159 ?_
      refine lv_i2l (v := (nI jn_159).toInt64) hx hb dX11_first_160 rfl ?_
      refine lv_topl (fun tv_160 etv_160 => ?_)
      refine lv_lmul hx hb dX11_first_161 ?_
      refine lv_topl (fun tv_161 etv_161 => ?_)
      refine g_last hx hb hK hP hD hS 14 1 rfl rfl cv (nI_clamp (Nat.lt_trans (show cv < 4 from by omega) (by decide))) (vp_in_nI (by omega) (by decide)) dX11_first_162 (fun H locs hP hD hS => ?_)
      have hP : va_P (dC, dI) vwCl [(h, .inr (10, mdF qa x0 x2 x3 x4 x13 x14 x15 x16 x17 x18 x19 x20 x21 x22 x23 x24 x26 x27 x28)), (qa 5, .inl (cI, 32, .inl g5)), (qa 31, .inl (cI, 4, .inl g31)), (qa 32, .inl (cI, 4, .inl g32)), (qa 33, .inl (cI, 4, .inl g33)), (qa 34, .inl (cI, 4, .inl g34)), (qa 37, .inl (cI, 4, .inl g37)), (qa 38, .inl (cI, 4, .inl g38)), (qa 40, .inl (cI, 4, .inl g40)), (qa 41, .inl (cI, 4, .inl g41)), (qa 43, .inl (cI, 4, .inl g43)), (qa 44, .inl (cI, 4, .inl g44)), (qa 45, .inl (cI, 4, .inl g45)), (qa 46, .inl (cI, 4, .inl g46)), (qa 50, .inl (cJ, 4, .inr (.inl (vp_updL g50 cv tv_161)))), (qa 51, .inl (cZ, 4, .inl g51))] H := hP
      have hD : va_D A [(h, .inr (10, mdF qa x0 x2 x3 x4 x13 x14 x15 x16 x17 x18 x19 x20 x21 x22 x23 x24 x26 x27 x28)), (qa 5, .inl (cI, 32, .inl g5)), (qa 31, .inl (cI, 4, .inl g31)), (qa 32, .inl (cI, 4, .inl g32)), (qa 33, .inl (cI, 4, .inl g33)), (qa 34, .inl (cI, 4, .inl g34)), (qa 37, .inl (cI, 4, .inl g37)), (qa 38, .inl (cI, 4, .inl g38)), (qa 40, .inl (cI, 4, .inl g40)), (qa 41, .inl (cI, 4, .inl g41)), (qa 43, .inl (cI, 4, .inl g43)), (qa 44, .inl (cI, 4, .inl g44)), (qa 45, .inl (cI, 4, .inl g45)), (qa 46, .inl (cI, 4, .inl g46)), (qa 50, .inl (cJ, 4, .inr (.inl (vp_updL g50 cv tv_161)))), (qa 51, .inl (cZ, 4, .inl g51))] := hD
      obtain ⟨u50_162, r_u50_162, eu50_162⟩ : ∃ ff : Nat → Int64, rgL 4 0 1099511627776 ff ∧ ff = vp_updL g50 cv tv_161 := ⟨vp_updL g50 cv tv_161, rgL_upd2 r_g50 (by rw [etv_161, etv_160]; exact at_off (by omega)), rfl⟩
      rw [← eu50_162] at hP hD
      refine lv_sipush (v := 256) hx hb dX11_first_163 (by decide) ?_
      refine lv_aload_n hx hb dX11_first_166 rfl (lv_at hl 1 rfl) ?_
      refine va_get (D := (dC, dI)) (ci := 10) (v := .ref (qa 44)) (C := RX11) (T := TX11) (N := 53) hx hb hts iwX11 hown hK hP 0 rfl rfl 44 (by decide) (hts (.fieldLink RX11 95 "ModulePlayerModel" "offset" "[I") (List.mem_cons_of_mem _ kw_200)) (fun _ h9 => h9) rfl dX11_first_167 ?_
      refine lv_iload_n hx hb dX11_first_170 rfl (lv_at hl 2 rfl) ?_
      refine g_iald hx hb hK hP 11 0 rfl rfl cv (nI_clamp (Nat.lt_trans (show cv < 4 from by omega) (by decide))) (vp_in_nI (by omega) (by decide)) dX11_first_171 ?_
      obtain ⟨jn_171, hjn_171, ejn_171⟩ := rg_nat (kx := cv) (mx := 255) r_g44 (by omega) rfl
      refine g_topi (y := nI jn_171) ejn_171 ?_
      refine lv_imul hx hb dX11_first_172 ?_
      refine lv_topi (fun tv_172 etv_172 => ?_)
      refine lv_aload_n hx hb dX11_first_173 rfl (lv_at hl 1 rfl) ?_
      refine va_get (D := (dC, dI)) (ci := 10) (v := .ref (qa 5)) (C := RX11) (T := TX11) (N := 53) hx hb hts iwX11 hown hK hP 0 rfl rfl 5 (by decide) (hts (.fieldLink RX11 17 "ModulePlayerModel" "length" "[I") (List.mem_cons_of_mem _ kw_173)) (fun _ h9 => h9) rfl dX11_first_174 ?_
      refine lv_aload_n hx hb dX11_first_177 rfl (lv_at hl 1 rfl) ?_
      refine va_get (D := (dC, dI)) (ci := 10) (v := .ref (qa 31)) (C := RX11) (T := TX11) (N := 53) hx hb hts iwX11 hown hK hP 0 rfl rfl 31 (by decide) (hts (.fieldLink RX11 56 "ModulePlayerModel" "sample" "[I") (List.mem_cons_of_mem _ kw_187)) (fun _ h9 => h9) rfl dX11_first_178 ?_
      refine lv_iload_n hx hb dX11_first_181 rfl (lv_at hl 2 rfl) ?_
      refine g_iald hx hb hK hP 2 0 rfl rfl cv (nI_clamp (Nat.lt_trans (show cv < 4 from by omega) (by decide))) (vp_in_nI (by omega) (by decide)) dX11_first_182 ?_
      obtain ⟨jn_182, hjn_182, ejn_182⟩ := rg_nat (kx := cv) (mx := 31) r_g31 (by omega) rfl
      refine g_topi (y := nI jn_182) ejn_182 ?_
      refine g_iald hx hb hK hP 1 0 rfl rfl jn_182 (nI_clamp (Nat.lt_trans (show jn_182 < 32 from by omega) (by decide))) (vp_in_nI (by omega) (by decide)) dX11_first_183 ?_
      obtain ⟨jn_183, hjn_183, ejn_183⟩ := rg_nat (kx := jn_182) (mx := 2000) r_g5 (by omega) rfl
      refine g_topi (y := nI jn_183) ejn_183 ?_
      refine lv_icmp_lt (tgt := 302) hx hb dX11_first_184 (by decide) (fun c_184 => ?_) (fun c_184 => ?_)
      · have hP9 := hP
        have hD9 := hD
        have hK9 := hK.sub (tys' := []) [] rfl
        exact W.vret hx hb hr (fun t ht hW => ⟨⟨_, rfl, ⟨x15, x16, x20, x26, x27, x28, g32, g33, g34, g37, g38, g40, g41, g43, g44, g45, g46, g51, u50_162, rfl, r_g34, r_g37, r_g44, r_g45, r_u50_162, h_x16, h_x26, h_x27, h_x28⟩, by rw [ht]; exact hP9, va_K.moved hW.alike hK9, hD9⟩, hS.F ht⟩) hS.2.2 dX11_first_302
      refine lv_aload_n hx hb dX11_first_187 rfl (lv_at hl 1 rfl) ?_
      refine va_get (D := (dC, dI)) (ci := 10) (v := .ref (qa 51)) (C := RX11) (T := TX11) (N := 53) hx hb hts iwX11 hown hK hP 0 rfl rfl 51 (by decide) (hts (.fieldLink RX11 117 "ModulePlayerModel" "sounds" "[Z") (List.mem_cons_of_mem _ kw_207)) (fun _ h9 => h9) rfl dX11_first_188 ?_
      refine lv_iload_n hx hb dX11_first_191 rfl (lv_at hl 2 rfl) ?_
      refine lv_iconst (v := 0) hx hb dX11_first_192 (by decide) ?_
      refine g_zast hx hb hK hP hD hS 15 2 rfl rfl (x' := 0) (by decide) cv (nI_clamp (Nat.lt_trans (show cv < 4 from by omega) (by decide))) (vp_in_nI (by omega) (by decide)) dX11_first_193 (fun H locs hP hD hS => ?_)
      have hP : va_P (dC, dI) vwCl [(h, .inr (10, mdF qa x0 x2 x3 x4 x13 x14 x15 x16 x17 x18 x19 x20 x21 x22 x23 x24 x26 x27 x28)), (qa 5, .inl (cI, 32, .inl g5)), (qa 31, .inl (cI, 4, .inl g31)), (qa 32, .inl (cI, 4, .inl g32)), (qa 33, .inl (cI, 4, .inl g33)), (qa 34, .inl (cI, 4, .inl g34)), (qa 37, .inl (cI, 4, .inl g37)), (qa 38, .inl (cI, 4, .inl g38)), (qa 40, .inl (cI, 4, .inl g40)), (qa 41, .inl (cI, 4, .inl g41)), (qa 43, .inl (cI, 4, .inl g43)), (qa 44, .inl (cI, 4, .inl g44)), (qa 45, .inl (cI, 4, .inl g45)), (qa 46, .inl (cI, 4, .inl g46)), (qa 50, .inl (cJ, 4, .inr (.inl u50_162))), (qa 51, .inl (cZ, 4, .inl (upd g51 cv 0)))] H := hP
      have hD : va_D A [(h, .inr (10, mdF qa x0 x2 x3 x4 x13 x14 x15 x16 x17 x18 x19 x20 x21 x22 x23 x24 x26 x27 x28)), (qa 5, .inl (cI, 32, .inl g5)), (qa 31, .inl (cI, 4, .inl g31)), (qa 32, .inl (cI, 4, .inl g32)), (qa 33, .inl (cI, 4, .inl g33)), (qa 34, .inl (cI, 4, .inl g34)), (qa 37, .inl (cI, 4, .inl g37)), (qa 38, .inl (cI, 4, .inl g38)), (qa 40, .inl (cI, 4, .inl g40)), (qa 41, .inl (cI, 4, .inl g41)), (qa 43, .inl (cI, 4, .inl g43)), (qa 44, .inl (cI, 4, .inl g44)), (qa 45, .inl (cI, 4, .inl g45)), (qa 46, .inl (cI, 4, .inl g46)), (qa 50, .inl (cJ, 4, .inr (.inl u50_162))), (qa 51, .inl (cZ, 4, .inl (upd g51 cv 0)))] := hD
      generalize upd g51 cv 0 = u51_193 at hP hD
      refine lv_goto (tgt := 302) hx hb dX11_first_194 (by decide) ?_
      have hP9 := hP
      have hD9 := hD
      have hK9 := hK.sub (tys' := []) [] rfl
      exact W.vret hx hb hr (fun t ht hW => ⟨⟨_, rfl, ⟨x15, x16, x20, x26, x27, x28, g32, g33, g34, g37, g38, g40, g41, g43, g44, g45, g46, u51_193, u50_162, rfl, r_g34, r_g37, r_g44, r_g45, r_u50_162, h_x16, h_x26, h_x27, h_x28⟩, by rw [ht]; exact hP9, va_K.moved hW.alike hK9, hD9⟩, hS.F ht⟩) hS.2.2 dX11_first_302
    refine lv_aload_n hx hb dX11_first_132 rfl (lv_at hl 1 rfl) ?_
    refine va_get (D := (dC, dI)) (ci := 10) (v := .ref (qa 44)) (C := RX11) (T := TX11) (N := 53) hx hb hts iwX11 hown hK hP 0 rfl rfl 44 (by decide) (hts (.fieldLink RX11 95 "ModulePlayerModel" "offset" "[I") (List.mem_cons_of_mem _ kw_200)) (fun _ h9 => h9) rfl dX11_first_133 ?_
    refine lv_iload_n hx hb dX11_first_136 rfl (lv_at hl 2 rfl) ?_
    refine lv_iload_n hx hb dX11_first_137 rfl (lv_at hl 0 rfl) ?_
    refine g_iast hx hb hK hP hD hS 11 0 rfl rfl cv (nI_clamp (Nat.lt_trans (show cv < 4 from by omega) (by decide))) (vp_in_nI (by omega) (by decide)) dX11_first_138 (fun H locs hP hD hS => ?_)
    have hP : va_P (dC, dI) vwCl [(h, .inr (10, mdF qa x0 x2 x3 x4 x13 x14 x15 x16 x17 x18 x19 x20 x21 x22 x23 x24 x26 x27 x28)), (qa 5, .inl (cI, 32, .inl g5)), (qa 31, .inl (cI, 4, .inl g31)), (qa 32, .inl (cI, 4, .inl g32)), (qa 33, .inl (cI, 4, .inl g33)), (qa 34, .inl (cI, 4, .inl g34)), (qa 37, .inl (cI, 4, .inl g37)), (qa 38, .inl (cI, 4, .inl g38)), (qa 40, .inl (cI, 4, .inl g40)), (qa 41, .inl (cI, 4, .inl g41)), (qa 43, .inl (cI, 4, .inl g43)), (qa 44, .inl (cI, 4, .inl (upd g44 cv (nI nq)))), (qa 45, .inl (cI, 4, .inl g45)), (qa 46, .inl (cI, 4, .inl g46)), (qa 50, .inl (cJ, 4, .inr (.inl g50))), (qa 51, .inl (cZ, 4, .inl g51))] H := hP
    have hD : va_D A [(h, .inr (10, mdF qa x0 x2 x3 x4 x13 x14 x15 x16 x17 x18 x19 x20 x21 x22 x23 x24 x26 x27 x28)), (qa 5, .inl (cI, 32, .inl g5)), (qa 31, .inl (cI, 4, .inl g31)), (qa 32, .inl (cI, 4, .inl g32)), (qa 33, .inl (cI, 4, .inl g33)), (qa 34, .inl (cI, 4, .inl g34)), (qa 37, .inl (cI, 4, .inl g37)), (qa 38, .inl (cI, 4, .inl g38)), (qa 40, .inl (cI, 4, .inl g40)), (qa 41, .inl (cI, 4, .inl g41)), (qa 43, .inl (cI, 4, .inl g43)), (qa 44, .inl (cI, 4, .inl (upd g44 cv (nI nq)))), (qa 45, .inl (cI, 4, .inl g45)), (qa 46, .inl (cI, 4, .inl g46)), (qa 50, .inl (cJ, 4, .inr (.inl g50))), (qa 51, .inl (cZ, 4, .inl g51))] := hD
    obtain ⟨u44_138, r_u44_138, eu44_138⟩ : ∃ ff : Nat → Int32, rg 4 0 255 ff ∧ ff = upd g44 cv (nI nq) := ⟨upd g44 cv (nI nq), rg_upd2 r_g44 (nI_rg (by omega) (by omega) (by omega)), rfl⟩
    rw [← eu44_138] at hP hD
    refine lv_iload_n hx hb dX11_first_139 rfl (lv_at hl 3 rfl) ?_
    refine lv_bipush (v := 17) hx hb dX11_first_140 (by decide) ?_
    refine lv_ishr hx hb dX11_first_142 ?_
    refine lv_topi (fun tv_142 etv_142 => ?_)
    refine lv_if_eq (tgt := 302) hx hb dX11_first_143 (by decide) (fun c_143 => ?_) (fun c_143 => ?_)
    · have hP9 := hP
      have hD9 := hD
      have hK9 := hK.sub (tys' := []) [] rfl
      exact W.vret hx hb hr (fun t ht hW => ⟨⟨_, rfl, ⟨x15, x16, x20, x26, x27, x28, g32, g33, g34, g37, g38, g40, g41, g43, u44_138, g45, g46, g51, g50, rfl, r_g34, r_g37, r_u44_138, r_g45, r_g50, h_x16, h_x26, h_x27, h_x28⟩, by rw [ht]; exact hP9, va_K.moved hW.alike hK9, hD9⟩, hS.F ht⟩) hS.2.2 dX11_first_302
    refine lv_aload_n hx hb dX11_first_146 rfl (lv_at hl 1 rfl) ?_
    refine va_get (D := (dC, dI)) (ci := 10) (v := .ref (qa 50)) (C := RX11) (T := TX11) (N := 53) hx hb hts iwX11 hown hK hP 0 rfl rfl 50 (by decide) (hts (.fieldLink RX11 113 "ModulePlayerModel" "at" "[J") (List.mem_cons_of_mem _ kw_206)) (fun _ h9 => h9) rfl dX11_first_147 ?_
    refine lv_iload_n hx hb dX11_first_150 rfl (lv_at hl 2 rfl) ?_
    refine lv_ldc2 (v := 16777216) hx hb hown (hts (.constantLong RX11 295 (16777216)) (List.mem_cons_of_mem _ kw_887)) dX11_first_151 ?_
    refine lv_aload_n hx hb dX11_first_154 rfl (lv_at hl 1 rfl) ?_
    refine va_get (D := (dC, dI)) (ci := 10) (v := .ref (qa 44)) (C := RX11) (T := TX11) (N := 53) hx hb hts iwX11 hown hK hP 0 rfl rfl 44 (by decide) (hts (.fieldLink RX11 95 "ModulePlayerModel" "offset" "[I") (List.mem_cons_of_mem _ kw_200)) (fun _ h9 => h9) rfl dX11_first_155 ?_
    refine lv_iload_n hx hb dX11_first_158 rfl (lv_at hl 2 rfl) ?_
    refine g_iald hx hb hK hP 11 0 rfl rfl cv (nI_clamp (Nat.lt_trans (show cv < 4 from by omega) (by decide))) (vp_in_nI (by omega) (by decide)) dX11_first_159 ?_
    obtain ⟨jn_159, hjn_159, ejn_159⟩ := rg_nat (kx := cv) (mx := 255) r_u44_138 (by omega) rfl
    refine g_topi (y := nI jn_159) ejn_159 ?_
    refine lv_i2l (v := (nI jn_159).toInt64) hx hb dX11_first_160 rfl ?_
    refine lv_topl (fun tv_160 etv_160 => ?_)
    refine lv_lmul hx hb dX11_first_161 ?_
    refine lv_topl (fun tv_161 etv_161 => ?_)
    refine g_last hx hb hK hP hD hS 14 1 rfl rfl cv (nI_clamp (Nat.lt_trans (show cv < 4 from by omega) (by decide))) (vp_in_nI (by omega) (by decide)) dX11_first_162 (fun H locs hP hD hS => ?_)
    have hP : va_P (dC, dI) vwCl [(h, .inr (10, mdF qa x0 x2 x3 x4 x13 x14 x15 x16 x17 x18 x19 x20 x21 x22 x23 x24 x26 x27 x28)), (qa 5, .inl (cI, 32, .inl g5)), (qa 31, .inl (cI, 4, .inl g31)), (qa 32, .inl (cI, 4, .inl g32)), (qa 33, .inl (cI, 4, .inl g33)), (qa 34, .inl (cI, 4, .inl g34)), (qa 37, .inl (cI, 4, .inl g37)), (qa 38, .inl (cI, 4, .inl g38)), (qa 40, .inl (cI, 4, .inl g40)), (qa 41, .inl (cI, 4, .inl g41)), (qa 43, .inl (cI, 4, .inl g43)), (qa 44, .inl (cI, 4, .inl u44_138)), (qa 45, .inl (cI, 4, .inl g45)), (qa 46, .inl (cI, 4, .inl g46)), (qa 50, .inl (cJ, 4, .inr (.inl (vp_updL g50 cv tv_161)))), (qa 51, .inl (cZ, 4, .inl g51))] H := hP
    have hD : va_D A [(h, .inr (10, mdF qa x0 x2 x3 x4 x13 x14 x15 x16 x17 x18 x19 x20 x21 x22 x23 x24 x26 x27 x28)), (qa 5, .inl (cI, 32, .inl g5)), (qa 31, .inl (cI, 4, .inl g31)), (qa 32, .inl (cI, 4, .inl g32)), (qa 33, .inl (cI, 4, .inl g33)), (qa 34, .inl (cI, 4, .inl g34)), (qa 37, .inl (cI, 4, .inl g37)), (qa 38, .inl (cI, 4, .inl g38)), (qa 40, .inl (cI, 4, .inl g40)), (qa 41, .inl (cI, 4, .inl g41)), (qa 43, .inl (cI, 4, .inl g43)), (qa 44, .inl (cI, 4, .inl u44_138)), (qa 45, .inl (cI, 4, .inl g45)), (qa 46, .inl (cI, 4, .inl g46)), (qa 50, .inl (cJ, 4, .inr (.inl (vp_updL g50 cv tv_161)))), (qa 51, .inl (cZ, 4, .inl g51))] := hD
    obtain ⟨u50_162, r_u50_162, eu50_162⟩ : ∃ ff : Nat → Int64, rgL 4 0 1099511627776 ff ∧ ff = vp_updL g50 cv tv_161 := ⟨vp_updL g50 cv tv_161, rgL_upd2 r_g50 (by rw [etv_161, etv_160]; exact at_off (by omega)), rfl⟩
    rw [← eu50_162] at hP hD
    refine lv_sipush (v := 256) hx hb dX11_first_163 (by decide) ?_
    refine lv_aload_n hx hb dX11_first_166 rfl (lv_at hl 1 rfl) ?_
    refine va_get (D := (dC, dI)) (ci := 10) (v := .ref (qa 44)) (C := RX11) (T := TX11) (N := 53) hx hb hts iwX11 hown hK hP 0 rfl rfl 44 (by decide) (hts (.fieldLink RX11 95 "ModulePlayerModel" "offset" "[I") (List.mem_cons_of_mem _ kw_200)) (fun _ h9 => h9) rfl dX11_first_167 ?_
    refine lv_iload_n hx hb dX11_first_170 rfl (lv_at hl 2 rfl) ?_
    refine g_iald hx hb hK hP 11 0 rfl rfl cv (nI_clamp (Nat.lt_trans (show cv < 4 from by omega) (by decide))) (vp_in_nI (by omega) (by decide)) dX11_first_171 ?_
    obtain ⟨jn_171, hjn_171, ejn_171⟩ := rg_nat (kx := cv) (mx := 255) r_u44_138 (by omega) rfl
    refine g_topi (y := nI jn_171) ejn_171 ?_
    refine lv_imul hx hb dX11_first_172 ?_
    refine lv_topi (fun tv_172 etv_172 => ?_)
    refine lv_aload_n hx hb dX11_first_173 rfl (lv_at hl 1 rfl) ?_
    refine va_get (D := (dC, dI)) (ci := 10) (v := .ref (qa 5)) (C := RX11) (T := TX11) (N := 53) hx hb hts iwX11 hown hK hP 0 rfl rfl 5 (by decide) (hts (.fieldLink RX11 17 "ModulePlayerModel" "length" "[I") (List.mem_cons_of_mem _ kw_173)) (fun _ h9 => h9) rfl dX11_first_174 ?_
    refine lv_aload_n hx hb dX11_first_177 rfl (lv_at hl 1 rfl) ?_
    refine va_get (D := (dC, dI)) (ci := 10) (v := .ref (qa 31)) (C := RX11) (T := TX11) (N := 53) hx hb hts iwX11 hown hK hP 0 rfl rfl 31 (by decide) (hts (.fieldLink RX11 56 "ModulePlayerModel" "sample" "[I") (List.mem_cons_of_mem _ kw_187)) (fun _ h9 => h9) rfl dX11_first_178 ?_
    refine lv_iload_n hx hb dX11_first_181 rfl (lv_at hl 2 rfl) ?_
    refine g_iald hx hb hK hP 2 0 rfl rfl cv (nI_clamp (Nat.lt_trans (show cv < 4 from by omega) (by decide))) (vp_in_nI (by omega) (by decide)) dX11_first_182 ?_
    obtain ⟨jn_182, hjn_182, ejn_182⟩ := rg_nat (kx := cv) (mx := 31) r_g31 (by omega) rfl
    refine g_topi (y := nI jn_182) ejn_182 ?_
    refine g_iald hx hb hK hP 1 0 rfl rfl jn_182 (nI_clamp (Nat.lt_trans (show jn_182 < 32 from by omega) (by decide))) (vp_in_nI (by omega) (by decide)) dX11_first_183 ?_
    obtain ⟨jn_183, hjn_183, ejn_183⟩ := rg_nat (kx := jn_182) (mx := 2000) r_g5 (by omega) rfl
    refine g_topi (y := nI jn_183) ejn_183 ?_
    refine lv_icmp_lt (tgt := 302) hx hb dX11_first_184 (by decide) (fun c_184 => ?_) (fun c_184 => ?_)
    · have hP9 := hP
      have hD9 := hD
      have hK9 := hK.sub (tys' := []) [] rfl
      exact W.vret hx hb hr (fun t ht hW => ⟨⟨_, rfl, ⟨x15, x16, x20, x26, x27, x28, g32, g33, g34, g37, g38, g40, g41, g43, u44_138, g45, g46, g51, u50_162, rfl, r_g34, r_g37, r_u44_138, r_g45, r_u50_162, h_x16, h_x26, h_x27, h_x28⟩, by rw [ht]; exact hP9, va_K.moved hW.alike hK9, hD9⟩, hS.F ht⟩) hS.2.2 dX11_first_302
    refine lv_aload_n hx hb dX11_first_187 rfl (lv_at hl 1 rfl) ?_
    refine va_get (D := (dC, dI)) (ci := 10) (v := .ref (qa 51)) (C := RX11) (T := TX11) (N := 53) hx hb hts iwX11 hown hK hP 0 rfl rfl 51 (by decide) (hts (.fieldLink RX11 117 "ModulePlayerModel" "sounds" "[Z") (List.mem_cons_of_mem _ kw_207)) (fun _ h9 => h9) rfl dX11_first_188 ?_
    refine lv_iload_n hx hb dX11_first_191 rfl (lv_at hl 2 rfl) ?_
    refine lv_iconst (v := 0) hx hb dX11_first_192 (by decide) ?_
    refine g_zast hx hb hK hP hD hS 15 2 rfl rfl (x' := 0) (by decide) cv (nI_clamp (Nat.lt_trans (show cv < 4 from by omega) (by decide))) (vp_in_nI (by omega) (by decide)) dX11_first_193 (fun H locs hP hD hS => ?_)
    have hP : va_P (dC, dI) vwCl [(h, .inr (10, mdF qa x0 x2 x3 x4 x13 x14 x15 x16 x17 x18 x19 x20 x21 x22 x23 x24 x26 x27 x28)), (qa 5, .inl (cI, 32, .inl g5)), (qa 31, .inl (cI, 4, .inl g31)), (qa 32, .inl (cI, 4, .inl g32)), (qa 33, .inl (cI, 4, .inl g33)), (qa 34, .inl (cI, 4, .inl g34)), (qa 37, .inl (cI, 4, .inl g37)), (qa 38, .inl (cI, 4, .inl g38)), (qa 40, .inl (cI, 4, .inl g40)), (qa 41, .inl (cI, 4, .inl g41)), (qa 43, .inl (cI, 4, .inl g43)), (qa 44, .inl (cI, 4, .inl u44_138)), (qa 45, .inl (cI, 4, .inl g45)), (qa 46, .inl (cI, 4, .inl g46)), (qa 50, .inl (cJ, 4, .inr (.inl u50_162))), (qa 51, .inl (cZ, 4, .inl (upd g51 cv 0)))] H := hP
    have hD : va_D A [(h, .inr (10, mdF qa x0 x2 x3 x4 x13 x14 x15 x16 x17 x18 x19 x20 x21 x22 x23 x24 x26 x27 x28)), (qa 5, .inl (cI, 32, .inl g5)), (qa 31, .inl (cI, 4, .inl g31)), (qa 32, .inl (cI, 4, .inl g32)), (qa 33, .inl (cI, 4, .inl g33)), (qa 34, .inl (cI, 4, .inl g34)), (qa 37, .inl (cI, 4, .inl g37)), (qa 38, .inl (cI, 4, .inl g38)), (qa 40, .inl (cI, 4, .inl g40)), (qa 41, .inl (cI, 4, .inl g41)), (qa 43, .inl (cI, 4, .inl g43)), (qa 44, .inl (cI, 4, .inl u44_138)), (qa 45, .inl (cI, 4, .inl g45)), (qa 46, .inl (cI, 4, .inl g46)), (qa 50, .inl (cJ, 4, .inr (.inl u50_162))), (qa 51, .inl (cZ, 4, .inl (upd g51 cv 0)))] := hD
    generalize upd g51 cv 0 = u51_193 at hP hD
    refine lv_goto (tgt := 302) hx hb dX11_first_194 (by decide) ?_
    have hP9 := hP
    have hD9 := hD
    have hK9 := hK.sub (tys' := []) [] rfl
    exact W.vret hx hb hr (fun t ht hW => ⟨⟨_, rfl, ⟨x15, x16, x20, x26, x27, x28, g32, g33, g34, g37, g38, g40, g41, g43, u44_138, g45, g46, u51_193, u50_162, rfl, r_g34, r_g37, r_u44_138, r_g45, r_u50_162, h_x16, h_x26, h_x27, h_x28⟩, by rw [ht]; exact hP9, va_K.moved hW.alike hK9, hD9⟩, hS.F ht⟩) hS.2.2 dX11_first_302
  · refine lv_tableIn (off := 292) (tgt := 302) hx hb dX11_first_10 (by rw [hq]; decide) (by rw [hq]; decide) (by rw [hq]; decide) (by decide) ?_
    have hP9 := hP
    have hD9 := hD
    have hK9 := hK.sub (tys' := []) [] rfl
    exact W.vret hx hb hr (fun t ht hW => ⟨⟨_, rfl, ⟨x15, x16, x20, x26, x27, x28, g32, g33, g34, g37, g38, g40, g41, g43, g44, g45, g46, g51, g50, rfl, r_g34, r_g37, r_g44, r_g45, r_g50, h_x16, h_x26, h_x27, h_x28⟩, by rw [ht]; exact hP9, va_K.moved hW.alike hK9, hD9⟩, hS.F ht⟩) hS.2.2 dX11_first_302
  · refine lv_tableIn (off := 187) (tgt := 197) hx hb dX11_first_10 (by rw [hq]; decide) (by rw [hq]; decide) (by rw [hq]; decide) (by decide) ?_
    refine lv_aload_n hx hb dX11_first_197 rfl (lv_at hl 1 rfl) ?_
    refine lv_iload_n hx hb dX11_first_198 rfl (lv_at hl 0 rfl) ?_
    obtain ⟨ju_, eju_⟩ : ∃ xx : Int32, xx = nI nq := ⟨_, rfl⟩
    have h_ju_ : jmp ju_ := by rw [eju_]; exact (by rw [jmp, nI_toInt (by omega)]; omega)
    refine g_topi (y := ju_) eju_.symm ?_
    refine va_put (D := (dC, dI)) (ci := 10) (v := .int ju_) (ty := tyX11 26) (C := RX11) (T := TX11) (N := 53) hx hb hts iwX11 tyX11 tyX11_ok nmX11 hown hK hP hD hS 0 rfl rfl 26 (by decide) (hts (.fieldLink RX11 245 "ModulePlayerModel" "jump" "I") (List.mem_cons_of_mem _ kw_841)) (fun _ h9 => h9) rfl (by decide +kernel) (rfl) (rfl) (Nat.le_of_ble_eq_true rfl) dX11_first_199 (fun H locs hP hD hS => ?_)
    have hP : va_P (dC, dI) vwCl [(h, .inr (10, mdF qa x0 x2 x3 x4 x13 x14 x15 x16 x17 x18 x19 x20 x21 x22 x23 x24 ju_ x27 x28)), (qa 5, .inl (cI, 32, .inl g5)), (qa 31, .inl (cI, 4, .inl g31)), (qa 32, .inl (cI, 4, .inl g32)), (qa 33, .inl (cI, 4, .inl g33)), (qa 34, .inl (cI, 4, .inl g34)), (qa 37, .inl (cI, 4, .inl g37)), (qa 38, .inl (cI, 4, .inl g38)), (qa 40, .inl (cI, 4, .inl g40)), (qa 41, .inl (cI, 4, .inl g41)), (qa 43, .inl (cI, 4, .inl g43)), (qa 44, .inl (cI, 4, .inl g44)), (qa 45, .inl (cI, 4, .inl g45)), (qa 46, .inl (cI, 4, .inl g46)), (qa 50, .inl (cJ, 4, .inr (.inl g50))), (qa 51, .inl (cZ, 4, .inl g51))] H := hP
    have hD : va_D A [(h, .inr (10, mdF qa x0 x2 x3 x4 x13 x14 x15 x16 x17 x18 x19 x20 x21 x22 x23 x24 ju_ x27 x28)), (qa 5, .inl (cI, 32, .inl g5)), (qa 31, .inl (cI, 4, .inl g31)), (qa 32, .inl (cI, 4, .inl g32)), (qa 33, .inl (cI, 4, .inl g33)), (qa 34, .inl (cI, 4, .inl g34)), (qa 37, .inl (cI, 4, .inl g37)), (qa 38, .inl (cI, 4, .inl g38)), (qa 40, .inl (cI, 4, .inl g40)), (qa 41, .inl (cI, 4, .inl g41)), (qa 43, .inl (cI, 4, .inl g43)), (qa 44, .inl (cI, 4, .inl g44)), (qa 45, .inl (cI, 4, .inl g45)), (qa 46, .inl (cI, 4, .inl g46)), (qa 50, .inl (cJ, 4, .inr (.inl g50))), (qa 51, .inl (cZ, 4, .inl g51))] := hD
    refine lv_goto (tgt := 302) hx hb dX11_first_202 (by decide) ?_
    have hP9 := hP
    have hD9 := hD
    have hK9 := hK.sub (tys' := []) [] rfl
    exact W.vret hx hb hr (fun t ht hW => ⟨⟨_, rfl, ⟨x15, x16, x20, ju_, x27, x28, g32, g33, g34, g37, g38, g40, g41, g43, g44, g45, g46, g51, g50, rfl, r_g34, r_g37, r_g44, r_g45, r_g50, h_x16, h_ju_, h_x27, h_x28⟩, by rw [ht]; exact hP9, va_K.moved hW.alike hK9, hD9⟩, hS.F ht⟩) hS.2.2 dX11_first_302
  · refine lv_tableIn (off := 195) (tgt := 205) hx hb dX11_first_10 (by rw [hq]; decide) (by rw [hq]; decide) (by rw [hq]; decide) (by decide) ?_
    refine lv_aload_n hx hb dX11_first_205 rfl (lv_at hl 1 rfl) ?_
    refine va_get (D := (dC, dI)) (ci := 10) (v := .ref (qa 32)) (C := RX11) (T := TX11) (N := 53) hx hb hts iwX11 hown hK hP 0 rfl rfl 32 (by decide) (hts (.fieldLink RX11 59 "ModulePlayerModel" "volume" "[I") (List.mem_cons_of_mem _ kw_188)) (fun _ h9 => h9) rfl dX11_first_206 ?_
    refine lv_iload_n hx hb dX11_first_209 rfl (lv_at hl 2 rfl) ?_
    refine lv_bipush (v := 64) hx hb dX11_first_210 (by decide) ?_
    refine lv_iload_n hx hb dX11_first_212 rfl (lv_at hl 0 rfl) ?_
    refine va_mmin hx hb (by rw [hml]; exact hl.1.symm) hown (hts (.methodLink RX11 123 Lib.Math.min.name) (List.mem_cons_of_mem _ kw_209)) (hts (.static Lib.Math.min.name) (List.mem_cons_of_mem _ kw_210)) (hts (.initialized "java/lang/Math") (List.mem_cons_of_mem _ kw_103)) (hts (.code Lib.Math.min.name Lib.Math.min.code 2 (some .int)) (List.mem_cons_of_mem _ kw_211)) (Nat.le_of_ble_eq_true rfl) (Nat.le_of_ble_eq_true rfl) (Nat.le_of_ble_eq_true rfl) (Nat.le_of_ble_eq_true rfl) dX11_first_213 ?_
    refine lv_topi (fun tv_213 etv_213 => ?_)
    refine g_iast hx hb hK hP hD hS 3 0 rfl rfl cv (nI_clamp (Nat.lt_trans (show cv < 4 from by omega) (by decide))) (vp_in_nI (by omega) (by decide)) dX11_first_216 (fun H locs hP hD hS => ?_)
    have hP : va_P (dC, dI) vwCl [(h, .inr (10, mdF qa x0 x2 x3 x4 x13 x14 x15 x16 x17 x18 x19 x20 x21 x22 x23 x24 x26 x27 x28)), (qa 5, .inl (cI, 32, .inl g5)), (qa 31, .inl (cI, 4, .inl g31)), (qa 32, .inl (cI, 4, .inl (upd g32 cv tv_213))), (qa 33, .inl (cI, 4, .inl g33)), (qa 34, .inl (cI, 4, .inl g34)), (qa 37, .inl (cI, 4, .inl g37)), (qa 38, .inl (cI, 4, .inl g38)), (qa 40, .inl (cI, 4, .inl g40)), (qa 41, .inl (cI, 4, .inl g41)), (qa 43, .inl (cI, 4, .inl g43)), (qa 44, .inl (cI, 4, .inl g44)), (qa 45, .inl (cI, 4, .inl g45)), (qa 46, .inl (cI, 4, .inl g46)), (qa 50, .inl (cJ, 4, .inr (.inl g50))), (qa 51, .inl (cZ, 4, .inl g51))] H := hP
    have hD : va_D A [(h, .inr (10, mdF qa x0 x2 x3 x4 x13 x14 x15 x16 x17 x18 x19 x20 x21 x22 x23 x24 x26 x27 x28)), (qa 5, .inl (cI, 32, .inl g5)), (qa 31, .inl (cI, 4, .inl g31)), (qa 32, .inl (cI, 4, .inl (upd g32 cv tv_213))), (qa 33, .inl (cI, 4, .inl g33)), (qa 34, .inl (cI, 4, .inl g34)), (qa 37, .inl (cI, 4, .inl g37)), (qa 38, .inl (cI, 4, .inl g38)), (qa 40, .inl (cI, 4, .inl g40)), (qa 41, .inl (cI, 4, .inl g41)), (qa 43, .inl (cI, 4, .inl g43)), (qa 44, .inl (cI, 4, .inl g44)), (qa 45, .inl (cI, 4, .inl g45)), (qa 46, .inl (cI, 4, .inl g46)), (qa 50, .inl (cJ, 4, .inr (.inl g50))), (qa 51, .inl (cZ, 4, .inl g51))] := hD
    generalize upd g32 cv tv_213 = u32_216 at hP hD
    refine lv_goto (tgt := 302) hx hb dX11_first_217 (by decide) ?_
    have hP9 := hP
    have hD9 := hD
    have hK9 := hK.sub (tys' := []) [] rfl
    exact W.vret hx hb hr (fun t ht hW => ⟨⟨_, rfl, ⟨x15, x16, x20, x26, x27, x28, u32_216, g33, g34, g37, g38, g40, g41, g43, g44, g45, g46, g51, g50, rfl, r_g34, r_g37, r_g44, r_g45, r_g50, h_x16, h_x26, h_x27, h_x28⟩, by rw [ht]; exact hP9, va_K.moved hW.alike hK9, hD9⟩, hS.F ht⟩) hS.2.2 dX11_first_302
  · refine lv_tableIn (off := 210) (tgt := 220) hx hb dX11_first_10 (by rw [hq]; decide) (by rw [hq]; decide) (by rw [hq]; decide) (by decide) ?_
    refine lv_aload_n hx hb dX11_first_220 rfl (lv_at hl 1 rfl) ?_
    refine lv_bipush (v := 10) hx hb dX11_first_221 (by decide) ?_
    refine lv_iload_n hx hb dX11_first_223 rfl (lv_at hl 0 rfl) ?_
    refine g_calli (wr := [(h, .inr (10, mdF qa x0 x2 x3 x4 x13 x14 x15 x16 x17 x18 x19 x20 x21 x22 x23 x24 x26 x27 x28)), (qa 5, .inl (cI, 32, .inl g5)), (qa 31, .inl (cI, 4, .inl g31)), (qa 32, .inl (cI, 4, .inl g32)), (qa 33, .inl (cI, 4, .inl g33)), (qa 34, .inl (cI, 4, .inl g34)), (qa 37, .inl (cI, 4, .inl g37)), (qa 38, .inl (cI, 4, .inl g38)), (qa 40, .inl (cI, 4, .inl g40)), (qa 41, .inl (cI, 4, .inl g41)), (qa 43, .inl (cI, 4, .inl g43)), (qa 44, .inl (cI, 4, .inl g44)), (qa 45, .inl (cI, 4, .inl g45)), (qa 46, .inl (cI, 4, .inl g46)), (qa 50, .inl (cJ, 4, .inr (.inl g50))), (qa 51, .inl (cZ, 4, .inl g51))]) (va_runS (As := [.int (nI nq)]) (rest := [.int 10, .ref h]) ⟨hx, hb, hml, hown, hts⟩ (m_x l dC dI H.size (nI nq) ) (va_cwS 1 hts (gG_S kw_862 kw_863 kw_5 kw_864) rfl rfl rfl (by decide +kernel) ⟨Nat.le_of_ble_eq_true rfl, Nat.le_of_ble_eq_true rfl⟩) (g_preS hP hD hK hS hA hN hZ [] (by decide) rfl [] rfl) rfl rfl hl.1 rfl (lv_room (Nat.le_of_ble_eq_true rfl)) dX11_first_224 ⟨Nat.le_of_ble_eq_true rfl, Nat.le_of_ble_eq_true rfl⟩) hP hD hK hS hA [] [0, 1, 2, 3, 4, 5, 6, 7, 8, 9, 10, 11, 12, 13, 14, 15] rfl rfl (by decide +kernel) (by decide +kernel) (fun r_224 w ty1 H locs hw_224 hP hD _ hS => ?_)
    rcases hw_224 with ⟨hu, hr_224⟩
    cases hu
    have hP : va_P (dC, dI) vwCl [(h, .inr (10, mdF qa x0 x2 x3 x4 x13 x14 x15 x16 x17 x18 x19 x20 x21 x22 x23 x24 x26 x27 x28)), (qa 5, .inl (cI, 32, .inl g5)), (qa 31, .inl (cI, 4, .inl g31)), (qa 32, .inl (cI, 4, .inl g32)), (qa 33, .inl (cI, 4, .inl g33)), (qa 34, .inl (cI, 4, .inl g34)), (qa 37, .inl (cI, 4, .inl g37)), (qa 38, .inl (cI, 4, .inl g38)), (qa 40, .inl (cI, 4, .inl g40)), (qa 41, .inl (cI, 4, .inl g41)), (qa 43, .inl (cI, 4, .inl g43)), (qa 44, .inl (cI, 4, .inl g44)), (qa 45, .inl (cI, 4, .inl g45)), (qa 46, .inl (cI, 4, .inl g46)), (qa 50, .inl (cJ, 4, .inr (.inl g50))), (qa 51, .inl (cZ, 4, .inl g51))] H := hP
    have hD : va_D A [(h, .inr (10, mdF qa x0 x2 x3 x4 x13 x14 x15 x16 x17 x18 x19 x20 x21 x22 x23 x24 x26 x27 x28)), (qa 5, .inl (cI, 32, .inl g5)), (qa 31, .inl (cI, 4, .inl g31)), (qa 32, .inl (cI, 4, .inl g32)), (qa 33, .inl (cI, 4, .inl g33)), (qa 34, .inl (cI, 4, .inl g34)), (qa 37, .inl (cI, 4, .inl g37)), (qa 38, .inl (cI, 4, .inl g38)), (qa 40, .inl (cI, 4, .inl g40)), (qa 41, .inl (cI, 4, .inl g41)), (qa 43, .inl (cI, 4, .inl g43)), (qa 44, .inl (cI, 4, .inl g44)), (qa 45, .inl (cI, 4, .inl g45)), (qa 46, .inl (cI, 4, .inl g46)), (qa 50, .inl (cJ, 4, .inr (.inl g50))), (qa 51, .inl (cZ, 4, .inl g51))] := hD
    refine g_topi (y := ((nI nq) >>> (4 &&& 31)) &&& 15) hr_224 ?_
    refine lv_imul hx hb dX11_first_227 ?_
    refine lv_topi (fun tv_227 etv_227 => ?_)
    refine lv_iload_n hx hb dX11_first_228 rfl (lv_at hl 0 rfl) ?_
    refine g_calli (wr := [(h, .inr (10, mdF qa x0 x2 x3 x4 x13 x14 x15 x16 x17 x18 x19 x20 x21 x22 x23 x24 x26 x27 x28)), (qa 5, .inl (cI, 32, .inl g5)), (qa 31, .inl (cI, 4, .inl g31)), (qa 32, .inl (cI, 4, .inl g32)), (qa 33, .inl (cI, 4, .inl g33)), (qa 34, .inl (cI, 4, .inl g34)), (qa 37, .inl (cI, 4, .inl g37)), (qa 38, .inl (cI, 4, .inl g38)), (qa 40, .inl (cI, 4, .inl g40)), (qa 41, .inl (cI, 4, .inl g41)), (qa 43, .inl (cI, 4, .inl g43)), (qa 44, .inl (cI, 4, .inl g44)), (qa 45, .inl (cI, 4, .inl g45)), (qa 46, .inl (cI, 4, .inl g46)), (qa 50, .inl (cJ, 4, .inr (.inl g50))), (qa 51, .inl (cZ, 4, .inl g51))]) (va_runS (As := [.int (nI nq)]) (rest := [.int tv_227, .ref h]) ⟨hx, hb, hml, hown, hts⟩ (m_y l dC dI H.size (nI nq) ) (va_cwS 1 hts (gG_S kw_865 kw_866 kw_5 kw_867) rfl rfl rfl (by decide +kernel) ⟨Nat.le_of_ble_eq_true rfl, Nat.le_of_ble_eq_true rfl⟩) (g_preS hP hD hK hS hA hN hZ [] (by decide) rfl [] rfl) rfl rfl hl.1 rfl (lv_room (Nat.le_of_ble_eq_true rfl)) dX11_first_229 ⟨Nat.le_of_ble_eq_true rfl, Nat.le_of_ble_eq_true rfl⟩) hP hD hK hS hA [] [0, 1, 2, 3, 4, 5, 6, 7, 8, 9, 10, 11, 12, 13, 14, 15] rfl rfl (by decide +kernel) (by decide +kernel) (fun r_229 w ty1 H locs hw_229 hP hD _ hS => ?_)
    rcases hw_229 with ⟨hu, hr_229⟩
    cases hu
    have hP : va_P (dC, dI) vwCl [(h, .inr (10, mdF qa x0 x2 x3 x4 x13 x14 x15 x16 x17 x18 x19 x20 x21 x22 x23 x24 x26 x27 x28)), (qa 5, .inl (cI, 32, .inl g5)), (qa 31, .inl (cI, 4, .inl g31)), (qa 32, .inl (cI, 4, .inl g32)), (qa 33, .inl (cI, 4, .inl g33)), (qa 34, .inl (cI, 4, .inl g34)), (qa 37, .inl (cI, 4, .inl g37)), (qa 38, .inl (cI, 4, .inl g38)), (qa 40, .inl (cI, 4, .inl g40)), (qa 41, .inl (cI, 4, .inl g41)), (qa 43, .inl (cI, 4, .inl g43)), (qa 44, .inl (cI, 4, .inl g44)), (qa 45, .inl (cI, 4, .inl g45)), (qa 46, .inl (cI, 4, .inl g46)), (qa 50, .inl (cJ, 4, .inr (.inl g50))), (qa 51, .inl (cZ, 4, .inl g51))] H := hP
    have hD : va_D A [(h, .inr (10, mdF qa x0 x2 x3 x4 x13 x14 x15 x16 x17 x18 x19 x20 x21 x22 x23 x24 x26 x27 x28)), (qa 5, .inl (cI, 32, .inl g5)), (qa 31, .inl (cI, 4, .inl g31)), (qa 32, .inl (cI, 4, .inl g32)), (qa 33, .inl (cI, 4, .inl g33)), (qa 34, .inl (cI, 4, .inl g34)), (qa 37, .inl (cI, 4, .inl g37)), (qa 38, .inl (cI, 4, .inl g38)), (qa 40, .inl (cI, 4, .inl g40)), (qa 41, .inl (cI, 4, .inl g41)), (qa 43, .inl (cI, 4, .inl g43)), (qa 44, .inl (cI, 4, .inl g44)), (qa 45, .inl (cI, 4, .inl g45)), (qa 46, .inl (cI, 4, .inl g46)), (qa 50, .inl (cJ, 4, .inr (.inl g50))), (qa 51, .inl (cZ, 4, .inl g51))] := hD
    refine g_topi (y := (nI nq) &&& 15) hr_229 ?_
    refine lv_iadd hx hb dX11_first_232 ?_
    refine lv_topi (fun tv_232 etv_232 => ?_)
    refine lv_bipush (v := 63) hx hb dX11_first_233 (by decide) ?_
    refine lv_icmp_le (tgt := 242) hx hb dX11_first_235 (by decide) (fun c_235 => ?_) (fun c_235 => ?_)
    · refine lv_bipush (v := 10) hx hb dX11_first_242 (by decide) ?_
      refine lv_iload_n hx hb dX11_first_244 rfl (lv_at hl 0 rfl) ?_
      refine g_calli (wr := [(h, .inr (10, mdF qa x0 x2 x3 x4 x13 x14 x15 x16 x17 x18 x19 x20 x21 x22 x23 x24 x26 x27 x28)), (qa 5, .inl (cI, 32, .inl g5)), (qa 31, .inl (cI, 4, .inl g31)), (qa 32, .inl (cI, 4, .inl g32)), (qa 33, .inl (cI, 4, .inl g33)), (qa 34, .inl (cI, 4, .inl g34)), (qa 37, .inl (cI, 4, .inl g37)), (qa 38, .inl (cI, 4, .inl g38)), (qa 40, .inl (cI, 4, .inl g40)), (qa 41, .inl (cI, 4, .inl g41)), (qa 43, .inl (cI, 4, .inl g43)), (qa 44, .inl (cI, 4, .inl g44)), (qa 45, .inl (cI, 4, .inl g45)), (qa 46, .inl (cI, 4, .inl g46)), (qa 50, .inl (cJ, 4, .inr (.inl g50))), (qa 51, .inl (cZ, 4, .inl g51))]) (va_runS (As := [.int (nI nq)]) (rest := [.int 10, .ref h]) ⟨hx, hb, hml, hown, hts⟩ (m_x l dC dI H.size (nI nq) ) (va_cwS 1 hts (gG_S kw_862 kw_863 kw_5 kw_864) rfl rfl rfl (by decide +kernel) ⟨Nat.le_of_ble_eq_true rfl, Nat.le_of_ble_eq_true rfl⟩) (g_preS hP hD hK hS hA hN hZ [] (by decide) rfl [] rfl) rfl rfl hl.1 rfl (lv_room (Nat.le_of_ble_eq_true rfl)) dX11_first_245 ⟨Nat.le_of_ble_eq_true rfl, Nat.le_of_ble_eq_true rfl⟩) hP hD hK hS hA [] [0, 1, 2, 3, 4, 5, 6, 7, 8, 9, 10, 11, 12, 13, 14, 15] rfl rfl (by decide +kernel) (by decide +kernel) (fun r_245 w ty1 H locs hw_245 hP hD _ hS => ?_)
      rcases hw_245 with ⟨hu, hr_245⟩
      cases hu
      have hP : va_P (dC, dI) vwCl [(h, .inr (10, mdF qa x0 x2 x3 x4 x13 x14 x15 x16 x17 x18 x19 x20 x21 x22 x23 x24 x26 x27 x28)), (qa 5, .inl (cI, 32, .inl g5)), (qa 31, .inl (cI, 4, .inl g31)), (qa 32, .inl (cI, 4, .inl g32)), (qa 33, .inl (cI, 4, .inl g33)), (qa 34, .inl (cI, 4, .inl g34)), (qa 37, .inl (cI, 4, .inl g37)), (qa 38, .inl (cI, 4, .inl g38)), (qa 40, .inl (cI, 4, .inl g40)), (qa 41, .inl (cI, 4, .inl g41)), (qa 43, .inl (cI, 4, .inl g43)), (qa 44, .inl (cI, 4, .inl g44)), (qa 45, .inl (cI, 4, .inl g45)), (qa 46, .inl (cI, 4, .inl g46)), (qa 50, .inl (cJ, 4, .inr (.inl g50))), (qa 51, .inl (cZ, 4, .inl g51))] H := hP
      have hD : va_D A [(h, .inr (10, mdF qa x0 x2 x3 x4 x13 x14 x15 x16 x17 x18 x19 x20 x21 x22 x23 x24 x26 x27 x28)), (qa 5, .inl (cI, 32, .inl g5)), (qa 31, .inl (cI, 4, .inl g31)), (qa 32, .inl (cI, 4, .inl g32)), (qa 33, .inl (cI, 4, .inl g33)), (qa 34, .inl (cI, 4, .inl g34)), (qa 37, .inl (cI, 4, .inl g37)), (qa 38, .inl (cI, 4, .inl g38)), (qa 40, .inl (cI, 4, .inl g40)), (qa 41, .inl (cI, 4, .inl g41)), (qa 43, .inl (cI, 4, .inl g43)), (qa 44, .inl (cI, 4, .inl g44)), (qa 45, .inl (cI, 4, .inl g45)), (qa 46, .inl (cI, 4, .inl g46)), (qa 50, .inl (cJ, 4, .inr (.inl g50))), (qa 51, .inl (cZ, 4, .inl g51))] := hD
      refine g_topi (y := ((nI nq) >>> (4 &&& 31)) &&& 15) hr_245 ?_
      refine lv_imul hx hb dX11_first_248 ?_
      refine lv_topi (fun tv_248 etv_248 => ?_)
      refine lv_iload_n hx hb dX11_first_249 rfl (lv_at hl 0 rfl) ?_
      refine g_calli (wr := [(h, .inr (10, mdF qa x0 x2 x3 x4 x13 x14 x15 x16 x17 x18 x19 x20 x21 x22 x23 x24 x26 x27 x28)), (qa 5, .inl (cI, 32, .inl g5)), (qa 31, .inl (cI, 4, .inl g31)), (qa 32, .inl (cI, 4, .inl g32)), (qa 33, .inl (cI, 4, .inl g33)), (qa 34, .inl (cI, 4, .inl g34)), (qa 37, .inl (cI, 4, .inl g37)), (qa 38, .inl (cI, 4, .inl g38)), (qa 40, .inl (cI, 4, .inl g40)), (qa 41, .inl (cI, 4, .inl g41)), (qa 43, .inl (cI, 4, .inl g43)), (qa 44, .inl (cI, 4, .inl g44)), (qa 45, .inl (cI, 4, .inl g45)), (qa 46, .inl (cI, 4, .inl g46)), (qa 50, .inl (cJ, 4, .inr (.inl g50))), (qa 51, .inl (cZ, 4, .inl g51))]) (va_runS (As := [.int (nI nq)]) (rest := [.int tv_248, .ref h]) ⟨hx, hb, hml, hown, hts⟩ (m_y l dC dI H.size (nI nq) ) (va_cwS 1 hts (gG_S kw_865 kw_866 kw_5 kw_867) rfl rfl rfl (by decide +kernel) ⟨Nat.le_of_ble_eq_true rfl, Nat.le_of_ble_eq_true rfl⟩) (g_preS hP hD hK hS hA hN hZ [] (by decide) rfl [] rfl) rfl rfl hl.1 rfl (lv_room (Nat.le_of_ble_eq_true rfl)) dX11_first_250 ⟨Nat.le_of_ble_eq_true rfl, Nat.le_of_ble_eq_true rfl⟩) hP hD hK hS hA [] [0, 1, 2, 3, 4, 5, 6, 7, 8, 9, 10, 11, 12, 13, 14, 15] rfl rfl (by decide +kernel) (by decide +kernel) (fun r_250 w ty1 H locs hw_250 hP hD _ hS => ?_)
      rcases hw_250 with ⟨hu, hr_250⟩
      cases hu
      have hP : va_P (dC, dI) vwCl [(h, .inr (10, mdF qa x0 x2 x3 x4 x13 x14 x15 x16 x17 x18 x19 x20 x21 x22 x23 x24 x26 x27 x28)), (qa 5, .inl (cI, 32, .inl g5)), (qa 31, .inl (cI, 4, .inl g31)), (qa 32, .inl (cI, 4, .inl g32)), (qa 33, .inl (cI, 4, .inl g33)), (qa 34, .inl (cI, 4, .inl g34)), (qa 37, .inl (cI, 4, .inl g37)), (qa 38, .inl (cI, 4, .inl g38)), (qa 40, .inl (cI, 4, .inl g40)), (qa 41, .inl (cI, 4, .inl g41)), (qa 43, .inl (cI, 4, .inl g43)), (qa 44, .inl (cI, 4, .inl g44)), (qa 45, .inl (cI, 4, .inl g45)), (qa 46, .inl (cI, 4, .inl g46)), (qa 50, .inl (cJ, 4, .inr (.inl g50))), (qa 51, .inl (cZ, 4, .inl g51))] H := hP
      have hD : va_D A [(h, .inr (10, mdF qa x0 x2 x3 x4 x13 x14 x15 x16 x17 x18 x19 x20 x21 x22 x23 x24 x26 x27 x28)), (qa 5, .inl (cI, 32, .inl g5)), (qa 31, .inl (cI, 4, .inl g31)), (qa 32, .inl (cI, 4, .inl g32)), (qa 33, .inl (cI, 4, .inl g33)), (qa 34, .inl (cI, 4, .inl g34)), (qa 37, .inl (cI, 4, .inl g37)), (qa 38, .inl (cI, 4, .inl g38)), (qa 40, .inl (cI, 4, .inl g40)), (qa 41, .inl (cI, 4, .inl g41)), (qa 43, .inl (cI, 4, .inl g43)), (qa 44, .inl (cI, 4, .inl g44)), (qa 45, .inl (cI, 4, .inl g45)), (qa 46, .inl (cI, 4, .inl g46)), (qa 50, .inl (cJ, 4, .inr (.inl g50))), (qa 51, .inl (cZ, 4, .inl g51))] := hD
      refine g_topi (y := (nI nq) &&& 15) hr_250 ?_
      refine lv_iadd hx hb dX11_first_253 ?_
      refine lv_topi (fun tv_253 etv_253 => ?_)
      obtain ⟨sp_9, esp_9⟩ : ∃ xx : Int32, xx = tv_253 := ⟨_, rfl⟩
      have h_sp_9 : stp sp_9 := by rw [esp_9]; exact br_e etv_227 etv_232 etv_248 etv_253 c_235
      refine g_topi (y := sp_9) esp_9.symm ?_
      refine va_put (D := (dC, dI)) (ci := 10) (v := .int sp_9) (ty := tyX11 27) (C := RX11) (T := TX11) (N := 53) hx hb hts iwX11 tyX11 tyX11_ok nmX11 hown hK hP hD hS 0 rfl rfl 27 (by decide) (hts (.fieldLink RX11 248 "ModulePlayerModel" "stop" "I") (List.mem_cons_of_mem _ kw_842)) (fun _ h9 => h9) rfl (by decide +kernel) (rfl) (rfl) (Nat.le_of_ble_eq_true rfl) dX11_first_254 (fun H locs hP hD hS => ?_)
      have hP : va_P (dC, dI) vwCl [(h, .inr (10, mdF qa x0 x2 x3 x4 x13 x14 x15 x16 x17 x18 x19 x20 x21 x22 x23 x24 x26 sp_9 x28)), (qa 5, .inl (cI, 32, .inl g5)), (qa 31, .inl (cI, 4, .inl g31)), (qa 32, .inl (cI, 4, .inl g32)), (qa 33, .inl (cI, 4, .inl g33)), (qa 34, .inl (cI, 4, .inl g34)), (qa 37, .inl (cI, 4, .inl g37)), (qa 38, .inl (cI, 4, .inl g38)), (qa 40, .inl (cI, 4, .inl g40)), (qa 41, .inl (cI, 4, .inl g41)), (qa 43, .inl (cI, 4, .inl g43)), (qa 44, .inl (cI, 4, .inl g44)), (qa 45, .inl (cI, 4, .inl g45)), (qa 46, .inl (cI, 4, .inl g46)), (qa 50, .inl (cJ, 4, .inr (.inl g50))), (qa 51, .inl (cZ, 4, .inl g51))] H := hP
      have hD : va_D A [(h, .inr (10, mdF qa x0 x2 x3 x4 x13 x14 x15 x16 x17 x18 x19 x20 x21 x22 x23 x24 x26 sp_9 x28)), (qa 5, .inl (cI, 32, .inl g5)), (qa 31, .inl (cI, 4, .inl g31)), (qa 32, .inl (cI, 4, .inl g32)), (qa 33, .inl (cI, 4, .inl g33)), (qa 34, .inl (cI, 4, .inl g34)), (qa 37, .inl (cI, 4, .inl g37)), (qa 38, .inl (cI, 4, .inl g38)), (qa 40, .inl (cI, 4, .inl g40)), (qa 41, .inl (cI, 4, .inl g41)), (qa 43, .inl (cI, 4, .inl g43)), (qa 44, .inl (cI, 4, .inl g44)), (qa 45, .inl (cI, 4, .inl g45)), (qa 46, .inl (cI, 4, .inl g46)), (qa 50, .inl (cJ, 4, .inr (.inl g50))), (qa 51, .inl (cZ, 4, .inl g51))] := hD
      refine lv_goto (tgt := 302) hx hb dX11_first_257 (by decide) ?_
      have hP9 := hP
      have hD9 := hD
      have hK9 := hK.sub (tys' := []) [] rfl
      exact W.vret hx hb hr (fun t ht hW => ⟨⟨_, rfl, ⟨x15, x16, x20, x26, sp_9, x28, g32, g33, g34, g37, g38, g40, g41, g43, g44, g45, g46, g51, g50, rfl, r_g34, r_g37, r_g44, r_g45, r_g50, h_x16, h_x26, h_sp_9, h_x28⟩, by rw [ht]; exact hP9, va_K.moved hW.alike hK9, hD9⟩, hS.F ht⟩) hS.2.2 dX11_first_302
    refine lv_iconst (v := 0) hx hb dX11_first_238 (by decide) ?_
    refine lv_goto (tgt := 254) hx hb dX11_first_239 (by decide) ?_
    refine va_put (D := (dC, dI)) (ci := 10) (v := .int 0) (ty := tyX11 27) (C := RX11) (T := TX11) (N := 53) hx hb hts iwX11 tyX11 tyX11_ok nmX11 hown hK hP hD hS 0 rfl rfl 27 (by decide) (hts (.fieldLink RX11 248 "ModulePlayerModel" "stop" "I") (List.mem_cons_of_mem _ kw_842)) (fun _ h9 => h9) rfl (by decide +kernel) (rfl) (rfl) (Nat.le_of_ble_eq_true rfl) dX11_first_254 (fun H locs hP hD hS => ?_)
    have hP : va_P (dC, dI) vwCl [(h, .inr (10, mdF qa x0 x2 x3 x4 x13 x14 x15 x16 x17 x18 x19 x20 x21 x22 x23 x24 x26 0 x28)), (qa 5, .inl (cI, 32, .inl g5)), (qa 31, .inl (cI, 4, .inl g31)), (qa 32, .inl (cI, 4, .inl g32)), (qa 33, .inl (cI, 4, .inl g33)), (qa 34, .inl (cI, 4, .inl g34)), (qa 37, .inl (cI, 4, .inl g37)), (qa 38, .inl (cI, 4, .inl g38)), (qa 40, .inl (cI, 4, .inl g40)), (qa 41, .inl (cI, 4, .inl g41)), (qa 43, .inl (cI, 4, .inl g43)), (qa 44, .inl (cI, 4, .inl g44)), (qa 45, .inl (cI, 4, .inl g45)), (qa 46, .inl (cI, 4, .inl g46)), (qa 50, .inl (cJ, 4, .inr (.inl g50))), (qa 51, .inl (cZ, 4, .inl g51))] H := hP
    have hD : va_D A [(h, .inr (10, mdF qa x0 x2 x3 x4 x13 x14 x15 x16 x17 x18 x19 x20 x21 x22 x23 x24 x26 0 x28)), (qa 5, .inl (cI, 32, .inl g5)), (qa 31, .inl (cI, 4, .inl g31)), (qa 32, .inl (cI, 4, .inl g32)), (qa 33, .inl (cI, 4, .inl g33)), (qa 34, .inl (cI, 4, .inl g34)), (qa 37, .inl (cI, 4, .inl g37)), (qa 38, .inl (cI, 4, .inl g38)), (qa 40, .inl (cI, 4, .inl g40)), (qa 41, .inl (cI, 4, .inl g41)), (qa 43, .inl (cI, 4, .inl g43)), (qa 44, .inl (cI, 4, .inl g44)), (qa 45, .inl (cI, 4, .inl g45)), (qa 46, .inl (cI, 4, .inl g46)), (qa 50, .inl (cJ, 4, .inr (.inl g50))), (qa 51, .inl (cZ, 4, .inl g51))] := hD
    refine lv_goto (tgt := 302) hx hb dX11_first_257 (by decide) ?_
    have hP9 := hP
    have hD9 := hD
    have hK9 := hK.sub (tys' := []) [] rfl
    exact W.vret hx hb hr (fun t ht hW => ⟨⟨_, rfl, ⟨x15, x16, x20, x26, 0, x28, g32, g33, g34, g37, g38, g40, g41, g43, g44, g45, g46, g51, g50, rfl, r_g34, r_g37, r_g44, r_g45, r_g50, h_x16, h_x26, (by unfold stp; decide), h_x28⟩, by rw [ht]; exact hP9, va_K.moved hW.alike hK9, hD9⟩, hS.F ht⟩) hS.2.2 dX11_first_302
  · refine lv_tableIn (off := 250) (tgt := 260) hx hb dX11_first_10 (by rw [hq]; decide) (by rw [hq]; decide) (by rw [hq]; decide) (by decide) ?_
    refine lv_aload_n hx hb dX11_first_260 rfl (lv_at hl 1 rfl) ?_
    refine lv_iload_n hx hb dX11_first_261 rfl (lv_at hl 2 rfl) ?_
    refine lv_iload_n hx hb dX11_first_262 rfl (lv_at hl 0 rfl) ?_
    refine g_calli (wr := [(h, .inr (10, mdF qa x0 x2 x3 x4 x13 x14 x15 x16 x17 x18 x19 x20 x21 x22 x23 x24 x26 x27 x28)), (qa 5, .inl (cI, 32, .inl g5)), (qa 31, .inl (cI, 4, .inl g31)), (qa 32, .inl (cI, 4, .inl g32)), (qa 33, .inl (cI, 4, .inl g33)), (qa 34, .inl (cI, 4, .inl g34)), (qa 37, .inl (cI, 4, .inl g37)), (qa 38, .inl (cI, 4, .inl g38)), (qa 40, .inl (cI, 4, .inl g40)), (qa 41, .inl (cI, 4, .inl g41)), (qa 43, .inl (cI, 4, .inl g43)), (qa 44, .inl (cI, 4, .inl g44)), (qa 45, .inl (cI, 4, .inl g45)), (qa 46, .inl (cI, 4, .inl g46)), (qa 50, .inl (cJ, 4, .inr (.inl g50))), (qa 51, .inl (cZ, 4, .inl g51))]) (va_runS (As := [.int (nI nq)]) (rest := [.int (nI cv), .ref h]) ⟨hx, hb, hml, hown, hts⟩ (m_x l dC dI H.size (nI nq) ) (va_cwS 1 hts (gG_S kw_862 kw_863 kw_5 kw_864) rfl rfl rfl (by decide +kernel) ⟨Nat.le_of_ble_eq_true rfl, Nat.le_of_ble_eq_true rfl⟩) (g_preS hP hD hK hS hA hN hZ [] (by decide) rfl [] rfl) rfl rfl hl.1 rfl (lv_room (Nat.le_of_ble_eq_true rfl)) dX11_first_263 ⟨Nat.le_of_ble_eq_true rfl, Nat.le_of_ble_eq_true rfl⟩) hP hD hK hS hA [] [0, 1, 2, 3, 4, 5, 6, 7, 8, 9, 10, 11, 12, 13, 14, 15] rfl rfl (by decide +kernel) (by decide +kernel) (fun r_263 w ty1 H locs hw_263 hP hD _ hS => ?_)
    rcases hw_263 with ⟨hu, hr_263⟩
    cases hu
    have hP : va_P (dC, dI) vwCl [(h, .inr (10, mdF qa x0 x2 x3 x4 x13 x14 x15 x16 x17 x18 x19 x20 x21 x22 x23 x24 x26 x27 x28)), (qa 5, .inl (cI, 32, .inl g5)), (qa 31, .inl (cI, 4, .inl g31)), (qa 32, .inl (cI, 4, .inl g32)), (qa 33, .inl (cI, 4, .inl g33)), (qa 34, .inl (cI, 4, .inl g34)), (qa 37, .inl (cI, 4, .inl g37)), (qa 38, .inl (cI, 4, .inl g38)), (qa 40, .inl (cI, 4, .inl g40)), (qa 41, .inl (cI, 4, .inl g41)), (qa 43, .inl (cI, 4, .inl g43)), (qa 44, .inl (cI, 4, .inl g44)), (qa 45, .inl (cI, 4, .inl g45)), (qa 46, .inl (cI, 4, .inl g46)), (qa 50, .inl (cJ, 4, .inr (.inl g50))), (qa 51, .inl (cZ, 4, .inl g51))] H := hP
    have hD : va_D A [(h, .inr (10, mdF qa x0 x2 x3 x4 x13 x14 x15 x16 x17 x18 x19 x20 x21 x22 x23 x24 x26 x27 x28)), (qa 5, .inl (cI, 32, .inl g5)), (qa 31, .inl (cI, 4, .inl g31)), (qa 32, .inl (cI, 4, .inl g32)), (qa 33, .inl (cI, 4, .inl g33)), (qa 34, .inl (cI, 4, .inl g34)), (qa 37, .inl (cI, 4, .inl g37)), (qa 38, .inl (cI, 4, .inl g38)), (qa 40, .inl (cI, 4, .inl g40)), (qa 41, .inl (cI, 4, .inl g41)), (qa 43, .inl (cI, 4, .inl g43)), (qa 44, .inl (cI, 4, .inl g44)), (qa 45, .inl (cI, 4, .inl g45)), (qa 46, .inl (cI, 4, .inl g46)), (qa 50, .inl (cJ, 4, .inr (.inl g50))), (qa 51, .inl (cZ, 4, .inl g51))] := hD
    refine g_topi (y := ((nI nq) >>> (4 &&& 31)) &&& 15) hr_263 ?_
    refine lv_iload_n hx hb dX11_first_266 rfl (lv_at hl 0 rfl) ?_
    refine g_calli (wr := [(h, .inr (10, mdF qa x0 x2 x3 x4 x13 x14 x15 x16 x17 x18 x19 x20 x21 x22 x23 x24 x26 x27 x28)), (qa 5, .inl (cI, 32, .inl g5)), (qa 31, .inl (cI, 4, .inl g31)), (qa 32, .inl (cI, 4, .inl g32)), (qa 33, .inl (cI, 4, .inl g33)), (qa 34, .inl (cI, 4, .inl g34)), (qa 37, .inl (cI, 4, .inl g37)), (qa 38, .inl (cI, 4, .inl g38)), (qa 40, .inl (cI, 4, .inl g40)), (qa 41, .inl (cI, 4, .inl g41)), (qa 43, .inl (cI, 4, .inl g43)), (qa 44, .inl (cI, 4, .inl g44)), (qa 45, .inl (cI, 4, .inl g45)), (qa 46, .inl (cI, 4, .inl g46)), (qa 50, .inl (cJ, 4, .inr (.inl g50))), (qa 51, .inl (cZ, 4, .inl g51))]) (va_runS (As := [.int (nI nq)]) (rest := [.int (((nI nq) >>> (4 &&& 31)) &&& 15), .int (nI cv), .ref h]) ⟨hx, hb, hml, hown, hts⟩ (m_y l dC dI H.size (nI nq) ) (va_cwS 1 hts (gG_S kw_865 kw_866 kw_5 kw_867) rfl rfl rfl (by decide +kernel) ⟨Nat.le_of_ble_eq_true rfl, Nat.le_of_ble_eq_true rfl⟩) (g_preS hP hD hK hS hA hN hZ [] (by decide) rfl [] rfl) rfl rfl hl.1 rfl (lv_room (Nat.le_of_ble_eq_true rfl)) dX11_first_267 ⟨Nat.le_of_ble_eq_true rfl, Nat.le_of_ble_eq_true rfl⟩) hP hD hK hS hA [] [0, 1, 2, 3, 4, 5, 6, 7, 8, 9, 10, 11, 12, 13, 14, 15] rfl rfl (by decide +kernel) (by decide +kernel) (fun r_267 w ty1 H locs hw_267 hP hD _ hS => ?_)
    rcases hw_267 with ⟨hu, hr_267⟩
    cases hu
    have hP : va_P (dC, dI) vwCl [(h, .inr (10, mdF qa x0 x2 x3 x4 x13 x14 x15 x16 x17 x18 x19 x20 x21 x22 x23 x24 x26 x27 x28)), (qa 5, .inl (cI, 32, .inl g5)), (qa 31, .inl (cI, 4, .inl g31)), (qa 32, .inl (cI, 4, .inl g32)), (qa 33, .inl (cI, 4, .inl g33)), (qa 34, .inl (cI, 4, .inl g34)), (qa 37, .inl (cI, 4, .inl g37)), (qa 38, .inl (cI, 4, .inl g38)), (qa 40, .inl (cI, 4, .inl g40)), (qa 41, .inl (cI, 4, .inl g41)), (qa 43, .inl (cI, 4, .inl g43)), (qa 44, .inl (cI, 4, .inl g44)), (qa 45, .inl (cI, 4, .inl g45)), (qa 46, .inl (cI, 4, .inl g46)), (qa 50, .inl (cJ, 4, .inr (.inl g50))), (qa 51, .inl (cZ, 4, .inl g51))] H := hP
    have hD : va_D A [(h, .inr (10, mdF qa x0 x2 x3 x4 x13 x14 x15 x16 x17 x18 x19 x20 x21 x22 x23 x24 x26 x27 x28)), (qa 5, .inl (cI, 32, .inl g5)), (qa 31, .inl (cI, 4, .inl g31)), (qa 32, .inl (cI, 4, .inl g32)), (qa 33, .inl (cI, 4, .inl g33)), (qa 34, .inl (cI, 4, .inl g34)), (qa 37, .inl (cI, 4, .inl g37)), (qa 38, .inl (cI, 4, .inl g38)), (qa 40, .inl (cI, 4, .inl g40)), (qa 41, .inl (cI, 4, .inl g41)), (qa 43, .inl (cI, 4, .inl g43)), (qa 44, .inl (cI, 4, .inl g44)), (qa 45, .inl (cI, 4, .inl g45)), (qa 46, .inl (cI, 4, .inl g46)), (qa 50, .inl (cJ, 4, .inr (.inl g50))), (qa 51, .inl (cZ, 4, .inl g51))] := hD
    refine g_topi (y := (nI nq) &&& 15) hr_267 ?_
    refine g_callv (wr := [(qa 5, .inl (cI, 32, .inl g5)), (qa 31, .inl (cI, 4, .inl g31)), (qa 37, .inl (cI, 4, .inl g37)), (qa 38, .inl (cI, 4, .inl g38)), (qa 41, .inl (cI, 4, .inl g41)), (qa 44, .inl (cI, 4, .inl g44)), (qa 50, .inl (cJ, 4, .inr (.inl g50))), (qa 51, .inl (cZ, 4, .inl g51))]) (va_runV (As := [.int (nI cv), .int (((nI nq) >>> (4 &&& 31)) &&& 15), .int ((nI nq) &&& 15)]) (rest := []) ⟨hx, hb, hml, hown, hts⟩ (m_firstE l dC dI H.size h qa x0 x2 x3 x4 x13 x14 x15 x16 x17 x18 x19 x20 x21 x22 x23 x24 x26 x27 x28 cI g32 g33 g34 g40 g43 g45 g46 cv (((nI nq) >>> (4 &&& 31)) &&& 15) ((nI nq) &&& 15) (hcv) (r_g34) (r_g45) (h_x18) (h_x28)) (cwV 3 hts (gG_V kw_891 kw_892 kw_893 kw_5 kw_894) rfl rfl rfl (by decide +kernel) ⟨Nat.le_of_ble_eq_true rfl, Nat.le_of_ble_eq_true rfl⟩) (g_preV (C := RX11) (T := TX11) (N := 53) hP hD hK hS hA hN hZ (q0 := 0) rfl rfl [0, 3, 4, 5, 8, 10, 12, 13] (by decide +kernel) rfl [0] rfl) rfl rfl hl.1 rfl (lv_room (Nat.le_of_ble_eq_true rfl)) dX11_first_270 ⟨Nat.le_of_ble_eq_true rfl, Nat.le_of_ble_eq_true rfl⟩) hP hD hK hS hA [0, 3, 4, 5, 8, 10, 12, 13] [1, 2, 6, 7, 9, 11, 14, 15] rfl rfl (by decide +kernel) (by decide +kernel) (fun w ty1 H locs hw_270 hP hD _ hS => ?_)
    rcases hw_270 with ⟨y20_270, y28_270, k32_270, k33_270, k34_270, k40_270, k43_270, k45_270, k46_270, hu, r_k34_270, r_k45_270, h_y28_270⟩
    cases hu
    have hP : va_P (dC, dI) vwCl [(qa 5, .inl (cI, 32, .inl g5)), (qa 31, .inl (cI, 4, .inl g31)), (qa 37, .inl (cI, 4, .inl g37)), (qa 38, .inl (cI, 4, .inl g38)), (qa 41, .inl (cI, 4, .inl g41)), (qa 44, .inl (cI, 4, .inl g44)), (qa 50, .inl (cJ, 4, .inr (.inl g50))), (qa 51, .inl (cZ, 4, .inl g51)), (h, .inr (10, mdF qa x0 x2 x3 x4 x13 x14 x15 x16 x17 x18 x19 y20_270 x21 x22 x23 x24 x26 x27 y28_270)), (qa 32, .inl (cI, 4, .inl k32_270)), (qa 33, .inl (cI, 4, .inl k33_270)), (qa 34, .inl (cI, 4, .inl k34_270)), (qa 40, .inl (cI, 4, .inl k40_270)), (qa 43, .inl (cI, 4, .inl k43_270)), (qa 45, .inl (cI, 4, .inl k45_270)), (qa 46, .inl (cI, 4, .inl k46_270))] H := hP
    have hD : va_D A [(qa 5, .inl (cI, 32, .inl g5)), (qa 31, .inl (cI, 4, .inl g31)), (qa 37, .inl (cI, 4, .inl g37)), (qa 38, .inl (cI, 4, .inl g38)), (qa 41, .inl (cI, 4, .inl g41)), (qa 44, .inl (cI, 4, .inl g44)), (qa 50, .inl (cJ, 4, .inr (.inl g50))), (qa 51, .inl (cZ, 4, .inl g51)), (h, .inr (10, mdF qa x0 x2 x3 x4 x13 x14 x15 x16 x17 x18 x19 y20_270 x21 x22 x23 x24 x26 x27 y28_270)), (qa 32, .inl (cI, 4, .inl k32_270)), (qa 33, .inl (cI, 4, .inl k33_270)), (qa 34, .inl (cI, 4, .inl k34_270)), (qa 40, .inl (cI, 4, .inl k40_270)), (qa 43, .inl (cI, 4, .inl k43_270)), (qa 45, .inl (cI, 4, .inl k45_270)), (qa 46, .inl (cI, 4, .inl k46_270))] := hD
    refine lv_goto (tgt := 302) hx hb dX11_first_273 (by decide) ?_
    have hP9 := hP.sub (ws' := [(h, .inr (10, mdF qa x0 x2 x3 x4 x13 x14 x15 x16 x17 x18 x19 y20_270 x21 x22 x23 x24 x26 x27 y28_270)), (qa 5, .inl (cI, 32, .inl g5)), (qa 31, .inl (cI, 4, .inl g31)), (qa 32, .inl (cI, 4, .inl k32_270)), (qa 33, .inl (cI, 4, .inl k33_270)), (qa 34, .inl (cI, 4, .inl k34_270)), (qa 37, .inl (cI, 4, .inl g37)), (qa 38, .inl (cI, 4, .inl g38)), (qa 40, .inl (cI, 4, .inl k40_270)), (qa 41, .inl (cI, 4, .inl g41)), (qa 43, .inl (cI, 4, .inl k43_270)), (qa 44, .inl (cI, 4, .inl g44)), (qa 45, .inl (cI, 4, .inl k45_270)), (qa 46, .inl (cI, 4, .inl k46_270)), (qa 50, .inl (cJ, 4, .inr (.inl g50))), (qa 51, .inl (cZ, 4, .inl g51))]) [8, 0, 1, 9, 10, 11, 2, 3, 12, 4, 13, 5, 14, 15, 6, 7] rfl
    have hD9 := hD.sub (ws' := [(h, .inr (10, mdF qa x0 x2 x3 x4 x13 x14 x15 x16 x17 x18 x19 y20_270 x21 x22 x23 x24 x26 x27 y28_270)), (qa 5, .inl (cI, 32, .inl g5)), (qa 31, .inl (cI, 4, .inl g31)), (qa 32, .inl (cI, 4, .inl k32_270)), (qa 33, .inl (cI, 4, .inl k33_270)), (qa 34, .inl (cI, 4, .inl k34_270)), (qa 37, .inl (cI, 4, .inl g37)), (qa 38, .inl (cI, 4, .inl g38)), (qa 40, .inl (cI, 4, .inl k40_270)), (qa 41, .inl (cI, 4, .inl g41)), (qa 43, .inl (cI, 4, .inl k43_270)), (qa 44, .inl (cI, 4, .inl g44)), (qa 45, .inl (cI, 4, .inl k45_270)), (qa 46, .inl (cI, 4, .inl k46_270)), (qa 50, .inl (cJ, 4, .inr (.inl g50))), (qa 51, .inl (cZ, 4, .inl g51))]) [8, 0, 1, 9, 10, 11, 2, 3, 12, 4, 13, 5, 14, 15, 6, 7] (by decide +kernel) rfl
    have hK9 := hK.sub (tys' := []) [] rfl
    exact W.vret hx hb hr (fun t ht hW => ⟨⟨_, rfl, ⟨x15, x16, y20_270, x26, x27, y28_270, k32_270, k33_270, k34_270, g37, g38, k40_270, g41, k43_270, g44, k45_270, k46_270, g51, g50, rfl, r_k34_270, r_g37, r_g44, r_k45_270, r_g50, h_x16, h_x26, h_x27, h_y28_270⟩, by rw [ht]; exact hP9, va_K.moved hW.alike hK9, hD9⟩, hS.F ht⟩) hS.2.2 dX11_first_302
  · refine lv_tableIn (off := 266) (tgt := 276) hx hb dX11_first_10 (by rw [hq]; decide) (by rw [hq]; decide) (by rw [hq]; decide) (by decide) ?_
    refine lv_iload_n hx hb dX11_first_276 rfl (lv_at hl 0 rfl) ?_
    refine lv_bipush (v := 31) hx hb dX11_first_277 (by decide) ?_
    refine lv_icmp_le (tgt := 290) hx hb dX11_first_279 (by decide) (fun c_279 => ?_) (fun c_279 => ?_)
    · refine lv_iload_n hx hb dX11_first_290 rfl (lv_at hl 0 rfl) ?_
      refine lv_if_le (tgt := 302) hx hb dX11_first_291 (by decide) (fun c_291 => ?_) (fun c_291 => ?_)
      · have hP9 := hP
        have hD9 := hD
        have hK9 := hK.sub (tys' := []) [] rfl
        exact W.vret hx hb hr (fun t ht hW => ⟨⟨_, rfl, ⟨x15, x16, x20, x26, x27, x28, g32, g33, g34, g37, g38, g40, g41, g43, g44, g45, g46, g51, g50, rfl, r_g34, r_g37, r_g44, r_g45, r_g50, h_x16, h_x26, h_x27, h_x28⟩, by rw [ht]; exact hP9, va_K.moved hW.alike hK9, hD9⟩, hS.F ht⟩) hS.2.2 dX11_first_302
      refine lv_aload_n hx hb dX11_first_294 rfl (lv_at hl 1 rfl) ?_
      refine lv_iload_n hx hb dX11_first_295 rfl (lv_at hl 0 rfl) ?_
      refine va_put (D := (dC, dI)) (ci := 10) (v := .int (nI nq)) (ty := tyX11 15) (C := RX11) (T := TX11) (N := 53) hx hb hts iwX11 tyX11 tyX11_ok nmX11 hown hK hP hD hS 0 rfl rfl 15 (by decide) (hts (.fieldLink RX11 197 "ModulePlayerModel" "speed" "I") (List.mem_cons_of_mem _ kw_218)) (fun _ h9 => h9) rfl (by decide +kernel) (rfl) (rfl) (Nat.le_of_ble_eq_true rfl) dX11_first_296 (fun H locs hP hD hS => ?_)
      have hP : va_P (dC, dI) vwCl [(h, .inr (10, mdF qa x0 x2 x3 x4 x13 x14 (nI nq) x16 x17 x18 x19 x20 x21 x22 x23 x24 x26 x27 x28)), (qa 5, .inl (cI, 32, .inl g5)), (qa 31, .inl (cI, 4, .inl g31)), (qa 32, .inl (cI, 4, .inl g32)), (qa 33, .inl (cI, 4, .inl g33)), (qa 34, .inl (cI, 4, .inl g34)), (qa 37, .inl (cI, 4, .inl g37)), (qa 38, .inl (cI, 4, .inl g38)), (qa 40, .inl (cI, 4, .inl g40)), (qa 41, .inl (cI, 4, .inl g41)), (qa 43, .inl (cI, 4, .inl g43)), (qa 44, .inl (cI, 4, .inl g44)), (qa 45, .inl (cI, 4, .inl g45)), (qa 46, .inl (cI, 4, .inl g46)), (qa 50, .inl (cJ, 4, .inr (.inl g50))), (qa 51, .inl (cZ, 4, .inl g51))] H := hP
      have hD : va_D A [(h, .inr (10, mdF qa x0 x2 x3 x4 x13 x14 (nI nq) x16 x17 x18 x19 x20 x21 x22 x23 x24 x26 x27 x28)), (qa 5, .inl (cI, 32, .inl g5)), (qa 31, .inl (cI, 4, .inl g31)), (qa 32, .inl (cI, 4, .inl g32)), (qa 33, .inl (cI, 4, .inl g33)), (qa 34, .inl (cI, 4, .inl g34)), (qa 37, .inl (cI, 4, .inl g37)), (qa 38, .inl (cI, 4, .inl g38)), (qa 40, .inl (cI, 4, .inl g40)), (qa 41, .inl (cI, 4, .inl g41)), (qa 43, .inl (cI, 4, .inl g43)), (qa 44, .inl (cI, 4, .inl g44)), (qa 45, .inl (cI, 4, .inl g45)), (qa 46, .inl (cI, 4, .inl g46)), (qa 50, .inl (cJ, 4, .inr (.inl g50))), (qa 51, .inl (cZ, 4, .inl g51))] := hD
      refine lv_goto (tgt := 302) hx hb dX11_first_299 (by decide) ?_
      have hP9 := hP
      have hD9 := hD
      have hK9 := hK.sub (tys' := []) [] rfl
      exact W.vret hx hb hr (fun t ht hW => ⟨⟨_, rfl, ⟨(nI nq), x16, x20, x26, x27, x28, g32, g33, g34, g37, g38, g40, g41, g43, g44, g45, g46, g51, g50, rfl, r_g34, r_g37, r_g44, r_g45, r_g50, h_x16, h_x26, h_x27, h_x28⟩, by rw [ht]; exact hP9, va_K.moved hW.alike hK9, hD9⟩, hS.F ht⟩) hS.2.2 dX11_first_302
    refine lv_aload_n hx hb dX11_first_282 rfl (lv_at hl 1 rfl) ?_
    refine lv_iload_n hx hb dX11_first_283 rfl (lv_at hl 0 rfl) ?_
    obtain ⟨te_, ete_⟩ : ∃ xx : Int32, xx = nI nq := ⟨_, rfl⟩
    have h_te_ : tmo te_ := by rw [ete_]; exact nI_rg (by omega) (by have := nI_nle' (b := 31) c_279 (by decide); omega) (by omega)
    refine g_topi (y := te_) ete_.symm ?_
    refine va_put (D := (dC, dI)) (ci := 10) (v := .int te_) (ty := tyX11 16) (C := RX11) (T := TX11) (N := 53) hx hb hts iwX11 tyX11 tyX11_ok nmX11 hown hK hP hD hS 0 rfl rfl 16 (by decide) (hts (.fieldLink RX11 200 "ModulePlayerModel" "tempo" "I") (List.mem_cons_of_mem _ kw_219)) (fun _ h9 => h9) rfl (by decide +kernel) (rfl) (rfl) (Nat.le_of_ble_eq_true rfl) dX11_first_284 (fun H locs hP hD hS => ?_)
    have hP : va_P (dC, dI) vwCl [(h, .inr (10, mdF qa x0 x2 x3 x4 x13 x14 x15 te_ x17 x18 x19 x20 x21 x22 x23 x24 x26 x27 x28)), (qa 5, .inl (cI, 32, .inl g5)), (qa 31, .inl (cI, 4, .inl g31)), (qa 32, .inl (cI, 4, .inl g32)), (qa 33, .inl (cI, 4, .inl g33)), (qa 34, .inl (cI, 4, .inl g34)), (qa 37, .inl (cI, 4, .inl g37)), (qa 38, .inl (cI, 4, .inl g38)), (qa 40, .inl (cI, 4, .inl g40)), (qa 41, .inl (cI, 4, .inl g41)), (qa 43, .inl (cI, 4, .inl g43)), (qa 44, .inl (cI, 4, .inl g44)), (qa 45, .inl (cI, 4, .inl g45)), (qa 46, .inl (cI, 4, .inl g46)), (qa 50, .inl (cJ, 4, .inr (.inl g50))), (qa 51, .inl (cZ, 4, .inl g51))] H := hP
    have hD : va_D A [(h, .inr (10, mdF qa x0 x2 x3 x4 x13 x14 x15 te_ x17 x18 x19 x20 x21 x22 x23 x24 x26 x27 x28)), (qa 5, .inl (cI, 32, .inl g5)), (qa 31, .inl (cI, 4, .inl g31)), (qa 32, .inl (cI, 4, .inl g32)), (qa 33, .inl (cI, 4, .inl g33)), (qa 34, .inl (cI, 4, .inl g34)), (qa 37, .inl (cI, 4, .inl g37)), (qa 38, .inl (cI, 4, .inl g38)), (qa 40, .inl (cI, 4, .inl g40)), (qa 41, .inl (cI, 4, .inl g41)), (qa 43, .inl (cI, 4, .inl g43)), (qa 44, .inl (cI, 4, .inl g44)), (qa 45, .inl (cI, 4, .inl g45)), (qa 46, .inl (cI, 4, .inl g46)), (qa 50, .inl (cJ, 4, .inr (.inl g50))), (qa 51, .inl (cZ, 4, .inl g51))] := hD
    refine lv_goto (tgt := 302) hx hb dX11_first_287 (by decide) ?_
    have hP9 := hP
    have hD9 := hD
    have hK9 := hK.sub (tys' := []) [] rfl
    exact W.vret hx hb hr (fun t ht hW => ⟨⟨_, rfl, ⟨x15, te_, x20, x26, x27, x28, g32, g33, g34, g37, g38, g40, g41, g43, g44, g45, g46, g51, g50, rfl, r_g34, r_g37, r_g44, r_g45, r_g50, h_te_, h_x26, h_x27, h_x28⟩, by rw [ht]; exact hP9, va_K.moved hW.alike hK9, hD9⟩, hS.F ht⟩) hS.2.2 dX11_first_302

set_option maxHeartbeats 400000 in
set_option maxRecDepth 100000 in
theorem m_others (l : Launch) (dC : Nat → ClassId) (dI : Nat → Nat → Nat) (sz : Nat) (h : Nat) (qa : Nat → Nat) (x0 x2 x3 x4 x13 x14 x15 x16 x17 x18 x19 x20 x21 x22 x23 x24 x26 x27 x28 : Int32) (cI : ClassId) (g32 g34 g36 g37 : Nat → Int32) (cv : Nat) (v : Int32) (hcv : cv < 4) (r_g34 : rg 4 0 856 g34) (r_g36 : rg 4 0 856 g36) (r_g37 : rg 4 0 255 g37) : Met l yX11_others (wsG (.code yX11_others cX11_others 5 none)) ({ frames := 3, cells := 0, slots := 0, locals := 58 }) (va_Pc [.ref h, .int (nI cv), .int v] (gP (dC, dI) [(cI, .int)] [(h, .inr (10, mdF qa x0 x2 x3 x4 x13 x14 x15 x16 x17 x18 x19 x20 x21 x22 x23 x24 x26 x27 x28)), (qa 32, .inl (cI, 4, .inl g32)), (qa 34, .inl (cI, 4, .inl g34)), (qa 36, .inl (cI, 4, .inl g36)), (qa 37, .inl (cI, 4, .inl g37))] sz)) (va_Qv (fun u : va_W × gT => ∃ (k32 : Nat → Int32) (k34 : Nat → Int32), u = ([(h, .inr (10, mdF qa x0 x2 x3 x4 x13 x14 x15 x16 x17 x18 x19 x20 x21 x22 x23 x24 x26 x27 x28)), (qa 32, .inl (cI, 4, .inl k32)), (qa 34, .inl (cI, 4, .inl k34)), (qa 36, .inl (cI, 4, .inl g36)), (qa 37, .inl (cI, 4, .inl g37))], []) ∧ rg 4 0 856 k34) (gB (dC, dI) (va_A [(h, .inr (10, mdF qa x0 x2 x3 x4 x13 x14 x15 x16 x17 x18 x19 x20 x21 x22 x23 x24 x26 x27 x28)), (qa 32, .inl (cI, 4, .inl g32)), (qa 34, .inl (cI, 4, .inl g34)), (qa 36, .inl (cI, 4, .inl g36)), (qa 37, .inl (cI, 4, .inl g37))] sz)) (va_A [(h, .inr (10, mdF qa x0 x2 x3 x4 x13 x14 x15 x16 x17 x18 x19 x20 x21 x22 x23 x24 x26 x27 x28)), (qa 32, .inl (cI, 4, .inl g32)), (qa 34, .inl (cI, 4, .inl g34)), (qa 36, .inl (cI, 4, .inl g36)), (qa 37, .inl (cI, 4, .inl g37))] sz)) 0 0 (va_A [(h, .inr (10, mdF qa x0 x2 x3 x4 x13 x14 x15 x16 x17 x18 x19 x20 x21 x22 x23 x24 x26 x27 x28)), (qa 32, .inl (cI, 4, .inl g32)), (qa 34, .inl (cI, 4, .inl g34)), (qa 36, .inl (cI, 4, .inl g36)), (qa 37, .inl (cI, 4, .inl g37))] sz) := by
  refine Met.ofW (cc := cX11_others) (maxL := 5) (ret := none) (by decide) rfl ?_
  intro p e s m args below meth c s₁ B hml hv
  obtain ⟨rfl, hsz, hP, hK, hD0, hN, hZ⟩ := hv
  have hx := B.exec
  have hb := B.bytes
  have hr := B.returns
  have hts := atoms_spec (ws := (wsG (.code yX11_others cX11_others 5 none))) B.pre
  have hown : s.vm.findClass RX11 = some m.cls := findClass_of_methodNamed B.named
  have hlocks := B.notSynchronized
  subst hsz
  have hD := hD0.self (sz := s.heap.size)
  generalize hAe : va_A [(h, .inr (10, mdF qa x0 x2 x3 x4 x13 x14 x15 x16 x17 x18 x19 x20 x21 x22 x23 x24 x26 x27 x28)), (qa 32, .inl (cI, 4, .inl g32)), (qa 34, .inl (cI, 4, .inl g34)), (qa 36, .inl (cI, 4, .inl g36)), (qa 37, .inl (cI, 4, .inl g37))] s.heap.size = A at hD hZ ⊢
  have hA : ∀ q : Nat, s.heap.size ≤ q → A q := fun q h => by rw [← hAe]; exact Or.inr h
  have hl := lv_entry ([.ref h, .int (nI cv), .int v]) (n := 5) (Nat.le_of_ble_eq_true rfl)
  rw [lg_entry_eq]
  generalize (lg_sl ([.ref h, .int (nI cv), .int v]) ++ List.replicate (5 - (lg_sl ([.ref h, .int (nI cv), .int v])).length) Slot.unset).toArray = ls at hl ⊢
  have hl : lv_has ls 5 [(0, .ref h), (1, .int (nI cv)), (2, .int v)] := hl
  refine g_start (A := A) hP (fun H locs hP hS => ?_)
  refine lv_iload_n hx hb dX11_others_0 rfl (lv_at hl 2 rfl) ?_
  refine lv_sipush (v := 255) hx hb dX11_others_1 (by decide) ?_
  refine lv_iand hx hb dX11_others_4 ?_
  refine lv_topi (fun tv_4 etv_4 => ?_)
  refine lv_istore_n (lv' := [(3, .int tv_4), (0, .ref h), (1, .int (nI cv)), (2, .int v)]) hx hb dX11_others_5 rfl hl (by decide) rfl (fun ls hl => ?_)
  refine lv_iload_n hx hb dX11_others_6 rfl (lv_at hl 3 rfl) ?_
  refine g_calli (wr := [(h, .inr (10, mdF qa x0 x2 x3 x4 x13 x14 x15 x16 x17 x18 x19 x20 x21 x22 x23 x24 x26 x27 x28)), (qa 32, .inl (cI, 4, .inl g32)), (qa 34, .inl (cI, 4, .inl g34)), (qa 36, .inl (cI, 4, .inl g36)), (qa 37, .inl (cI, 4, .inl g37))]) (va_runS (As := [.int v]) (rest := []) ⟨hx, hb, hml, hown, hts⟩ (m_effect l dC dI H.size v ) (va_cwS 1 hts (gG_S kw_859 kw_860 kw_5 kw_861) rfl rfl rfl (by decide +kernel) ⟨Nat.le_of_ble_eq_true rfl, Nat.le_of_ble_eq_true rfl⟩) (g_preS hP hD hK hS hA hN hZ [] (by decide) rfl [] rfl) rfl rfl hl.1 rfl (lv_room (Nat.le_of_ble_eq_true rfl)) dX11_others_7 ⟨Nat.le_of_ble_eq_true rfl, Nat.le_of_ble_eq_true rfl⟩) hP hD hK hS hA [] [0, 1, 2, 3, 4] rfl rfl (by decide +kernel) (by decide +kernel) (fun r_7 w ty1 H locs hw_7 hP hD _ hS => ?_)
  rcases hw_7 with ⟨hu, hr_7⟩
  cases hu
  have hP : va_P (dC, dI) vwCl [(h, .inr (10, mdF qa x0 x2 x3 x4 x13 x14 x15 x16 x17 x18 x19 x20 x21 x22 x23 x24 x26 x27 x28)), (qa 32, .inl (cI, 4, .inl g32)), (qa 34, .inl (cI, 4, .inl g34)), (qa 36, .inl (cI, 4, .inl g36)), (qa 37, .inl (cI, 4, .inl g37))] H := hP
  have hD : va_D A [(h, .inr (10, mdF qa x0 x2 x3 x4 x13 x14 x15 x16 x17 x18 x19 x20 x21 x22 x23 x24 x26 x27 x28)), (qa 32, .inl (cI, 4, .inl g32)), (qa 34, .inl (cI, 4, .inl g34)), (qa 36, .inl (cI, 4, .inl g36)), (qa 37, .inl (cI, 4, .inl g37))] := hD
  refine g_topi (y := (v >>> (8 &&& 31)) &&& 15) hr_7 ?_
  refine lv_istore (lv' := [(4, .int ((v >>> (8 &&& 31)) &&& 15)), (3, .int tv_4), (0, .ref h), (1, .int (nI cv)), (2, .int v)]) hx hb dX11_others_10 hl (by decide) rfl (fun ls hl => ?_)
  have LP25 : ∀ (ja34 : Nat → Int32) (r_ja34 : rg 4 0 856 ja34) (H : Heap) (locs : List Loc), va_P (dC, dI) vwCl [(h, .inr (10, mdF qa x0 x2 x3 x4 x13 x14 x15 x16 x17 x18 x19 x20 x21 x22 x23 x24 x26 x27 x28)), (qa 32, .inl (cI, 4, .inl g32)), (qa 34, .inl (cI, 4, .inl ja34)), (qa 36, .inl (cI, 4, .inl g36)), (qa 37, .inl (cI, 4, .inl g37))] H → va_D A [(h, .inr (10, mdF qa x0 x2 x3 x4 x13 x14 x15 x16 x17 x18 x19 x20 x21 x22 x23 x24 x26 x27 x28)), (qa 32, .inl (cI, 4, .inl g32)), (qa 34, .inl (cI, 4, .inl ja34)), (qa 36, .inl (cI, 4, .inl g36)), (qa 37, .inl (cI, 4, .inl g37))] → va_S A s.heap H locs → ∀ ls : Array Slot, lv_has ls 5 [(4, .int ((v >>> (8 &&& 31)) &&& 15)), (3, .int tv_4), (0, .ref h), (1, .int (nI cv)), (2, .int v)] → W p l e ({ frames := 3, cells := 0, slots := 0, locals := 58 }) s m ([.ref h, .int (nI cv), .int v] : List Value).toArray below meth c H locs (0) (0) (MQ below (va_Qv (fun u : va_W × gT => ∃ (k32 : Nat → Int32) (k34 : Nat → Int32), u = ([(h, .inr (10, mdF qa x0 x2 x3 x4 x13 x14 x15 x16 x17 x18 x19 x20 x21 x22 x23 x24 x26 x27 x28)), (qa 32, .inl (cI, 4, .inl k32)), (qa 34, .inl (cI, 4, .inl k34)), (qa 36, .inl (cI, 4, .inl g36)), (qa 37, .inl (cI, 4, .inl g37))], []) ∧ rg 4 0 856 k34) (gB (dC, dI) A) A) ([.ref h, .int (nI cv), .int v] : List Value).toArray s 0 0 A) (F0 m 25 ls []) := by
    intro ja34 r_ja34 H locs hP hD hS ls hl
    have LP37 : ∀ (jb34 : Nat → Int32) (r_jb34 : rg 4 0 856 jb34) (H : Heap) (locs : List Loc), va_P (dC, dI) vwCl [(h, .inr (10, mdF qa x0 x2 x3 x4 x13 x14 x15 x16 x17 x18 x19 x20 x21 x22 x23 x24 x26 x27 x28)), (qa 32, .inl (cI, 4, .inl g32)), (qa 34, .inl (cI, 4, .inl jb34)), (qa 36, .inl (cI, 4, .inl g36)), (qa 37, .inl (cI, 4, .inl g37))] H → va_D A [(h, .inr (10, mdF qa x0 x2 x3 x4 x13 x14 x15 x16 x17 x18 x19 x20 x21 x22 x23 x24 x26 x27 x28)), (qa 32, .inl (cI, 4, .inl g32)), (qa 34, .inl (cI, 4, .inl jb34)), (qa 36, .inl (cI, 4, .inl g36)), (qa 37, .inl (cI, 4, .inl g37))] → va_S A s.heap H locs → ∀ ls : Array Slot, lv_has ls 5 [(4, .int ((v >>> (8 &&& 31)) &&& 15)), (3, .int tv_4), (0, .ref h), (1, .int (nI cv)), (2, .int v)] → W p l e ({ frames := 3, cells := 0, slots := 0, locals := 58 }) s m ([.ref h, .int (nI cv), .int v] : List Value).toArray below meth c H locs (0) (0) (MQ below (va_Qv (fun u : va_W × gT => ∃ (k32 : Nat → Int32) (k34 : Nat → Int32), u = ([(h, .inr (10, mdF qa x0 x2 x3 x4 x13 x14 x15 x16 x17 x18 x19 x20 x21 x22 x23 x24 x26 x27 x28)), (qa 32, .inl (cI, 4, .inl k32)), (qa 34, .inl (cI, 4, .inl k34)), (qa 36, .inl (cI, 4, .inl g36)), (qa 37, .inl (cI, 4, .inl g37))], []) ∧ rg 4 0 856 k34) (gB (dC, dI) A) A) ([.ref h, .int (nI cv), .int v] : List Value).toArray s 0 0 A) (F0 m 37 ls []) := by
      intro jb34 r_jb34 H locs hP hD hS ls hl
      have LP141 : ∀ (jc34 : Nat → Int32) (r_jc34 : rg 4 0 856 jc34) (H : Heap) (locs : List Loc), va_P (dC, dI) vwCl [(h, .inr (10, mdF qa x0 x2 x3 x4 x13 x14 x15 x16 x17 x18 x19 x20 x21 x22 x23 x24 x26 x27 x28)), (qa 32, .inl (cI, 4, .inl g32)), (qa 34, .inl (cI, 4, .inl jc34)), (qa 36, .inl (cI, 4, .inl g36)), (qa 37, .inl (cI, 4, .inl g37))] H → va_D A [(h, .inr (10, mdF qa x0 x2 x3 x4 x13 x14 x15 x16 x17 x18 x19 x20 x21 x22 x23 x24 x26 x27 x28)), (qa 32, .inl (cI, 4, .inl g32)), (qa 34, .inl (cI, 4, .inl jc34)), (qa 36, .inl (cI, 4, .inl g36)), (qa 37, .inl (cI, 4, .inl g37))] → va_S A s.heap H locs → ∀ ls : Array Slot, lv_has ls 5 [(4, .int ((v >>> (8 &&& 31)) &&& 15)), (3, .int tv_4), (0, .ref h), (1, .int (nI cv)), (2, .int v)] → W p l e ({ frames := 3, cells := 0, slots := 0, locals := 58 }) s m ([.ref h, .int (nI cv), .int v] : List Value).toArray below meth c H locs (0) (0) (MQ below (va_Qv (fun u : va_W × gT => ∃ (k32 : Nat → Int32) (k34 : Nat → Int32), u = ([(h, .inr (10, mdF qa x0 x2 x3 x4 x13 x14 x15 x16 x17 x18 x19 x20 x21 x22 x23 x24 x26 x27 x28)), (qa 32, .inl (cI, 4, .inl k32)), (qa 34, .inl (cI, 4, .inl k34)), (qa 36, .inl (cI, 4, .inl g36)), (qa 37, .inl (cI, 4, .inl g37))], []) ∧ rg 4 0 856 k34) (gB (dC, dI) A) A) ([.ref h, .int (nI cv), .int v] : List Value).toArray s 0 0 A) (F0 m 141 ls []) := by
        intro jc34 r_jc34 H locs hP hD hS ls hl
        refine lv_iload hx hb dX11_others_141 (lv_at hl 0 rfl) ?_
        refine lv_iconst (v := 5) hx hb dX11_others_143 (by decide) ?_
        refine lv_icmp_eq (tgt := 161) hx hb dX11_others_144 (by decide) (fun c_144 => ?_) (fun c_144 => ?_)
        · refine lv_aload_n hx hb dX11_others_161 rfl (lv_at hl 2 rfl) ?_
          refine lv_iload_n hx hb dX11_others_162 rfl (lv_at hl 3 rfl) ?_
          refine lv_iload_n hx hb dX11_others_163 rfl (lv_at hl 1 rfl) ?_
          refine g_calli (wr := [(h, .inr (10, mdF qa x0 x2 x3 x4 x13 x14 x15 x16 x17 x18 x19 x20 x21 x22 x23 x24 x26 x27 x28)), (qa 32, .inl (cI, 4, .inl g32)), (qa 34, .inl (cI, 4, .inl jc34)), (qa 36, .inl (cI, 4, .inl g36)), (qa 37, .inl (cI, 4, .inl g37))]) (va_runS (As := [.int tv_4]) (rest := [.int (nI cv), .ref h]) ⟨hx, hb, hml, hown, hts⟩ (m_x l dC dI H.size tv_4 ) (va_cwS 1 hts (gG_S kw_862 kw_863 kw_5 kw_864) rfl rfl rfl (by decide +kernel) ⟨Nat.le_of_ble_eq_true rfl, Nat.le_of_ble_eq_true rfl⟩) (g_preS hP hD hK hS hA hN hZ [] (by decide) rfl [] rfl) rfl rfl hl.1 rfl (lv_room (Nat.le_of_ble_eq_true rfl)) dX11_others_164 ⟨Nat.le_of_ble_eq_true rfl, Nat.le_of_ble_eq_true rfl⟩) hP hD hK hS hA [] [0, 1, 2, 3, 4] rfl rfl (by decide +kernel) (by decide +kernel) (fun r_164 w ty1 H locs hw_164 hP hD _ hS => ?_)
          rcases hw_164 with ⟨hu, hr_164⟩
          cases hu
          have hP : va_P (dC, dI) vwCl [(h, .inr (10, mdF qa x0 x2 x3 x4 x13 x14 x15 x16 x17 x18 x19 x20 x21 x22 x23 x24 x26 x27 x28)), (qa 32, .inl (cI, 4, .inl g32)), (qa 34, .inl (cI, 4, .inl jc34)), (qa 36, .inl (cI, 4, .inl g36)), (qa 37, .inl (cI, 4, .inl g37))] H := hP
          have hD : va_D A [(h, .inr (10, mdF qa x0 x2 x3 x4 x13 x14 x15 x16 x17 x18 x19 x20 x21 x22 x23 x24 x26 x27 x28)), (qa 32, .inl (cI, 4, .inl g32)), (qa 34, .inl (cI, 4, .inl jc34)), (qa 36, .inl (cI, 4, .inl g36)), (qa 37, .inl (cI, 4, .inl g37))] := hD
          refine g_topi (y := (tv_4 >>> (4 &&& 31)) &&& 15) hr_164 ?_
          refine lv_if_eq (tgt := 177) hx hb dX11_others_167 (by decide) (fun c_167 => ?_) (fun c_167 => ?_)
          · refine lv_iload_n hx hb dX11_others_177 rfl (lv_at hl 1 rfl) ?_
            refine g_calli (wr := [(h, .inr (10, mdF qa x0 x2 x3 x4 x13 x14 x15 x16 x17 x18 x19 x20 x21 x22 x23 x24 x26 x27 x28)), (qa 32, .inl (cI, 4, .inl g32)), (qa 34, .inl (cI, 4, .inl jc34)), (qa 36, .inl (cI, 4, .inl g36)), (qa 37, .inl (cI, 4, .inl g37))]) (va_runS (As := [.int tv_4]) (rest := [.int (nI cv), .ref h]) ⟨hx, hb, hml, hown, hts⟩ (m_y l dC dI H.size tv_4 ) (va_cwS 1 hts (gG_S kw_865 kw_866 kw_5 kw_867) rfl rfl rfl (by decide +kernel) ⟨Nat.le_of_ble_eq_true rfl, Nat.le_of_ble_eq_true rfl⟩) (g_preS hP hD hK hS hA hN hZ [] (by decide) rfl [] rfl) rfl rfl hl.1 rfl (lv_room (Nat.le_of_ble_eq_true rfl)) dX11_others_178 ⟨Nat.le_of_ble_eq_true rfl, Nat.le_of_ble_eq_true rfl⟩) hP hD hK hS hA [] [0, 1, 2, 3, 4] rfl rfl (by decide +kernel) (by decide +kernel) (fun r_178 w ty1 H locs hw_178 hP hD _ hS => ?_)
            rcases hw_178 with ⟨hu, hr_178⟩
            cases hu
            have hP : va_P (dC, dI) vwCl [(h, .inr (10, mdF qa x0 x2 x3 x4 x13 x14 x15 x16 x17 x18 x19 x20 x21 x22 x23 x24 x26 x27 x28)), (qa 32, .inl (cI, 4, .inl g32)), (qa 34, .inl (cI, 4, .inl jc34)), (qa 36, .inl (cI, 4, .inl g36)), (qa 37, .inl (cI, 4, .inl g37))] H := hP
            have hD : va_D A [(h, .inr (10, mdF qa x0 x2 x3 x4 x13 x14 x15 x16 x17 x18 x19 x20 x21 x22 x23 x24 x26 x27 x28)), (qa 32, .inl (cI, 4, .inl g32)), (qa 34, .inl (cI, 4, .inl jc34)), (qa 36, .inl (cI, 4, .inl g36)), (qa 37, .inl (cI, 4, .inl g37))] := hD
            refine g_topi (y := tv_4 &&& 15) hr_178 ?_
            refine lv_ineg hx hb dX11_others_181 ?_
            refine lv_topi (fun tv_181 etv_181 => ?_)
            refine g_callv (wr := [(qa 34, .inl (cI, 4, .inl jc34)), (qa 36, .inl (cI, 4, .inl g36)), (qa 37, .inl (cI, 4, .inl g37))]) (va_runV (As := [.int (nI cv), .int tv_181]) (rest := []) ⟨hx, hb, hml, hown, hts⟩ (m_volumeBy l dC dI H.size h qa x0 x2 x3 x4 x13 x14 x15 x16 x17 x18 x19 x20 x21 x22 x23 x24 x26 x27 x28 cI g32 cv tv_181 (hcv)) (cwV 2 hts (gG_V kw_899 kw_900 kw_901 kw_5 kw_902) rfl rfl rfl (by decide +kernel) ⟨Nat.le_of_ble_eq_true rfl, Nat.le_of_ble_eq_true rfl⟩) (g_preV (C := RX11) (T := TX11) (N := 53) hP hD hK hS hA hN hZ (q0 := 0) rfl rfl [0, 1] (by decide +kernel) rfl [0] rfl) rfl rfl hl.1 rfl (lv_room (Nat.le_of_ble_eq_true rfl)) dX11_others_182 ⟨Nat.le_of_ble_eq_true rfl, Nat.le_of_ble_eq_true rfl⟩) hP hD hK hS hA [0, 1] [2, 3, 4] rfl rfl (by decide +kernel) (by decide +kernel) (fun w ty1 H locs hw_182 hP hD _ hS => ?_)
            rcases hw_182 with ⟨k32_182, hu⟩
            cases hu
            have hP : va_P (dC, dI) vwCl [(qa 34, .inl (cI, 4, .inl jc34)), (qa 36, .inl (cI, 4, .inl g36)), (qa 37, .inl (cI, 4, .inl g37)), (h, .inr (10, mdF qa x0 x2 x3 x4 x13 x14 x15 x16 x17 x18 x19 x20 x21 x22 x23 x24 x26 x27 x28)), (qa 32, .inl (cI, 4, .inl k32_182))] H := hP
            have hD : va_D A [(qa 34, .inl (cI, 4, .inl jc34)), (qa 36, .inl (cI, 4, .inl g36)), (qa 37, .inl (cI, 4, .inl g37)), (h, .inr (10, mdF qa x0 x2 x3 x4 x13 x14 x15 x16 x17 x18 x19 x20 x21 x22 x23 x24 x26 x27 x28)), (qa 32, .inl (cI, 4, .inl k32_182))] := hD
            have hP9 := hP.sub (ws' := [(h, .inr (10, mdF qa x0 x2 x3 x4 x13 x14 x15 x16 x17 x18 x19 x20 x21 x22 x23 x24 x26 x27 x28)), (qa 32, .inl (cI, 4, .inl k32_182)), (qa 34, .inl (cI, 4, .inl jc34)), (qa 36, .inl (cI, 4, .inl g36)), (qa 37, .inl (cI, 4, .inl g37))]) [3, 4, 0, 1, 2] rfl
            have hD9 := hD.sub (ws' := [(h, .inr (10, mdF qa x0 x2 x3 x4 x13 x14 x15 x16 x17 x18 x19 x20 x21 x22 x23 x24 x26 x27 x28)), (qa 32, .inl (cI, 4, .inl k32_182)), (qa 34, .inl (cI, 4, .inl jc34)), (qa 36, .inl (cI, 4, .inl g36)), (qa 37, .inl (cI, 4, .inl g37))]) [3, 4, 0, 1, 2] (by decide +kernel) rfl
            have hK9 := hK.sub (tys' := []) [] rfl
            exact W.vret hx hb hr (fun t ht hW => ⟨⟨_, rfl, ⟨k32_182, jc34, rfl, r_jc34⟩, by rw [ht]; exact hP9, va_K.moved hW.alike hK9, hD9⟩, hS.F ht⟩) hS.2.2 dX11_others_185
          refine lv_iload_n hx hb dX11_others_170 rfl (lv_at hl 1 rfl) ?_
          refine g_calli (wr := [(h, .inr (10, mdF qa x0 x2 x3 x4 x13 x14 x15 x16 x17 x18 x19 x20 x21 x22 x23 x24 x26 x27 x28)), (qa 32, .inl (cI, 4, .inl g32)), (qa 34, .inl (cI, 4, .inl jc34)), (qa 36, .inl (cI, 4, .inl g36)), (qa 37, .inl (cI, 4, .inl g37))]) (va_runS (As := [.int tv_4]) (rest := [.int (nI cv), .ref h]) ⟨hx, hb, hml, hown, hts⟩ (m_x l dC dI H.size tv_4 ) (va_cwS 1 hts (gG_S kw_862 kw_863 kw_5 kw_864) rfl rfl rfl (by decide +kernel) ⟨Nat.le_of_ble_eq_true rfl, Nat.le_of_ble_eq_true rfl⟩) (g_preS hP hD hK hS hA hN hZ [] (by decide) rfl [] rfl) rfl rfl hl.1 rfl (lv_room (Nat.le_of_ble_eq_true rfl)) dX11_others_171 ⟨Nat.le_of_ble_eq_true rfl, Nat.le_of_ble_eq_true rfl⟩) hP hD hK hS hA [] [0, 1, 2, 3, 4] rfl rfl (by decide +kernel) (by decide +kernel) (fun r_171 w ty1 H locs hw_171 hP hD _ hS => ?_)
          rcases hw_171 with ⟨hu, hr_171⟩
          cases hu
          have hP : va_P (dC, dI) vwCl [(h, .inr (10, mdF qa x0 x2 x3 x4 x13 x14 x15 x16 x17 x18 x19 x20 x21 x22 x23 x24 x26 x27 x28)), (qa 32, .inl (cI, 4, .inl g32)), (qa 34, .inl (cI, 4, .inl jc34)), (qa 36, .inl (cI, 4, .inl g36)), (qa 37, .inl (cI, 4, .inl g37))] H := hP
          have hD : va_D A [(h, .inr (10, mdF qa x0 x2 x3 x4 x13 x14 x15 x16 x17 x18 x19 x20 x21 x22 x23 x24 x26 x27 x28)), (qa 32, .inl (cI, 4, .inl g32)), (qa 34, .inl (cI, 4, .inl jc34)), (qa 36, .inl (cI, 4, .inl g36)), (qa 37, .inl (cI, 4, .inl g37))] := hD
          refine g_topi (y := (tv_4 >>> (4 &&& 31)) &&& 15) hr_171 ?_
          refine lv_goto (tgt := 182) hx hb dX11_others_174 (by decide) ?_
          refine g_callv (wr := [(qa 34, .inl (cI, 4, .inl jc34)), (qa 36, .inl (cI, 4, .inl g36)), (qa 37, .inl (cI, 4, .inl g37))]) (va_runV (As := [.int (nI cv), .int ((tv_4 >>> (4 &&& 31)) &&& 15)]) (rest := []) ⟨hx, hb, hml, hown, hts⟩ (m_volumeBy l dC dI H.size h qa x0 x2 x3 x4 x13 x14 x15 x16 x17 x18 x19 x20 x21 x22 x23 x24 x26 x27 x28 cI g32 cv ((tv_4 >>> (4 &&& 31)) &&& 15) (hcv)) (cwV 2 hts (gG_V kw_899 kw_900 kw_901 kw_5 kw_902) rfl rfl rfl (by decide +kernel) ⟨Nat.le_of_ble_eq_true rfl, Nat.le_of_ble_eq_true rfl⟩) (g_preV (C := RX11) (T := TX11) (N := 53) hP hD hK hS hA hN hZ (q0 := 0) rfl rfl [0, 1] (by decide +kernel) rfl [0] rfl) rfl rfl hl.1 rfl (lv_room (Nat.le_of_ble_eq_true rfl)) dX11_others_182 ⟨Nat.le_of_ble_eq_true rfl, Nat.le_of_ble_eq_true rfl⟩) hP hD hK hS hA [0, 1] [2, 3, 4] rfl rfl (by decide +kernel) (by decide +kernel) (fun w ty1 H locs hw_182 hP hD _ hS => ?_)
          rcases hw_182 with ⟨k32_182, hu⟩
          cases hu
          have hP : va_P (dC, dI) vwCl [(qa 34, .inl (cI, 4, .inl jc34)), (qa 36, .inl (cI, 4, .inl g36)), (qa 37, .inl (cI, 4, .inl g37)), (h, .inr (10, mdF qa x0 x2 x3 x4 x13 x14 x15 x16 x17 x18 x19 x20 x21 x22 x23 x24 x26 x27 x28)), (qa 32, .inl (cI, 4, .inl k32_182))] H := hP
          have hD : va_D A [(qa 34, .inl (cI, 4, .inl jc34)), (qa 36, .inl (cI, 4, .inl g36)), (qa 37, .inl (cI, 4, .inl g37)), (h, .inr (10, mdF qa x0 x2 x3 x4 x13 x14 x15 x16 x17 x18 x19 x20 x21 x22 x23 x24 x26 x27 x28)), (qa 32, .inl (cI, 4, .inl k32_182))] := hD
          have hP9 := hP.sub (ws' := [(h, .inr (10, mdF qa x0 x2 x3 x4 x13 x14 x15 x16 x17 x18 x19 x20 x21 x22 x23 x24 x26 x27 x28)), (qa 32, .inl (cI, 4, .inl k32_182)), (qa 34, .inl (cI, 4, .inl jc34)), (qa 36, .inl (cI, 4, .inl g36)), (qa 37, .inl (cI, 4, .inl g37))]) [3, 4, 0, 1, 2] rfl
          have hD9 := hD.sub (ws' := [(h, .inr (10, mdF qa x0 x2 x3 x4 x13 x14 x15 x16 x17 x18 x19 x20 x21 x22 x23 x24 x26 x27 x28)), (qa 32, .inl (cI, 4, .inl k32_182)), (qa 34, .inl (cI, 4, .inl jc34)), (qa 36, .inl (cI, 4, .inl g36)), (qa 37, .inl (cI, 4, .inl g37))]) [3, 4, 0, 1, 2] (by decide +kernel) rfl
          have hK9 := hK.sub (tys' := []) [] rfl
          exact W.vret hx hb hr (fun t ht hW => ⟨⟨_, rfl, ⟨k32_182, jc34, rfl, r_jc34⟩, by rw [ht]; exact hP9, va_K.moved hW.alike hK9, hD9⟩, hS.F ht⟩) hS.2.2 dX11_others_185
        refine lv_iload hx hb dX11_others_147 (lv_at hl 0 rfl) ?_
        refine lv_bipush (v := 6) hx hb dX11_others_149 (by decide) ?_
        refine lv_icmp_eq (tgt := 161) hx hb dX11_others_151 (by decide) (fun c_151 => ?_) (fun c_151 => ?_)
        · refine lv_aload_n hx hb dX11_others_161 rfl (lv_at hl 2 rfl) ?_
          refine lv_iload_n hx hb dX11_others_162 rfl (lv_at hl 3 rfl) ?_
          refine lv_iload_n hx hb dX11_others_163 rfl (lv_at hl 1 rfl) ?_
          refine g_calli (wr := [(h, .inr (10, mdF qa x0 x2 x3 x4 x13 x14 x15 x16 x17 x18 x19 x20 x21 x22 x23 x24 x26 x27 x28)), (qa 32, .inl (cI, 4, .inl g32)), (qa 34, .inl (cI, 4, .inl jc34)), (qa 36, .inl (cI, 4, .inl g36)), (qa 37, .inl (cI, 4, .inl g37))]) (va_runS (As := [.int tv_4]) (rest := [.int (nI cv), .ref h]) ⟨hx, hb, hml, hown, hts⟩ (m_x l dC dI H.size tv_4 ) (va_cwS 1 hts (gG_S kw_862 kw_863 kw_5 kw_864) rfl rfl rfl (by decide +kernel) ⟨Nat.le_of_ble_eq_true rfl, Nat.le_of_ble_eq_true rfl⟩) (g_preS hP hD hK hS hA hN hZ [] (by decide) rfl [] rfl) rfl rfl hl.1 rfl (lv_room (Nat.le_of_ble_eq_true rfl)) dX11_others_164 ⟨Nat.le_of_ble_eq_true rfl, Nat.le_of_ble_eq_true rfl⟩) hP hD hK hS hA [] [0, 1, 2, 3, 4] rfl rfl (by decide +kernel) (by decide +kernel) (fun r_164 w ty1 H locs hw_164 hP hD _ hS => ?_)
          rcases hw_164 with ⟨hu, hr_164⟩
          cases hu
          have hP : va_P (dC, dI) vwCl [(h, .inr (10, mdF qa x0 x2 x3 x4 x13 x14 x15 x16 x17 x18 x19 x20 x21 x22 x23 x24 x26 x27 x28)), (qa 32, .inl (cI, 4, .inl g32)), (qa 34, .inl (cI, 4, .inl jc34)), (qa 36, .inl (cI, 4, .inl g36)), (qa 37, .inl (cI, 4, .inl g37))] H := hP
          have hD : va_D A [(h, .inr (10, mdF qa x0 x2 x3 x4 x13 x14 x15 x16 x17 x18 x19 x20 x21 x22 x23 x24 x26 x27 x28)), (qa 32, .inl (cI, 4, .inl g32)), (qa 34, .inl (cI, 4, .inl jc34)), (qa 36, .inl (cI, 4, .inl g36)), (qa 37, .inl (cI, 4, .inl g37))] := hD
          refine g_topi (y := (tv_4 >>> (4 &&& 31)) &&& 15) hr_164 ?_
          refine lv_if_eq (tgt := 177) hx hb dX11_others_167 (by decide) (fun c_167 => ?_) (fun c_167 => ?_)
          · refine lv_iload_n hx hb dX11_others_177 rfl (lv_at hl 1 rfl) ?_
            refine g_calli (wr := [(h, .inr (10, mdF qa x0 x2 x3 x4 x13 x14 x15 x16 x17 x18 x19 x20 x21 x22 x23 x24 x26 x27 x28)), (qa 32, .inl (cI, 4, .inl g32)), (qa 34, .inl (cI, 4, .inl jc34)), (qa 36, .inl (cI, 4, .inl g36)), (qa 37, .inl (cI, 4, .inl g37))]) (va_runS (As := [.int tv_4]) (rest := [.int (nI cv), .ref h]) ⟨hx, hb, hml, hown, hts⟩ (m_y l dC dI H.size tv_4 ) (va_cwS 1 hts (gG_S kw_865 kw_866 kw_5 kw_867) rfl rfl rfl (by decide +kernel) ⟨Nat.le_of_ble_eq_true rfl, Nat.le_of_ble_eq_true rfl⟩) (g_preS hP hD hK hS hA hN hZ [] (by decide) rfl [] rfl) rfl rfl hl.1 rfl (lv_room (Nat.le_of_ble_eq_true rfl)) dX11_others_178 ⟨Nat.le_of_ble_eq_true rfl, Nat.le_of_ble_eq_true rfl⟩) hP hD hK hS hA [] [0, 1, 2, 3, 4] rfl rfl (by decide +kernel) (by decide +kernel) (fun r_178 w ty1 H locs hw_178 hP hD _ hS => ?_)
            rcases hw_178 with ⟨hu, hr_178⟩
            cases hu
            have hP : va_P (dC, dI) vwCl [(h, .inr (10, mdF qa x0 x2 x3 x4 x13 x14 x15 x16 x17 x18 x19 x20 x21 x22 x23 x24 x26 x27 x28)), (qa 32, .inl (cI, 4, .inl g32)), (qa 34, .inl (cI, 4, .inl jc34)), (qa 36, .inl (cI, 4, .inl g36)), (qa 37, .inl (cI, 4, .inl g37))] H := hP
            have hD : va_D A [(h, .inr (10, mdF qa x0 x2 x3 x4 x13 x14 x15 x16 x17 x18 x19 x20 x21 x22 x23 x24 x26 x27 x28)), (qa 32, .inl (cI, 4, .inl g32)), (qa 34, .inl (cI, 4, .inl jc34)), (qa 36, .inl (cI, 4, .inl g36)), (qa 37, .inl (cI, 4, .inl g37))] := hD
            refine g_topi (y := tv_4 &&& 15) hr_178 ?_
            refine lv_ineg hx hb dX11_others_181 ?_
            refine lv_topi (fun tv_181 etv_181 => ?_)
            refine g_callv (wr := [(qa 34, .inl (cI, 4, .inl jc34)), (qa 36, .inl (cI, 4, .inl g36)), (qa 37, .inl (cI, 4, .inl g37))]) (va_runV (As := [.int (nI cv), .int tv_181]) (rest := []) ⟨hx, hb, hml, hown, hts⟩ (m_volumeBy l dC dI H.size h qa x0 x2 x3 x4 x13 x14 x15 x16 x17 x18 x19 x20 x21 x22 x23 x24 x26 x27 x28 cI g32 cv tv_181 (hcv)) (cwV 2 hts (gG_V kw_899 kw_900 kw_901 kw_5 kw_902) rfl rfl rfl (by decide +kernel) ⟨Nat.le_of_ble_eq_true rfl, Nat.le_of_ble_eq_true rfl⟩) (g_preV (C := RX11) (T := TX11) (N := 53) hP hD hK hS hA hN hZ (q0 := 0) rfl rfl [0, 1] (by decide +kernel) rfl [0] rfl) rfl rfl hl.1 rfl (lv_room (Nat.le_of_ble_eq_true rfl)) dX11_others_182 ⟨Nat.le_of_ble_eq_true rfl, Nat.le_of_ble_eq_true rfl⟩) hP hD hK hS hA [0, 1] [2, 3, 4] rfl rfl (by decide +kernel) (by decide +kernel) (fun w ty1 H locs hw_182 hP hD _ hS => ?_)
            rcases hw_182 with ⟨k32_182, hu⟩
            cases hu
            have hP : va_P (dC, dI) vwCl [(qa 34, .inl (cI, 4, .inl jc34)), (qa 36, .inl (cI, 4, .inl g36)), (qa 37, .inl (cI, 4, .inl g37)), (h, .inr (10, mdF qa x0 x2 x3 x4 x13 x14 x15 x16 x17 x18 x19 x20 x21 x22 x23 x24 x26 x27 x28)), (qa 32, .inl (cI, 4, .inl k32_182))] H := hP
            have hD : va_D A [(qa 34, .inl (cI, 4, .inl jc34)), (qa 36, .inl (cI, 4, .inl g36)), (qa 37, .inl (cI, 4, .inl g37)), (h, .inr (10, mdF qa x0 x2 x3 x4 x13 x14 x15 x16 x17 x18 x19 x20 x21 x22 x23 x24 x26 x27 x28)), (qa 32, .inl (cI, 4, .inl k32_182))] := hD
            have hP9 := hP.sub (ws' := [(h, .inr (10, mdF qa x0 x2 x3 x4 x13 x14 x15 x16 x17 x18 x19 x20 x21 x22 x23 x24 x26 x27 x28)), (qa 32, .inl (cI, 4, .inl k32_182)), (qa 34, .inl (cI, 4, .inl jc34)), (qa 36, .inl (cI, 4, .inl g36)), (qa 37, .inl (cI, 4, .inl g37))]) [3, 4, 0, 1, 2] rfl
            have hD9 := hD.sub (ws' := [(h, .inr (10, mdF qa x0 x2 x3 x4 x13 x14 x15 x16 x17 x18 x19 x20 x21 x22 x23 x24 x26 x27 x28)), (qa 32, .inl (cI, 4, .inl k32_182)), (qa 34, .inl (cI, 4, .inl jc34)), (qa 36, .inl (cI, 4, .inl g36)), (qa 37, .inl (cI, 4, .inl g37))]) [3, 4, 0, 1, 2] (by decide +kernel) rfl
            have hK9 := hK.sub (tys' := []) [] rfl
            exact W.vret hx hb hr (fun t ht hW => ⟨⟨_, rfl, ⟨k32_182, jc34, rfl, r_jc34⟩, by rw [ht]; exact hP9, va_K.moved hW.alike hK9, hD9⟩, hS.F ht⟩) hS.2.2 dX11_others_185
          refine lv_iload_n hx hb dX11_others_170 rfl (lv_at hl 1 rfl) ?_
          refine g_calli (wr := [(h, .inr (10, mdF qa x0 x2 x3 x4 x13 x14 x15 x16 x17 x18 x19 x20 x21 x22 x23 x24 x26 x27 x28)), (qa 32, .inl (cI, 4, .inl g32)), (qa 34, .inl (cI, 4, .inl jc34)), (qa 36, .inl (cI, 4, .inl g36)), (qa 37, .inl (cI, 4, .inl g37))]) (va_runS (As := [.int tv_4]) (rest := [.int (nI cv), .ref h]) ⟨hx, hb, hml, hown, hts⟩ (m_x l dC dI H.size tv_4 ) (va_cwS 1 hts (gG_S kw_862 kw_863 kw_5 kw_864) rfl rfl rfl (by decide +kernel) ⟨Nat.le_of_ble_eq_true rfl, Nat.le_of_ble_eq_true rfl⟩) (g_preS hP hD hK hS hA hN hZ [] (by decide) rfl [] rfl) rfl rfl hl.1 rfl (lv_room (Nat.le_of_ble_eq_true rfl)) dX11_others_171 ⟨Nat.le_of_ble_eq_true rfl, Nat.le_of_ble_eq_true rfl⟩) hP hD hK hS hA [] [0, 1, 2, 3, 4] rfl rfl (by decide +kernel) (by decide +kernel) (fun r_171 w ty1 H locs hw_171 hP hD _ hS => ?_)
          rcases hw_171 with ⟨hu, hr_171⟩
          cases hu
          have hP : va_P (dC, dI) vwCl [(h, .inr (10, mdF qa x0 x2 x3 x4 x13 x14 x15 x16 x17 x18 x19 x20 x21 x22 x23 x24 x26 x27 x28)), (qa 32, .inl (cI, 4, .inl g32)), (qa 34, .inl (cI, 4, .inl jc34)), (qa 36, .inl (cI, 4, .inl g36)), (qa 37, .inl (cI, 4, .inl g37))] H := hP
          have hD : va_D A [(h, .inr (10, mdF qa x0 x2 x3 x4 x13 x14 x15 x16 x17 x18 x19 x20 x21 x22 x23 x24 x26 x27 x28)), (qa 32, .inl (cI, 4, .inl g32)), (qa 34, .inl (cI, 4, .inl jc34)), (qa 36, .inl (cI, 4, .inl g36)), (qa 37, .inl (cI, 4, .inl g37))] := hD
          refine g_topi (y := (tv_4 >>> (4 &&& 31)) &&& 15) hr_171 ?_
          refine lv_goto (tgt := 182) hx hb dX11_others_174 (by decide) ?_
          refine g_callv (wr := [(qa 34, .inl (cI, 4, .inl jc34)), (qa 36, .inl (cI, 4, .inl g36)), (qa 37, .inl (cI, 4, .inl g37))]) (va_runV (As := [.int (nI cv), .int ((tv_4 >>> (4 &&& 31)) &&& 15)]) (rest := []) ⟨hx, hb, hml, hown, hts⟩ (m_volumeBy l dC dI H.size h qa x0 x2 x3 x4 x13 x14 x15 x16 x17 x18 x19 x20 x21 x22 x23 x24 x26 x27 x28 cI g32 cv ((tv_4 >>> (4 &&& 31)) &&& 15) (hcv)) (cwV 2 hts (gG_V kw_899 kw_900 kw_901 kw_5 kw_902) rfl rfl rfl (by decide +kernel) ⟨Nat.le_of_ble_eq_true rfl, Nat.le_of_ble_eq_true rfl⟩) (g_preV (C := RX11) (T := TX11) (N := 53) hP hD hK hS hA hN hZ (q0 := 0) rfl rfl [0, 1] (by decide +kernel) rfl [0] rfl) rfl rfl hl.1 rfl (lv_room (Nat.le_of_ble_eq_true rfl)) dX11_others_182 ⟨Nat.le_of_ble_eq_true rfl, Nat.le_of_ble_eq_true rfl⟩) hP hD hK hS hA [0, 1] [2, 3, 4] rfl rfl (by decide +kernel) (by decide +kernel) (fun w ty1 H locs hw_182 hP hD _ hS => ?_)
          rcases hw_182 with ⟨k32_182, hu⟩
          cases hu
          have hP : va_P (dC, dI) vwCl [(qa 34, .inl (cI, 4, .inl jc34)), (qa 36, .inl (cI, 4, .inl g36)), (qa 37, .inl (cI, 4, .inl g37)), (h, .inr (10, mdF qa x0 x2 x3 x4 x13 x14 x15 x16 x17 x18 x19 x20 x21 x22 x23 x24 x26 x27 x28)), (qa 32, .inl (cI, 4, .inl k32_182))] H := hP
          have hD : va_D A [(qa 34, .inl (cI, 4, .inl jc34)), (qa 36, .inl (cI, 4, .inl g36)), (qa 37, .inl (cI, 4, .inl g37)), (h, .inr (10, mdF qa x0 x2 x3 x4 x13 x14 x15 x16 x17 x18 x19 x20 x21 x22 x23 x24 x26 x27 x28)), (qa 32, .inl (cI, 4, .inl k32_182))] := hD
          have hP9 := hP.sub (ws' := [(h, .inr (10, mdF qa x0 x2 x3 x4 x13 x14 x15 x16 x17 x18 x19 x20 x21 x22 x23 x24 x26 x27 x28)), (qa 32, .inl (cI, 4, .inl k32_182)), (qa 34, .inl (cI, 4, .inl jc34)), (qa 36, .inl (cI, 4, .inl g36)), (qa 37, .inl (cI, 4, .inl g37))]) [3, 4, 0, 1, 2] rfl
          have hD9 := hD.sub (ws' := [(h, .inr (10, mdF qa x0 x2 x3 x4 x13 x14 x15 x16 x17 x18 x19 x20 x21 x22 x23 x24 x26 x27 x28)), (qa 32, .inl (cI, 4, .inl k32_182)), (qa 34, .inl (cI, 4, .inl jc34)), (qa 36, .inl (cI, 4, .inl g36)), (qa 37, .inl (cI, 4, .inl g37))]) [3, 4, 0, 1, 2] (by decide +kernel) rfl
          have hK9 := hK.sub (tys' := []) [] rfl
          exact W.vret hx hb hr (fun t ht hW => ⟨⟨_, rfl, ⟨k32_182, jc34, rfl, r_jc34⟩, by rw [ht]; exact hP9, va_K.moved hW.alike hK9, hD9⟩, hS.F ht⟩) hS.2.2 dX11_others_185
        refine lv_iload hx hb dX11_others_154 (lv_at hl 0 rfl) ?_
        refine lv_bipush (v := 10) hx hb dX11_others_156 (by decide) ?_
        refine lv_icmp_ne (tgt := 185) hx hb dX11_others_158 (by decide) (fun c_158 => ?_) (fun c_158 => ?_)
        · have hP9 := hP
          have hD9 := hD
          have hK9 := hK.sub (tys' := []) [] rfl
          exact W.vret hx hb hr (fun t ht hW => ⟨⟨_, rfl, ⟨g32, jc34, rfl, r_jc34⟩, by rw [ht]; exact hP9, va_K.moved hW.alike hK9, hD9⟩, hS.F ht⟩) hS.2.2 dX11_others_185
        refine lv_aload_n hx hb dX11_others_161 rfl (lv_at hl 2 rfl) ?_
        refine lv_iload_n hx hb dX11_others_162 rfl (lv_at hl 3 rfl) ?_
        refine lv_iload_n hx hb dX11_others_163 rfl (lv_at hl 1 rfl) ?_
        refine g_calli (wr := [(h, .inr (10, mdF qa x0 x2 x3 x4 x13 x14 x15 x16 x17 x18 x19 x20 x21 x22 x23 x24 x26 x27 x28)), (qa 32, .inl (cI, 4, .inl g32)), (qa 34, .inl (cI, 4, .inl jc34)), (qa 36, .inl (cI, 4, .inl g36)), (qa 37, .inl (cI, 4, .inl g37))]) (va_runS (As := [.int tv_4]) (rest := [.int (nI cv), .ref h]) ⟨hx, hb, hml, hown, hts⟩ (m_x l dC dI H.size tv_4 ) (va_cwS 1 hts (gG_S kw_862 kw_863 kw_5 kw_864) rfl rfl rfl (by decide +kernel) ⟨Nat.le_of_ble_eq_true rfl, Nat.le_of_ble_eq_true rfl⟩) (g_preS hP hD hK hS hA hN hZ [] (by decide) rfl [] rfl) rfl rfl hl.1 rfl (lv_room (Nat.le_of_ble_eq_true rfl)) dX11_others_164 ⟨Nat.le_of_ble_eq_true rfl, Nat.le_of_ble_eq_true rfl⟩) hP hD hK hS hA [] [0, 1, 2, 3, 4] rfl rfl (by decide +kernel) (by decide +kernel) (fun r_164 w ty1 H locs hw_164 hP hD _ hS => ?_)
        rcases hw_164 with ⟨hu, hr_164⟩
        cases hu
        have hP : va_P (dC, dI) vwCl [(h, .inr (10, mdF qa x0 x2 x3 x4 x13 x14 x15 x16 x17 x18 x19 x20 x21 x22 x23 x24 x26 x27 x28)), (qa 32, .inl (cI, 4, .inl g32)), (qa 34, .inl (cI, 4, .inl jc34)), (qa 36, .inl (cI, 4, .inl g36)), (qa 37, .inl (cI, 4, .inl g37))] H := hP
        have hD : va_D A [(h, .inr (10, mdF qa x0 x2 x3 x4 x13 x14 x15 x16 x17 x18 x19 x20 x21 x22 x23 x24 x26 x27 x28)), (qa 32, .inl (cI, 4, .inl g32)), (qa 34, .inl (cI, 4, .inl jc34)), (qa 36, .inl (cI, 4, .inl g36)), (qa 37, .inl (cI, 4, .inl g37))] := hD
        refine g_topi (y := (tv_4 >>> (4 &&& 31)) &&& 15) hr_164 ?_
        refine lv_if_eq (tgt := 177) hx hb dX11_others_167 (by decide) (fun c_167 => ?_) (fun c_167 => ?_)
        · refine lv_iload_n hx hb dX11_others_177 rfl (lv_at hl 1 rfl) ?_
          refine g_calli (wr := [(h, .inr (10, mdF qa x0 x2 x3 x4 x13 x14 x15 x16 x17 x18 x19 x20 x21 x22 x23 x24 x26 x27 x28)), (qa 32, .inl (cI, 4, .inl g32)), (qa 34, .inl (cI, 4, .inl jc34)), (qa 36, .inl (cI, 4, .inl g36)), (qa 37, .inl (cI, 4, .inl g37))]) (va_runS (As := [.int tv_4]) (rest := [.int (nI cv), .ref h]) ⟨hx, hb, hml, hown, hts⟩ (m_y l dC dI H.size tv_4 ) (va_cwS 1 hts (gG_S kw_865 kw_866 kw_5 kw_867) rfl rfl rfl (by decide +kernel) ⟨Nat.le_of_ble_eq_true rfl, Nat.le_of_ble_eq_true rfl⟩) (g_preS hP hD hK hS hA hN hZ [] (by decide) rfl [] rfl) rfl rfl hl.1 rfl (lv_room (Nat.le_of_ble_eq_true rfl)) dX11_others_178 ⟨Nat.le_of_ble_eq_true rfl, Nat.le_of_ble_eq_true rfl⟩) hP hD hK hS hA [] [0, 1, 2, 3, 4] rfl rfl (by decide +kernel) (by decide +kernel) (fun r_178 w ty1 H locs hw_178 hP hD _ hS => ?_)
          rcases hw_178 with ⟨hu, hr_178⟩
          cases hu
          have hP : va_P (dC, dI) vwCl [(h, .inr (10, mdF qa x0 x2 x3 x4 x13 x14 x15 x16 x17 x18 x19 x20 x21 x22 x23 x24 x26 x27 x28)), (qa 32, .inl (cI, 4, .inl g32)), (qa 34, .inl (cI, 4, .inl jc34)), (qa 36, .inl (cI, 4, .inl g36)), (qa 37, .inl (cI, 4, .inl g37))] H := hP
          have hD : va_D A [(h, .inr (10, mdF qa x0 x2 x3 x4 x13 x14 x15 x16 x17 x18 x19 x20 x21 x22 x23 x24 x26 x27 x28)), (qa 32, .inl (cI, 4, .inl g32)), (qa 34, .inl (cI, 4, .inl jc34)), (qa 36, .inl (cI, 4, .inl g36)), (qa 37, .inl (cI, 4, .inl g37))] := hD
          refine g_topi (y := tv_4 &&& 15) hr_178 ?_
          refine lv_ineg hx hb dX11_others_181 ?_
          refine lv_topi (fun tv_181 etv_181 => ?_)
          refine g_callv (wr := [(qa 34, .inl (cI, 4, .inl jc34)), (qa 36, .inl (cI, 4, .inl g36)), (qa 37, .inl (cI, 4, .inl g37))]) (va_runV (As := [.int (nI cv), .int tv_181]) (rest := []) ⟨hx, hb, hml, hown, hts⟩ (m_volumeBy l dC dI H.size h qa x0 x2 x3 x4 x13 x14 x15 x16 x17 x18 x19 x20 x21 x22 x23 x24 x26 x27 x28 cI g32 cv tv_181 (hcv)) (cwV 2 hts (gG_V kw_899 kw_900 kw_901 kw_5 kw_902) rfl rfl rfl (by decide +kernel) ⟨Nat.le_of_ble_eq_true rfl, Nat.le_of_ble_eq_true rfl⟩) (g_preV (C := RX11) (T := TX11) (N := 53) hP hD hK hS hA hN hZ (q0 := 0) rfl rfl [0, 1] (by decide +kernel) rfl [0] rfl) rfl rfl hl.1 rfl (lv_room (Nat.le_of_ble_eq_true rfl)) dX11_others_182 ⟨Nat.le_of_ble_eq_true rfl, Nat.le_of_ble_eq_true rfl⟩) hP hD hK hS hA [0, 1] [2, 3, 4] rfl rfl (by decide +kernel) (by decide +kernel) (fun w ty1 H locs hw_182 hP hD _ hS => ?_)
          rcases hw_182 with ⟨k32_182, hu⟩
          cases hu
          have hP : va_P (dC, dI) vwCl [(qa 34, .inl (cI, 4, .inl jc34)), (qa 36, .inl (cI, 4, .inl g36)), (qa 37, .inl (cI, 4, .inl g37)), (h, .inr (10, mdF qa x0 x2 x3 x4 x13 x14 x15 x16 x17 x18 x19 x20 x21 x22 x23 x24 x26 x27 x28)), (qa 32, .inl (cI, 4, .inl k32_182))] H := hP
          have hD : va_D A [(qa 34, .inl (cI, 4, .inl jc34)), (qa 36, .inl (cI, 4, .inl g36)), (qa 37, .inl (cI, 4, .inl g37)), (h, .inr (10, mdF qa x0 x2 x3 x4 x13 x14 x15 x16 x17 x18 x19 x20 x21 x22 x23 x24 x26 x27 x28)), (qa 32, .inl (cI, 4, .inl k32_182))] := hD
          have hP9 := hP.sub (ws' := [(h, .inr (10, mdF qa x0 x2 x3 x4 x13 x14 x15 x16 x17 x18 x19 x20 x21 x22 x23 x24 x26 x27 x28)), (qa 32, .inl (cI, 4, .inl k32_182)), (qa 34, .inl (cI, 4, .inl jc34)), (qa 36, .inl (cI, 4, .inl g36)), (qa 37, .inl (cI, 4, .inl g37))]) [3, 4, 0, 1, 2] rfl
          have hD9 := hD.sub (ws' := [(h, .inr (10, mdF qa x0 x2 x3 x4 x13 x14 x15 x16 x17 x18 x19 x20 x21 x22 x23 x24 x26 x27 x28)), (qa 32, .inl (cI, 4, .inl k32_182)), (qa 34, .inl (cI, 4, .inl jc34)), (qa 36, .inl (cI, 4, .inl g36)), (qa 37, .inl (cI, 4, .inl g37))]) [3, 4, 0, 1, 2] (by decide +kernel) rfl
          have hK9 := hK.sub (tys' := []) [] rfl
          exact W.vret hx hb hr (fun t ht hW => ⟨⟨_, rfl, ⟨k32_182, jc34, rfl, r_jc34⟩, by rw [ht]; exact hP9, va_K.moved hW.alike hK9, hD9⟩, hS.F ht⟩) hS.2.2 dX11_others_185
        refine lv_iload_n hx hb dX11_others_170 rfl (lv_at hl 1 rfl) ?_
        refine g_calli (wr := [(h, .inr (10, mdF qa x0 x2 x3 x4 x13 x14 x15 x16 x17 x18 x19 x20 x21 x22 x23 x24 x26 x27 x28)), (qa 32, .inl (cI, 4, .inl g32)), (qa 34, .inl (cI, 4, .inl jc34)), (qa 36, .inl (cI, 4, .inl g36)), (qa 37, .inl (cI, 4, .inl g37))]) (va_runS (As := [.int tv_4]) (rest := [.int (nI cv), .ref h]) ⟨hx, hb, hml, hown, hts⟩ (m_x l dC dI H.size tv_4 ) (va_cwS 1 hts (gG_S kw_862 kw_863 kw_5 kw_864) rfl rfl rfl (by decide +kernel) ⟨Nat.le_of_ble_eq_true rfl, Nat.le_of_ble_eq_true rfl⟩) (g_preS hP hD hK hS hA hN hZ [] (by decide) rfl [] rfl) rfl rfl hl.1 rfl (lv_room (Nat.le_of_ble_eq_true rfl)) dX11_others_171 ⟨Nat.le_of_ble_eq_true rfl, Nat.le_of_ble_eq_true rfl⟩) hP hD hK hS hA [] [0, 1, 2, 3, 4] rfl rfl (by decide +kernel) (by decide +kernel) (fun r_171 w ty1 H locs hw_171 hP hD _ hS => ?_)
        rcases hw_171 with ⟨hu, hr_171⟩
        cases hu
        have hP : va_P (dC, dI) vwCl [(h, .inr (10, mdF qa x0 x2 x3 x4 x13 x14 x15 x16 x17 x18 x19 x20 x21 x22 x23 x24 x26 x27 x28)), (qa 32, .inl (cI, 4, .inl g32)), (qa 34, .inl (cI, 4, .inl jc34)), (qa 36, .inl (cI, 4, .inl g36)), (qa 37, .inl (cI, 4, .inl g37))] H := hP
        have hD : va_D A [(h, .inr (10, mdF qa x0 x2 x3 x4 x13 x14 x15 x16 x17 x18 x19 x20 x21 x22 x23 x24 x26 x27 x28)), (qa 32, .inl (cI, 4, .inl g32)), (qa 34, .inl (cI, 4, .inl jc34)), (qa 36, .inl (cI, 4, .inl g36)), (qa 37, .inl (cI, 4, .inl g37))] := hD
        refine g_topi (y := (tv_4 >>> (4 &&& 31)) &&& 15) hr_171 ?_
        refine lv_goto (tgt := 182) hx hb dX11_others_174 (by decide) ?_
        refine g_callv (wr := [(qa 34, .inl (cI, 4, .inl jc34)), (qa 36, .inl (cI, 4, .inl g36)), (qa 37, .inl (cI, 4, .inl g37))]) (va_runV (As := [.int (nI cv), .int ((tv_4 >>> (4 &&& 31)) &&& 15)]) (rest := []) ⟨hx, hb, hml, hown, hts⟩ (m_volumeBy l dC dI H.size h qa x0 x2 x3 x4 x13 x14 x15 x16 x17 x18 x19 x20 x21 x22 x23 x24 x26 x27 x28 cI g32 cv ((tv_4 >>> (4 &&& 31)) &&& 15) (hcv)) (cwV 2 hts (gG_V kw_899 kw_900 kw_901 kw_5 kw_902) rfl rfl rfl (by decide +kernel) ⟨Nat.le_of_ble_eq_true rfl, Nat.le_of_ble_eq_true rfl⟩) (g_preV (C := RX11) (T := TX11) (N := 53) hP hD hK hS hA hN hZ (q0 := 0) rfl rfl [0, 1] (by decide +kernel) rfl [0] rfl) rfl rfl hl.1 rfl (lv_room (Nat.le_of_ble_eq_true rfl)) dX11_others_182 ⟨Nat.le_of_ble_eq_true rfl, Nat.le_of_ble_eq_true rfl⟩) hP hD hK hS hA [0, 1] [2, 3, 4] rfl rfl (by decide +kernel) (by decide +kernel) (fun w ty1 H locs hw_182 hP hD _ hS => ?_)
        rcases hw_182 with ⟨k32_182, hu⟩
        cases hu
        have hP : va_P (dC, dI) vwCl [(qa 34, .inl (cI, 4, .inl jc34)), (qa 36, .inl (cI, 4, .inl g36)), (qa 37, .inl (cI, 4, .inl g37)), (h, .inr (10, mdF qa x0 x2 x3 x4 x13 x14 x15 x16 x17 x18 x19 x20 x21 x22 x23 x24 x26 x27 x28)), (qa 32, .inl (cI, 4, .inl k32_182))] H := hP
        have hD : va_D A [(qa 34, .inl (cI, 4, .inl jc34)), (qa 36, .inl (cI, 4, .inl g36)), (qa 37, .inl (cI, 4, .inl g37)), (h, .inr (10, mdF qa x0 x2 x3 x4 x13 x14 x15 x16 x17 x18 x19 x20 x21 x22 x23 x24 x26 x27 x28)), (qa 32, .inl (cI, 4, .inl k32_182))] := hD
        have hP9 := hP.sub (ws' := [(h, .inr (10, mdF qa x0 x2 x3 x4 x13 x14 x15 x16 x17 x18 x19 x20 x21 x22 x23 x24 x26 x27 x28)), (qa 32, .inl (cI, 4, .inl k32_182)), (qa 34, .inl (cI, 4, .inl jc34)), (qa 36, .inl (cI, 4, .inl g36)), (qa 37, .inl (cI, 4, .inl g37))]) [3, 4, 0, 1, 2] rfl
        have hD9 := hD.sub (ws' := [(h, .inr (10, mdF qa x0 x2 x3 x4 x13 x14 x15 x16 x17 x18 x19 x20 x21 x22 x23 x24 x26 x27 x28)), (qa 32, .inl (cI, 4, .inl k32_182)), (qa 34, .inl (cI, 4, .inl jc34)), (qa 36, .inl (cI, 4, .inl g36)), (qa 37, .inl (cI, 4, .inl g37))]) [3, 4, 0, 1, 2] (by decide +kernel) rfl
        have hK9 := hK.sub (tys' := []) [] rfl
        exact W.vret hx hb hr (fun t ht hW => ⟨⟨_, rfl, ⟨k32_182, jc34, rfl, r_jc34⟩, by rw [ht]; exact hP9, va_K.moved hW.alike hK9, hD9⟩, hS.F ht⟩) hS.2.2 dX11_others_185
      refine lv_iload hx hb dX11_others_37 (lv_at hl 0 rfl) ?_
      refine lv_iconst (v := 3) hx hb dX11_others_39 (by decide) ?_
      refine lv_icmp_eq (tgt := 49) hx hb dX11_others_40 (by decide) (fun c_40 => ?_) (fun c_40 => ?_)
      · refine lv_aload_n hx hb dX11_others_49 rfl (lv_at hl 2 rfl) ?_
        refine va_get (D := (dC, dI)) (ci := 10) (v := .ref (qa 36)) (C := RX11) (T := TX11) (N := 53) hx hb hts iwX11 hown hK hP 0 rfl rfl 36 (by decide) (hts (.fieldLink RX11 71 "ModulePlayerModel" "target" "[I") (List.mem_cons_of_mem _ kw_192)) (fun _ h9 => h9) rfl dX11_others_50 ?_
        refine lv_iload_n hx hb dX11_others_53 rfl (lv_at hl 3 rfl) ?_
        refine g_iald hx hb hK hP 3 0 rfl rfl cv (nI_clamp (Nat.lt_trans (show cv < 4 from by omega) (by decide))) (vp_in_nI (by omega) (by decide)) dX11_others_54 ?_
        obtain ⟨jn_54, hjn_54, ejn_54⟩ := rg_nat (kx := cv) (mx := 856) r_g36 (by omega) rfl
        refine g_topi (y := nI jn_54) ejn_54 ?_
        refine lv_if_eq (tgt := 141) hx hb dX11_others_55 (by decide) (fun c_55 => ?_) (fun c_55 => ?_)
        · exact LP141 jb34 (r_jb34) _ _ hP hD hS _ (lv_sub hl [0, 1, 2, 3, 4] rfl)
        refine lv_aload_n hx hb dX11_others_58 rfl (lv_at hl 2 rfl) ?_
        refine va_get (D := (dC, dI)) (ci := 10) (v := .ref (qa 34)) (C := RX11) (T := TX11) (N := 53) hx hb hts iwX11 hown hK hP 0 rfl rfl 34 (by decide) (hts (.fieldLink RX11 65 "ModulePlayerModel" "period" "[I") (List.mem_cons_of_mem _ kw_190)) (fun _ h9 => h9) rfl dX11_others_59 ?_
        refine lv_iload_n hx hb dX11_others_62 rfl (lv_at hl 3 rfl) ?_
        refine g_iald hx hb hK hP 2 0 rfl rfl cv (nI_clamp (Nat.lt_trans (show cv < 4 from by omega) (by decide))) (vp_in_nI (by omega) (by decide)) dX11_others_63 ?_
        obtain ⟨jn_63, hjn_63, ejn_63⟩ := rg_nat (kx := cv) (mx := 856) r_jb34 (by omega) rfl
        refine g_topi (y := nI jn_63) ejn_63 ?_
        refine lv_if_eq (tgt := 141) hx hb dX11_others_64 (by decide) (fun c_64 => ?_) (fun c_64 => ?_)
        · exact LP141 jb34 (r_jb34) _ _ hP hD hS _ (lv_sub hl [0, 1, 2, 3, 4] rfl)
        refine lv_aload_n hx hb dX11_others_67 rfl (lv_at hl 2 rfl) ?_
        refine va_get (D := (dC, dI)) (ci := 10) (v := .ref (qa 34)) (C := RX11) (T := TX11) (N := 53) hx hb hts iwX11 hown hK hP 0 rfl rfl 34 (by decide) (hts (.fieldLink RX11 65 "ModulePlayerModel" "period" "[I") (List.mem_cons_of_mem _ kw_190)) (fun _ h9 => h9) rfl dX11_others_68 ?_
        refine lv_iload_n hx hb dX11_others_71 rfl (lv_at hl 3 rfl) ?_
        refine g_iald hx hb hK hP 2 0 rfl rfl cv (nI_clamp (Nat.lt_trans (show cv < 4 from by omega) (by decide))) (vp_in_nI (by omega) (by decide)) dX11_others_72 ?_
        obtain ⟨jn_72, hjn_72, ejn_72⟩ := rg_nat (kx := cv) (mx := 856) r_jb34 (by omega) rfl
        refine g_topi (y := nI jn_72) ejn_72 ?_
        refine lv_aload_n hx hb dX11_others_73 rfl (lv_at hl 2 rfl) ?_
        refine va_get (D := (dC, dI)) (ci := 10) (v := .ref (qa 36)) (C := RX11) (T := TX11) (N := 53) hx hb hts iwX11 hown hK hP 0 rfl rfl 36 (by decide) (hts (.fieldLink RX11 71 "ModulePlayerModel" "target" "[I") (List.mem_cons_of_mem _ kw_192)) (fun _ h9 => h9) rfl dX11_others_74 ?_
        refine lv_iload_n hx hb dX11_others_77 rfl (lv_at hl 3 rfl) ?_
        refine g_iald hx hb hK hP 3 0 rfl rfl cv (nI_clamp (Nat.lt_trans (show cv < 4 from by omega) (by decide))) (vp_in_nI (by omega) (by decide)) dX11_others_78 ?_
        obtain ⟨jn_78, hjn_78, ejn_78⟩ := rg_nat (kx := cv) (mx := 856) r_g36 (by omega) rfl
        refine g_topi (y := nI jn_78) ejn_78 ?_
        refine lv_icmp_ge (tgt := 113) hx hb dX11_others_79 (by decide) (fun c_79 => ?_) (fun c_79 => ?_)
        · refine lv_aload_n hx hb dX11_others_113 rfl (lv_at hl 2 rfl) ?_
          refine va_get (D := (dC, dI)) (ci := 10) (v := .ref (qa 34)) (C := RX11) (T := TX11) (N := 53) hx hb hts iwX11 hown hK hP 0 rfl rfl 34 (by decide) (hts (.fieldLink RX11 65 "ModulePlayerModel" "period" "[I") (List.mem_cons_of_mem _ kw_190)) (fun _ h9 => h9) rfl dX11_others_114 ?_
          refine lv_iload_n hx hb dX11_others_117 rfl (lv_at hl 3 rfl) ?_
          refine lv_aload_n hx hb dX11_others_118 rfl (lv_at hl 2 rfl) ?_
          refine va_get (D := (dC, dI)) (ci := 10) (v := .ref (qa 36)) (C := RX11) (T := TX11) (N := 53) hx hb hts iwX11 hown hK hP 0 rfl rfl 36 (by decide) (hts (.fieldLink RX11 71 "ModulePlayerModel" "target" "[I") (List.mem_cons_of_mem _ kw_192)) (fun _ h9 => h9) rfl dX11_others_119 ?_
          refine lv_iload_n hx hb dX11_others_122 rfl (lv_at hl 3 rfl) ?_
          refine g_iald hx hb hK hP 3 0 rfl rfl cv (nI_clamp (Nat.lt_trans (show cv < 4 from by omega) (by decide))) (vp_in_nI (by omega) (by decide)) dX11_others_123 ?_
          obtain ⟨jn_123, hjn_123, ejn_123⟩ := rg_nat (kx := cv) (mx := 856) r_g36 (by omega) rfl
          refine g_topi (y := nI jn_123) ejn_123 ?_
          refine lv_aload_n hx hb dX11_others_124 rfl (lv_at hl 2 rfl) ?_
          refine va_get (D := (dC, dI)) (ci := 10) (v := .ref (qa 34)) (C := RX11) (T := TX11) (N := 53) hx hb hts iwX11 hown hK hP 0 rfl rfl 34 (by decide) (hts (.fieldLink RX11 65 "ModulePlayerModel" "period" "[I") (List.mem_cons_of_mem _ kw_190)) (fun _ h9 => h9) rfl dX11_others_125 ?_
          refine lv_iload_n hx hb dX11_others_128 rfl (lv_at hl 3 rfl) ?_
          refine g_iald hx hb hK hP 2 0 rfl rfl cv (nI_clamp (Nat.lt_trans (show cv < 4 from by omega) (by decide))) (vp_in_nI (by omega) (by decide)) dX11_others_129 ?_
          obtain ⟨jn_129, hjn_129, ejn_129⟩ := rg_nat (kx := cv) (mx := 856) r_jb34 (by omega) rfl
          refine g_topi (y := nI jn_129) ejn_129 ?_
          refine lv_aload_n hx hb dX11_others_130 rfl (lv_at hl 2 rfl) ?_
          refine va_get (D := (dC, dI)) (ci := 10) (v := .ref (qa 37)) (C := RX11) (T := TX11) (N := 53) hx hb hts iwX11 hown hK hP 0 rfl rfl 37 (by decide) (hts (.fieldLink RX11 74 "ModulePlayerModel" "porta" "[I") (List.mem_cons_of_mem _ kw_193)) (fun _ h9 => h9) rfl dX11_others_131 ?_
          refine lv_iload_n hx hb dX11_others_134 rfl (lv_at hl 3 rfl) ?_
          refine g_iald hx hb hK hP 4 0 rfl rfl cv (nI_clamp (Nat.lt_trans (show cv < 4 from by omega) (by decide))) (vp_in_nI (by omega) (by decide)) dX11_others_135 ?_
          obtain ⟨jn_135, hjn_135, ejn_135⟩ := rg_nat (kx := cv) (mx := 255) r_g37 (by omega) rfl
          refine g_topi (y := nI jn_135) ejn_135 ?_
          refine lv_isub hx hb dX11_others_136 ?_
          refine lv_topi (fun tv_136 etv_136 => ?_)
          refine va_mmax hx hb (by rw [hml]; exact hl.1.symm) hown (hts (.methodLink RX11 129 Lib.Math.max.name) (List.mem_cons_of_mem _ kw_212)) (hts (.static Lib.Math.max.name) (List.mem_cons_of_mem _ kw_102)) (hts (.initialized "java/lang/Math") (List.mem_cons_of_mem _ kw_103)) (hts (.code Lib.Math.max.name Lib.Math.max.code 2 (some .int)) (List.mem_cons_of_mem _ kw_104)) (Nat.le_of_ble_eq_true rfl) (Nat.le_of_ble_eq_true rfl) (Nat.le_of_ble_eq_true rfl) (Nat.le_of_ble_eq_true rfl) dX11_others_137 ?_
          refine lv_topi (fun tv_137 etv_137 => ?_)
          refine g_iast hx hb hK hP hD hS 2 0 rfl rfl cv (nI_clamp (Nat.lt_trans (show cv < 4 from by omega) (by decide))) (vp_in_nI (by omega) (by decide)) dX11_others_140 (fun H locs hP hD hS => ?_)
          have hP : va_P (dC, dI) vwCl [(h, .inr (10, mdF qa x0 x2 x3 x4 x13 x14 x15 x16 x17 x18 x19 x20 x21 x22 x23 x24 x26 x27 x28)), (qa 32, .inl (cI, 4, .inl g32)), (qa 34, .inl (cI, 4, .inl (upd jb34 cv tv_137))), (qa 36, .inl (cI, 4, .inl g36)), (qa 37, .inl (cI, 4, .inl g37))] H := hP
          have hD : va_D A [(h, .inr (10, mdF qa x0 x2 x3 x4 x13 x14 x15 x16 x17 x18 x19 x20 x21 x22 x23 x24 x26 x27 x28)), (qa 32, .inl (cI, 4, .inl g32)), (qa 34, .inl (cI, 4, .inl (upd jb34 cv tv_137))), (qa 36, .inl (cI, 4, .inl g36)), (qa 37, .inl (cI, 4, .inl g37))] := hD
          obtain ⟨u34_140, r_u34_140, eu34_140⟩ : ∃ ff : Nat → Int32, rg 4 0 856 ff ∧ ff = upd jb34 cv tv_137 := ⟨upd jb34 cv tv_137, rg_upd2 r_jb34 (mx_rg etv_137 (nI_rg (by omega) (by omega) (by omega)) (by rw [etv_136]; exact Int.le_trans (sub_le (by omega) (by omega)) (by omega))), rfl⟩
          rw [← eu34_140] at hP hD
          exact LP141 u34_140 (r_u34_140) _ _ hP hD hS _ (lv_sub hl [0, 1, 2, 3, 4] rfl)
        refine lv_aload_n hx hb dX11_others_82 rfl (lv_at hl 2 rfl) ?_
        refine va_get (D := (dC, dI)) (ci := 10) (v := .ref (qa 34)) (C := RX11) (T := TX11) (N := 53) hx hb hts iwX11 hown hK hP 0 rfl rfl 34 (by decide) (hts (.fieldLink RX11 65 "ModulePlayerModel" "period" "[I") (List.mem_cons_of_mem _ kw_190)) (fun _ h9 => h9) rfl dX11_others_83 ?_
        refine lv_iload_n hx hb dX11_others_86 rfl (lv_at hl 3 rfl) ?_
        refine lv_aload_n hx hb dX11_others_87 rfl (lv_at hl 2 rfl) ?_
        refine va_get (D := (dC, dI)) (ci := 10) (v := .ref (qa 36)) (C := RX11) (T := TX11) (N := 53) hx hb hts iwX11 hown hK hP 0 rfl rfl 36 (by decide) (hts (.fieldLink RX11 71 "ModulePlayerModel" "target" "[I") (List.mem_cons_of_mem _ kw_192)) (fun _ h9 => h9) rfl dX11_others_88 ?_
        refine lv_iload_n hx hb dX11_others_91 rfl (lv_at hl 3 rfl) ?_
        refine g_iald hx hb hK hP 3 0 rfl rfl cv (nI_clamp (Nat.lt_trans (show cv < 4 from by omega) (by decide))) (vp_in_nI (by omega) (by decide)) dX11_others_92 ?_
        obtain ⟨jn_92, hjn_92, ejn_92⟩ := rg_nat (kx := cv) (mx := 856) r_g36 (by omega) rfl
        refine g_topi (y := nI jn_92) ejn_92 ?_
        refine lv_aload_n hx hb dX11_others_93 rfl (lv_at hl 2 rfl) ?_
        refine va_get (D := (dC, dI)) (ci := 10) (v := .ref (qa 34)) (C := RX11) (T := TX11) (N := 53) hx hb hts iwX11 hown hK hP 0 rfl rfl 34 (by decide) (hts (.fieldLink RX11 65 "ModulePlayerModel" "period" "[I") (List.mem_cons_of_mem _ kw_190)) (fun _ h9 => h9) rfl dX11_others_94 ?_
        refine lv_iload_n hx hb dX11_others_97 rfl (lv_at hl 3 rfl) ?_
        refine g_iald hx hb hK hP 2 0 rfl rfl cv (nI_clamp (Nat.lt_trans (show cv < 4 from by omega) (by decide))) (vp_in_nI (by omega) (by decide)) dX11_others_98 ?_
        obtain ⟨jn_98, hjn_98, ejn_98⟩ := rg_nat (kx := cv) (mx := 856) r_jb34 (by omega) rfl
        refine g_topi (y := nI jn_98) ejn_98 ?_
        refine lv_aload_n hx hb dX11_others_99 rfl (lv_at hl 2 rfl) ?_
        refine va_get (D := (dC, dI)) (ci := 10) (v := .ref (qa 37)) (C := RX11) (T := TX11) (N := 53) hx hb hts iwX11 hown hK hP 0 rfl rfl 37 (by decide) (hts (.fieldLink RX11 74 "ModulePlayerModel" "porta" "[I") (List.mem_cons_of_mem _ kw_193)) (fun _ h9 => h9) rfl dX11_others_100 ?_
        refine lv_iload_n hx hb dX11_others_103 rfl (lv_at hl 3 rfl) ?_
        refine g_iald hx hb hK hP 4 0 rfl rfl cv (nI_clamp (Nat.lt_trans (show cv < 4 from by omega) (by decide))) (vp_in_nI (by omega) (by decide)) dX11_others_104 ?_
        obtain ⟨jn_104, hjn_104, ejn_104⟩ := rg_nat (kx := cv) (mx := 255) r_g37 (by omega) rfl
        refine g_topi (y := nI jn_104) ejn_104 ?_
        refine lv_iadd hx hb dX11_others_105 ?_
        refine lv_topi (fun tv_105 etv_105 => ?_)
        refine va_mmin hx hb (by rw [hml]; exact hl.1.symm) hown (hts (.methodLink RX11 123 Lib.Math.min.name) (List.mem_cons_of_mem _ kw_209)) (hts (.static Lib.Math.min.name) (List.mem_cons_of_mem _ kw_210)) (hts (.initialized "java/lang/Math") (List.mem_cons_of_mem _ kw_103)) (hts (.code Lib.Math.min.name Lib.Math.min.code 2 (some .int)) (List.mem_cons_of_mem _ kw_211)) (Nat.le_of_ble_eq_true rfl) (Nat.le_of_ble_eq_true rfl) (Nat.le_of_ble_eq_true rfl) (Nat.le_of_ble_eq_true rfl) dX11_others_106 ?_
        refine lv_topi (fun tv_106 etv_106 => ?_)
        refine g_iast hx hb hK hP hD hS 2 0 rfl rfl cv (nI_clamp (Nat.lt_trans (show cv < 4 from by omega) (by decide))) (vp_in_nI (by omega) (by decide)) dX11_others_109 (fun H locs hP hD hS => ?_)
        have hP : va_P (dC, dI) vwCl [(h, .inr (10, mdF qa x0 x2 x3 x4 x13 x14 x15 x16 x17 x18 x19 x20 x21 x22 x23 x24 x26 x27 x28)), (qa 32, .inl (cI, 4, .inl g32)), (qa 34, .inl (cI, 4, .inl (upd jb34 cv tv_106))), (qa 36, .inl (cI, 4, .inl g36)), (qa 37, .inl (cI, 4, .inl g37))] H := hP
        have hD : va_D A [(h, .inr (10, mdF qa x0 x2 x3 x4 x13 x14 x15 x16 x17 x18 x19 x20 x21 x22 x23 x24 x26 x27 x28)), (qa 32, .inl (cI, 4, .inl g32)), (qa 34, .inl (cI, 4, .inl (upd jb34 cv tv_106))), (qa 36, .inl (cI, 4, .inl g36)), (qa 37, .inl (cI, 4, .inl g37))] := hD
        obtain ⟨u34_109, r_u34_109, eu34_109⟩ : ∃ ff : Nat → Int32, rg 4 0 856 ff ∧ ff = upd jb34 cv tv_106 := ⟨upd jb34 cv tv_106, rg_upd2 r_jb34 (mn_rg etv_106 (nI_rg (by omega) (by omega) (by omega)) (by rw [etv_105, nI_add, nI_toInt (by omega)]; omega)), rfl⟩
        rw [← eu34_109] at hP hD
        refine lv_goto (tgt := 141) hx hb dX11_others_110 (by decide) ?_
        exact LP141 u34_109 (r_u34_109) _ _ hP hD hS _ (lv_sub hl [0, 1, 2, 3, 4] rfl)
      refine lv_iload hx hb dX11_others_43 (lv_at hl 0 rfl) ?_
      refine lv_iconst (v := 5) hx hb dX11_others_45 (by decide) ?_
      refine lv_icmp_ne (tgt := 141) hx hb dX11_others_46 (by decide) (fun c_46 => ?_) (fun c_46 => ?_)
      · exact LP141 jb34 (r_jb34) _ _ hP hD hS _ (lv_sub hl [0, 1, 2, 3, 4] rfl)
      refine lv_aload_n hx hb dX11_others_49 rfl (lv_at hl 2 rfl) ?_
      refine va_get (D := (dC, dI)) (ci := 10) (v := .ref (qa 36)) (C := RX11) (T := TX11) (N := 53) hx hb hts iwX11 hown hK hP 0 rfl rfl 36 (by decide) (hts (.fieldLink RX11 71 "ModulePlayerModel" "target" "[I") (List.mem_cons_of_mem _ kw_192)) (fun _ h9 => h9) rfl dX11_others_50 ?_
      refine lv_iload_n hx hb dX11_others_53 rfl (lv_at hl 3 rfl) ?_
      refine g_iald hx hb hK hP 3 0 rfl rfl cv (nI_clamp (Nat.lt_trans (show cv < 4 from by omega) (by decide))) (vp_in_nI (by omega) (by decide)) dX11_others_54 ?_
      obtain ⟨jn_54, hjn_54, ejn_54⟩ := rg_nat (kx := cv) (mx := 856) r_g36 (by omega) rfl
      refine g_topi (y := nI jn_54) ejn_54 ?_
      refine lv_if_eq (tgt := 141) hx hb dX11_others_55 (by decide) (fun c_55 => ?_) (fun c_55 => ?_)
      · exact LP141 jb34 (r_jb34) _ _ hP hD hS _ (lv_sub hl [0, 1, 2, 3, 4] rfl)
      refine lv_aload_n hx hb dX11_others_58 rfl (lv_at hl 2 rfl) ?_
      refine va_get (D := (dC, dI)) (ci := 10) (v := .ref (qa 34)) (C := RX11) (T := TX11) (N := 53) hx hb hts iwX11 hown hK hP 0 rfl rfl 34 (by decide) (hts (.fieldLink RX11 65 "ModulePlayerModel" "period" "[I") (List.mem_cons_of_mem _ kw_190)) (fun _ h9 => h9) rfl dX11_others_59 ?_
      refine lv_iload_n hx hb dX11_others_62 rfl (lv_at hl 3 rfl) ?_
      refine g_iald hx hb hK hP 2 0 rfl rfl cv (nI_clamp (Nat.lt_trans (show cv < 4 from by omega) (by decide))) (vp_in_nI (by omega) (by decide)) dX11_others_63 ?_
      obtain ⟨jn_63, hjn_63, ejn_63⟩ := rg_nat (kx := cv) (mx := 856) r_jb34 (by omega) rfl
      refine g_topi (y := nI jn_63) ejn_63 ?_
      refine lv_if_eq (tgt := 141) hx hb dX11_others_64 (by decide) (fun c_64 => ?_) (fun c_64 => ?_)
      · exact LP141 jb34 (r_jb34) _ _ hP hD hS _ (lv_sub hl [0, 1, 2, 3, 4] rfl)
      refine lv_aload_n hx hb dX11_others_67 rfl (lv_at hl 2 rfl) ?_
      refine va_get (D := (dC, dI)) (ci := 10) (v := .ref (qa 34)) (C := RX11) (T := TX11) (N := 53) hx hb hts iwX11 hown hK hP 0 rfl rfl 34 (by decide) (hts (.fieldLink RX11 65 "ModulePlayerModel" "period" "[I") (List.mem_cons_of_mem _ kw_190)) (fun _ h9 => h9) rfl dX11_others_68 ?_
      refine lv_iload_n hx hb dX11_others_71 rfl (lv_at hl 3 rfl) ?_
      refine g_iald hx hb hK hP 2 0 rfl rfl cv (nI_clamp (Nat.lt_trans (show cv < 4 from by omega) (by decide))) (vp_in_nI (by omega) (by decide)) dX11_others_72 ?_
      obtain ⟨jn_72, hjn_72, ejn_72⟩ := rg_nat (kx := cv) (mx := 856) r_jb34 (by omega) rfl
      refine g_topi (y := nI jn_72) ejn_72 ?_
      refine lv_aload_n hx hb dX11_others_73 rfl (lv_at hl 2 rfl) ?_
      refine va_get (D := (dC, dI)) (ci := 10) (v := .ref (qa 36)) (C := RX11) (T := TX11) (N := 53) hx hb hts iwX11 hown hK hP 0 rfl rfl 36 (by decide) (hts (.fieldLink RX11 71 "ModulePlayerModel" "target" "[I") (List.mem_cons_of_mem _ kw_192)) (fun _ h9 => h9) rfl dX11_others_74 ?_
      refine lv_iload_n hx hb dX11_others_77 rfl (lv_at hl 3 rfl) ?_
      refine g_iald hx hb hK hP 3 0 rfl rfl cv (nI_clamp (Nat.lt_trans (show cv < 4 from by omega) (by decide))) (vp_in_nI (by omega) (by decide)) dX11_others_78 ?_
      obtain ⟨jn_78, hjn_78, ejn_78⟩ := rg_nat (kx := cv) (mx := 856) r_g36 (by omega) rfl
      refine g_topi (y := nI jn_78) ejn_78 ?_
      refine lv_icmp_ge (tgt := 113) hx hb dX11_others_79 (by decide) (fun c_79 => ?_) (fun c_79 => ?_)
      · refine lv_aload_n hx hb dX11_others_113 rfl (lv_at hl 2 rfl) ?_
        refine va_get (D := (dC, dI)) (ci := 10) (v := .ref (qa 34)) (C := RX11) (T := TX11) (N := 53) hx hb hts iwX11 hown hK hP 0 rfl rfl 34 (by decide) (hts (.fieldLink RX11 65 "ModulePlayerModel" "period" "[I") (List.mem_cons_of_mem _ kw_190)) (fun _ h9 => h9) rfl dX11_others_114 ?_
        refine lv_iload_n hx hb dX11_others_117 rfl (lv_at hl 3 rfl) ?_
        refine lv_aload_n hx hb dX11_others_118 rfl (lv_at hl 2 rfl) ?_
        refine va_get (D := (dC, dI)) (ci := 10) (v := .ref (qa 36)) (C := RX11) (T := TX11) (N := 53) hx hb hts iwX11 hown hK hP 0 rfl rfl 36 (by decide) (hts (.fieldLink RX11 71 "ModulePlayerModel" "target" "[I") (List.mem_cons_of_mem _ kw_192)) (fun _ h9 => h9) rfl dX11_others_119 ?_
        refine lv_iload_n hx hb dX11_others_122 rfl (lv_at hl 3 rfl) ?_
        refine g_iald hx hb hK hP 3 0 rfl rfl cv (nI_clamp (Nat.lt_trans (show cv < 4 from by omega) (by decide))) (vp_in_nI (by omega) (by decide)) dX11_others_123 ?_
        obtain ⟨jn_123, hjn_123, ejn_123⟩ := rg_nat (kx := cv) (mx := 856) r_g36 (by omega) rfl
        refine g_topi (y := nI jn_123) ejn_123 ?_
        refine lv_aload_n hx hb dX11_others_124 rfl (lv_at hl 2 rfl) ?_
        refine va_get (D := (dC, dI)) (ci := 10) (v := .ref (qa 34)) (C := RX11) (T := TX11) (N := 53) hx hb hts iwX11 hown hK hP 0 rfl rfl 34 (by decide) (hts (.fieldLink RX11 65 "ModulePlayerModel" "period" "[I") (List.mem_cons_of_mem _ kw_190)) (fun _ h9 => h9) rfl dX11_others_125 ?_
        refine lv_iload_n hx hb dX11_others_128 rfl (lv_at hl 3 rfl) ?_
        refine g_iald hx hb hK hP 2 0 rfl rfl cv (nI_clamp (Nat.lt_trans (show cv < 4 from by omega) (by decide))) (vp_in_nI (by omega) (by decide)) dX11_others_129 ?_
        obtain ⟨jn_129, hjn_129, ejn_129⟩ := rg_nat (kx := cv) (mx := 856) r_jb34 (by omega) rfl
        refine g_topi (y := nI jn_129) ejn_129 ?_
        refine lv_aload_n hx hb dX11_others_130 rfl (lv_at hl 2 rfl) ?_
        refine va_get (D := (dC, dI)) (ci := 10) (v := .ref (qa 37)) (C := RX11) (T := TX11) (N := 53) hx hb hts iwX11 hown hK hP 0 rfl rfl 37 (by decide) (hts (.fieldLink RX11 74 "ModulePlayerModel" "porta" "[I") (List.mem_cons_of_mem _ kw_193)) (fun _ h9 => h9) rfl dX11_others_131 ?_
        refine lv_iload_n hx hb dX11_others_134 rfl (lv_at hl 3 rfl) ?_
        refine g_iald hx hb hK hP 4 0 rfl rfl cv (nI_clamp (Nat.lt_trans (show cv < 4 from by omega) (by decide))) (vp_in_nI (by omega) (by decide)) dX11_others_135 ?_
        obtain ⟨jn_135, hjn_135, ejn_135⟩ := rg_nat (kx := cv) (mx := 255) r_g37 (by omega) rfl
        refine g_topi (y := nI jn_135) ejn_135 ?_
        refine lv_isub hx hb dX11_others_136 ?_
        refine lv_topi (fun tv_136 etv_136 => ?_)
        refine va_mmax hx hb (by rw [hml]; exact hl.1.symm) hown (hts (.methodLink RX11 129 Lib.Math.max.name) (List.mem_cons_of_mem _ kw_212)) (hts (.static Lib.Math.max.name) (List.mem_cons_of_mem _ kw_102)) (hts (.initialized "java/lang/Math") (List.mem_cons_of_mem _ kw_103)) (hts (.code Lib.Math.max.name Lib.Math.max.code 2 (some .int)) (List.mem_cons_of_mem _ kw_104)) (Nat.le_of_ble_eq_true rfl) (Nat.le_of_ble_eq_true rfl) (Nat.le_of_ble_eq_true rfl) (Nat.le_of_ble_eq_true rfl) dX11_others_137 ?_
        refine lv_topi (fun tv_137 etv_137 => ?_)
        refine g_iast hx hb hK hP hD hS 2 0 rfl rfl cv (nI_clamp (Nat.lt_trans (show cv < 4 from by omega) (by decide))) (vp_in_nI (by omega) (by decide)) dX11_others_140 (fun H locs hP hD hS => ?_)
        have hP : va_P (dC, dI) vwCl [(h, .inr (10, mdF qa x0 x2 x3 x4 x13 x14 x15 x16 x17 x18 x19 x20 x21 x22 x23 x24 x26 x27 x28)), (qa 32, .inl (cI, 4, .inl g32)), (qa 34, .inl (cI, 4, .inl (upd jb34 cv tv_137))), (qa 36, .inl (cI, 4, .inl g36)), (qa 37, .inl (cI, 4, .inl g37))] H := hP
        have hD : va_D A [(h, .inr (10, mdF qa x0 x2 x3 x4 x13 x14 x15 x16 x17 x18 x19 x20 x21 x22 x23 x24 x26 x27 x28)), (qa 32, .inl (cI, 4, .inl g32)), (qa 34, .inl (cI, 4, .inl (upd jb34 cv tv_137))), (qa 36, .inl (cI, 4, .inl g36)), (qa 37, .inl (cI, 4, .inl g37))] := hD
        obtain ⟨u34_140, r_u34_140, eu34_140⟩ : ∃ ff : Nat → Int32, rg 4 0 856 ff ∧ ff = upd jb34 cv tv_137 := ⟨upd jb34 cv tv_137, rg_upd2 r_jb34 (mx_rg etv_137 (nI_rg (by omega) (by omega) (by omega)) (by rw [etv_136]; exact Int.le_trans (sub_le (by omega) (by omega)) (by omega))), rfl⟩
        rw [← eu34_140] at hP hD
        exact LP141 u34_140 (r_u34_140) _ _ hP hD hS _ (lv_sub hl [0, 1, 2, 3, 4] rfl)
      refine lv_aload_n hx hb dX11_others_82 rfl (lv_at hl 2 rfl) ?_
      refine va_get (D := (dC, dI)) (ci := 10) (v := .ref (qa 34)) (C := RX11) (T := TX11) (N := 53) hx hb hts iwX11 hown hK hP 0 rfl rfl 34 (by decide) (hts (.fieldLink RX11 65 "ModulePlayerModel" "period" "[I") (List.mem_cons_of_mem _ kw_190)) (fun _ h9 => h9) rfl dX11_others_83 ?_
      refine lv_iload_n hx hb dX11_others_86 rfl (lv_at hl 3 rfl) ?_
      refine lv_aload_n hx hb dX11_others_87 rfl (lv_at hl 2 rfl) ?_
      refine va_get (D := (dC, dI)) (ci := 10) (v := .ref (qa 36)) (C := RX11) (T := TX11) (N := 53) hx hb hts iwX11 hown hK hP 0 rfl rfl 36 (by decide) (hts (.fieldLink RX11 71 "ModulePlayerModel" "target" "[I") (List.mem_cons_of_mem _ kw_192)) (fun _ h9 => h9) rfl dX11_others_88 ?_
      refine lv_iload_n hx hb dX11_others_91 rfl (lv_at hl 3 rfl) ?_
      refine g_iald hx hb hK hP 3 0 rfl rfl cv (nI_clamp (Nat.lt_trans (show cv < 4 from by omega) (by decide))) (vp_in_nI (by omega) (by decide)) dX11_others_92 ?_
      obtain ⟨jn_92, hjn_92, ejn_92⟩ := rg_nat (kx := cv) (mx := 856) r_g36 (by omega) rfl
      refine g_topi (y := nI jn_92) ejn_92 ?_
      refine lv_aload_n hx hb dX11_others_93 rfl (lv_at hl 2 rfl) ?_
      refine va_get (D := (dC, dI)) (ci := 10) (v := .ref (qa 34)) (C := RX11) (T := TX11) (N := 53) hx hb hts iwX11 hown hK hP 0 rfl rfl 34 (by decide) (hts (.fieldLink RX11 65 "ModulePlayerModel" "period" "[I") (List.mem_cons_of_mem _ kw_190)) (fun _ h9 => h9) rfl dX11_others_94 ?_
      refine lv_iload_n hx hb dX11_others_97 rfl (lv_at hl 3 rfl) ?_
      refine g_iald hx hb hK hP 2 0 rfl rfl cv (nI_clamp (Nat.lt_trans (show cv < 4 from by omega) (by decide))) (vp_in_nI (by omega) (by decide)) dX11_others_98 ?_
      obtain ⟨jn_98, hjn_98, ejn_98⟩ := rg_nat (kx := cv) (mx := 856) r_jb34 (by omega) rfl
      refine g_topi (y := nI jn_98) ejn_98 ?_
      refine lv_aload_n hx hb dX11_others_99 rfl (lv_at hl 2 rfl) ?_
      refine va_get (D := (dC, dI)) (ci := 10) (v := .ref (qa 37)) (C := RX11) (T := TX11) (N := 53) hx hb hts iwX11 hown hK hP 0 rfl rfl 37 (by decide) (hts (.fieldLink RX11 74 "ModulePlayerModel" "porta" "[I") (List.mem_cons_of_mem _ kw_193)) (fun _ h9 => h9) rfl dX11_others_100 ?_
      refine lv_iload_n hx hb dX11_others_103 rfl (lv_at hl 3 rfl) ?_
      refine g_iald hx hb hK hP 4 0 rfl rfl cv (nI_clamp (Nat.lt_trans (show cv < 4 from by omega) (by decide))) (vp_in_nI (by omega) (by decide)) dX11_others_104 ?_
      obtain ⟨jn_104, hjn_104, ejn_104⟩ := rg_nat (kx := cv) (mx := 255) r_g37 (by omega) rfl
      refine g_topi (y := nI jn_104) ejn_104 ?_
      refine lv_iadd hx hb dX11_others_105 ?_
      refine lv_topi (fun tv_105 etv_105 => ?_)
      refine va_mmin hx hb (by rw [hml]; exact hl.1.symm) hown (hts (.methodLink RX11 123 Lib.Math.min.name) (List.mem_cons_of_mem _ kw_209)) (hts (.static Lib.Math.min.name) (List.mem_cons_of_mem _ kw_210)) (hts (.initialized "java/lang/Math") (List.mem_cons_of_mem _ kw_103)) (hts (.code Lib.Math.min.name Lib.Math.min.code 2 (some .int)) (List.mem_cons_of_mem _ kw_211)) (Nat.le_of_ble_eq_true rfl) (Nat.le_of_ble_eq_true rfl) (Nat.le_of_ble_eq_true rfl) (Nat.le_of_ble_eq_true rfl) dX11_others_106 ?_
      refine lv_topi (fun tv_106 etv_106 => ?_)
      refine g_iast hx hb hK hP hD hS 2 0 rfl rfl cv (nI_clamp (Nat.lt_trans (show cv < 4 from by omega) (by decide))) (vp_in_nI (by omega) (by decide)) dX11_others_109 (fun H locs hP hD hS => ?_)
      have hP : va_P (dC, dI) vwCl [(h, .inr (10, mdF qa x0 x2 x3 x4 x13 x14 x15 x16 x17 x18 x19 x20 x21 x22 x23 x24 x26 x27 x28)), (qa 32, .inl (cI, 4, .inl g32)), (qa 34, .inl (cI, 4, .inl (upd jb34 cv tv_106))), (qa 36, .inl (cI, 4, .inl g36)), (qa 37, .inl (cI, 4, .inl g37))] H := hP
      have hD : va_D A [(h, .inr (10, mdF qa x0 x2 x3 x4 x13 x14 x15 x16 x17 x18 x19 x20 x21 x22 x23 x24 x26 x27 x28)), (qa 32, .inl (cI, 4, .inl g32)), (qa 34, .inl (cI, 4, .inl (upd jb34 cv tv_106))), (qa 36, .inl (cI, 4, .inl g36)), (qa 37, .inl (cI, 4, .inl g37))] := hD
      obtain ⟨u34_109, r_u34_109, eu34_109⟩ : ∃ ff : Nat → Int32, rg 4 0 856 ff ∧ ff = upd jb34 cv tv_106 := ⟨upd jb34 cv tv_106, rg_upd2 r_jb34 (mn_rg etv_106 (nI_rg (by omega) (by omega) (by omega)) (by rw [etv_105, nI_add, nI_toInt (by omega)]; omega)), rfl⟩
      rw [← eu34_109] at hP hD
      refine lv_goto (tgt := 141) hx hb dX11_others_110 (by decide) ?_
      exact LP141 u34_109 (r_u34_109) _ _ hP hD hS _ (lv_sub hl [0, 1, 2, 3, 4] rfl)
    refine lv_iload hx hb dX11_others_25 (lv_at hl 0 rfl) ?_
    refine lv_iconst (v := 2) hx hb dX11_others_27 (by decide) ?_
    refine lv_icmp_ne (tgt := 37) hx hb dX11_others_28 (by decide) (fun c_28 => ?_) (fun c_28 => ?_)
    · exact LP37 ja34 (r_ja34) _ _ hP hD hS _ (lv_sub hl [0, 1, 2, 3, 4] rfl)
    refine lv_aload_n hx hb dX11_others_31 rfl (lv_at hl 2 rfl) ?_
    refine lv_iload_n hx hb dX11_others_32 rfl (lv_at hl 3 rfl) ?_
    refine lv_iload_n hx hb dX11_others_33 rfl (lv_at hl 1 rfl) ?_
    refine g_callv (wr := [(qa 32, .inl (cI, 4, .inl g32)), (qa 36, .inl (cI, 4, .inl g36)), (qa 37, .inl (cI, 4, .inl g37))]) (va_runV (As := [.int (nI cv), .int tv_4]) (rest := []) ⟨hx, hb, hml, hown, hts⟩ (m_periodBy l dC dI H.size h qa x0 x2 x3 x4 x13 x14 x15 x16 x17 x18 x19 x20 x21 x22 x23 x24 x26 x27 x28 cI ja34 cv tv_4 (hcv) (r_ja34)) (cwV 2 hts (gG_V kw_895 kw_896 kw_897 kw_5 kw_898) rfl rfl rfl (by decide +kernel) ⟨Nat.le_of_ble_eq_true rfl, Nat.le_of_ble_eq_true rfl⟩) (g_preV (C := RX11) (T := TX11) (N := 53) hP hD hK hS hA hN hZ (q0 := 0) rfl rfl [0, 2] (by decide +kernel) rfl [0] rfl) rfl rfl hl.1 rfl (lv_room (Nat.le_of_ble_eq_true rfl)) dX11_others_34 ⟨Nat.le_of_ble_eq_true rfl, Nat.le_of_ble_eq_true rfl⟩) hP hD hK hS hA [0, 2] [1, 3, 4] rfl rfl (by decide +kernel) (by decide +kernel) (fun w ty1 H locs hw_34 hP hD _ hS => ?_)
    rcases hw_34 with ⟨k34_34, hu, r_k34_34⟩
    cases hu
    have hP : va_P (dC, dI) vwCl [(qa 32, .inl (cI, 4, .inl g32)), (qa 36, .inl (cI, 4, .inl g36)), (qa 37, .inl (cI, 4, .inl g37)), (h, .inr (10, mdF qa x0 x2 x3 x4 x13 x14 x15 x16 x17 x18 x19 x20 x21 x22 x23 x24 x26 x27 x28)), (qa 34, .inl (cI, 4, .inl k34_34))] H := hP
    have hD : va_D A [(qa 32, .inl (cI, 4, .inl g32)), (qa 36, .inl (cI, 4, .inl g36)), (qa 37, .inl (cI, 4, .inl g37)), (h, .inr (10, mdF qa x0 x2 x3 x4 x13 x14 x15 x16 x17 x18 x19 x20 x21 x22 x23 x24 x26 x27 x28)), (qa 34, .inl (cI, 4, .inl k34_34))] := hD
    exact LP37 k34_34 (r_k34_34) _ _ (hP.sub [3, 0, 4, 1, 2] rfl) (hD.sub [3, 0, 4, 1, 2] (by decide +kernel) rfl) hS _ (lv_sub hl [0, 1, 2, 3, 4] rfl)
  refine lv_iload hx hb dX11_others_12 (lv_at hl 0 rfl) ?_
  refine lv_iconst (v := 1) hx hb dX11_others_14 (by decide) ?_
  refine lv_icmp_ne (tgt := 25) hx hb dX11_others_15 (by decide) (fun c_15 => ?_) (fun c_15 => ?_)
  · exact LP25 g34 (r_g34) _ _ hP hD hS _ (lv_sub hl [0, 1, 2, 3, 4] rfl)
  refine lv_aload_n hx hb dX11_others_18 rfl (lv_at hl 2 rfl) ?_
  refine lv_iload_n hx hb dX11_others_19 rfl (lv_at hl 3 rfl) ?_
  refine lv_iload_n hx hb dX11_others_20 rfl (lv_at hl 1 rfl) ?_
  refine lv_ineg hx hb dX11_others_21 ?_
  refine lv_topi (fun tv_21 etv_21 => ?_)
  refine g_callv (wr := [(qa 32, .inl (cI, 4, .inl g32)), (qa 36, .inl (cI, 4, .inl g36)), (qa 37, .inl (cI, 4, .inl g37))]) (va_runV (As := [.int (nI cv), .int tv_21]) (rest := []) ⟨hx, hb, hml, hown, hts⟩ (m_periodBy l dC dI H.size h qa x0 x2 x3 x4 x13 x14 x15 x16 x17 x18 x19 x20 x21 x22 x23 x24 x26 x27 x28 cI g34 cv tv_21 (hcv) (r_g34)) (cwV 2 hts (gG_V kw_895 kw_896 kw_897 kw_5 kw_898) rfl rfl rfl (by decide +kernel) ⟨Nat.le_of_ble_eq_true rfl, Nat.le_of_ble_eq_true rfl⟩) (g_preV (C := RX11) (T := TX11) (N := 53) hP hD hK hS hA hN hZ (q0 := 0) rfl rfl [0, 2] (by decide +kernel) rfl [0] rfl) rfl rfl hl.1 rfl (lv_room (Nat.le_of_ble_eq_true rfl)) dX11_others_22 ⟨Nat.le_of_ble_eq_true rfl, Nat.le_of_ble_eq_true rfl⟩) hP hD hK hS hA [0, 2] [1, 3, 4] rfl rfl (by decide +kernel) (by decide +kernel) (fun w ty1 H locs hw_22 hP hD _ hS => ?_)
  rcases hw_22 with ⟨k34_22, hu, r_k34_22⟩
  cases hu
  have hP : va_P (dC, dI) vwCl [(qa 32, .inl (cI, 4, .inl g32)), (qa 36, .inl (cI, 4, .inl g36)), (qa 37, .inl (cI, 4, .inl g37)), (h, .inr (10, mdF qa x0 x2 x3 x4 x13 x14 x15 x16 x17 x18 x19 x20 x21 x22 x23 x24 x26 x27 x28)), (qa 34, .inl (cI, 4, .inl k34_22))] H := hP
  have hD : va_D A [(qa 32, .inl (cI, 4, .inl g32)), (qa 36, .inl (cI, 4, .inl g36)), (qa 37, .inl (cI, 4, .inl g37)), (h, .inr (10, mdF qa x0 x2 x3 x4 x13 x14 x15 x16 x17 x18 x19 x20 x21 x22 x23 x24 x26 x27 x28)), (qa 34, .inl (cI, 4, .inl k34_22))] := hD
  exact LP25 k34_22 (r_k34_22) _ _ (hP.sub [3, 0, 4, 1, 2] rfl) (hD.sub [3, 0, 4, 1, 2] (by decide +kernel) rfl) hS _ (lv_sub hl [0, 1, 2, 3, 4] rfl)

set_option maxHeartbeats 400000 in
set_option maxRecDepth 100000 in
theorem m_reckons (l : Launch) (dC : Nat → ClassId) (dI : Nat → Nat → Nat) (sz : Nat) (h : Nat) (qa : Nat → Nat) (x0 x2 x3 x4 x13 x14 x15 x16 x17 x18 x19 x20 x21 x22 x23 x24 x26 x27 x28 : Int32) (cI : ClassId) (g32 g34 g35 g38 g39 g40 g41 g42 g43 g48 g49 : Nat → Int32) (cv : Nat) (v : Int32) (hcv : cv < 4) (r_g34 : rg 4 0 856 g34) (r_g48 : rg 4 0 2147483647 g48) : Met l yX11_reckons (wsG (.code yX11_reckons cX11_reckons 7 none)) ({ frames := 2, cells := 0, slots := 0, locals := 36 }) (va_Pc [.ref h, .int (nI cv), .int v] (gP (dC, dI) [(cI, .int)] [(h, .inr (10, mdF qa x0 x2 x3 x4 x13 x14 x15 x16 x17 x18 x19 x20 x21 x22 x23 x24 x26 x27 x28)), (qa 32, .inl (cI, 4, .inl g32)), (qa 34, .inl (cI, 4, .inl g34)), (qa 35, .inl (cI, 4, .inl g35)), (qa 38, .inl (cI, 4, .inl g38)), (qa 39, .inl (cI, 4, .inl g39)), (qa 40, .inl (cI, 4, .inl g40)), (qa 41, .inl (cI, 4, .inl g41)), (qa 42, .inl (cI, 4, .inl g42)), (qa 43, .inl (cI, 4, .inl g43)), (qa 48, .inl (cI, 4, .inl g48)), (qa 49, .inl (cI, 4, .inl g49))] sz)) (va_Qv (fun u : va_W × gT => ∃ (k39 : Nat → Int32) (k42 : Nat → Int32) (k48 : Nat → Int32) (k49 : Nat → Int32), u = ([(h, .inr (10, mdF qa x0 x2 x3 x4 x13 x14 x15 x16 x17 x18 x19 x20 x21 x22 x23 x24 x26 x27 x28)), (qa 32, .inl (cI, 4, .inl g32)), (qa 34, .inl (cI, 4, .inl g34)), (qa 35, .inl (cI, 4, .inl g35)), (qa 38, .inl (cI, 4, .inl g38)), (qa 39, .inl (cI, 4, .inl k39)), (qa 40, .inl (cI, 4, .inl g40)), (qa 41, .inl (cI, 4, .inl g41)), (qa 42, .inl (cI, 4, .inl k42)), (qa 43, .inl (cI, 4, .inl g43)), (qa 48, .inl (cI, 4, .inl k48)), (qa 49, .inl (cI, 4, .inl k49))], []) ∧ rg 4 0 2147483647 k48) (gB (dC, dI) (va_A [(h, .inr (10, mdF qa x0 x2 x3 x4 x13 x14 x15 x16 x17 x18 x19 x20 x21 x22 x23 x24 x26 x27 x28)), (qa 32, .inl (cI, 4, .inl g32)), (qa 34, .inl (cI, 4, .inl g34)), (qa 35, .inl (cI, 4, .inl g35)), (qa 38, .inl (cI, 4, .inl g38)), (qa 39, .inl (cI, 4, .inl g39)), (qa 40, .inl (cI, 4, .inl g40)), (qa 41, .inl (cI, 4, .inl g41)), (qa 42, .inl (cI, 4, .inl g42)), (qa 43, .inl (cI, 4, .inl g43)), (qa 48, .inl (cI, 4, .inl g48)), (qa 49, .inl (cI, 4, .inl g49))] sz)) (va_A [(h, .inr (10, mdF qa x0 x2 x3 x4 x13 x14 x15 x16 x17 x18 x19 x20 x21 x22 x23 x24 x26 x27 x28)), (qa 32, .inl (cI, 4, .inl g32)), (qa 34, .inl (cI, 4, .inl g34)), (qa 35, .inl (cI, 4, .inl g35)), (qa 38, .inl (cI, 4, .inl g38)), (qa 39, .inl (cI, 4, .inl g39)), (qa 40, .inl (cI, 4, .inl g40)), (qa 41, .inl (cI, 4, .inl g41)), (qa 42, .inl (cI, 4, .inl g42)), (qa 43, .inl (cI, 4, .inl g43)), (qa 48, .inl (cI, 4, .inl g48)), (qa 49, .inl (cI, 4, .inl g49))] sz)) 0 0 (va_A [(h, .inr (10, mdF qa x0 x2 x3 x4 x13 x14 x15 x16 x17 x18 x19 x20 x21 x22 x23 x24 x26 x27 x28)), (qa 32, .inl (cI, 4, .inl g32)), (qa 34, .inl (cI, 4, .inl g34)), (qa 35, .inl (cI, 4, .inl g35)), (qa 38, .inl (cI, 4, .inl g38)), (qa 39, .inl (cI, 4, .inl g39)), (qa 40, .inl (cI, 4, .inl g40)), (qa 41, .inl (cI, 4, .inl g41)), (qa 42, .inl (cI, 4, .inl g42)), (qa 43, .inl (cI, 4, .inl g43)), (qa 48, .inl (cI, 4, .inl g48)), (qa 49, .inl (cI, 4, .inl g49))] sz) := by
  refine Met.ofW (cc := cX11_reckons) (maxL := 7) (ret := none) (by decide) rfl ?_
  intro p e s m args below meth c s₁ B hml hv
  obtain ⟨rfl, hsz, hP, hK, hD0, hN, hZ⟩ := hv
  have hx := B.exec
  have hb := B.bytes
  have hr := B.returns
  have hts := atoms_spec (ws := (wsG (.code yX11_reckons cX11_reckons 7 none))) B.pre
  have hown : s.vm.findClass RX11 = some m.cls := findClass_of_methodNamed B.named
  have hlocks := B.notSynchronized
  subst hsz
  have hD := hD0.self (sz := s.heap.size)
  generalize hAe : va_A [(h, .inr (10, mdF qa x0 x2 x3 x4 x13 x14 x15 x16 x17 x18 x19 x20 x21 x22 x23 x24 x26 x27 x28)), (qa 32, .inl (cI, 4, .inl g32)), (qa 34, .inl (cI, 4, .inl g34)), (qa 35, .inl (cI, 4, .inl g35)), (qa 38, .inl (cI, 4, .inl g38)), (qa 39, .inl (cI, 4, .inl g39)), (qa 40, .inl (cI, 4, .inl g40)), (qa 41, .inl (cI, 4, .inl g41)), (qa 42, .inl (cI, 4, .inl g42)), (qa 43, .inl (cI, 4, .inl g43)), (qa 48, .inl (cI, 4, .inl g48)), (qa 49, .inl (cI, 4, .inl g49))] s.heap.size = A at hD hZ ⊢
  have hA : ∀ q : Nat, s.heap.size ≤ q → A q := fun q h => by rw [← hAe]; exact Or.inr h
  have hl := lv_entry ([.ref h, .int (nI cv), .int v]) (n := 7) (Nat.le_of_ble_eq_true rfl)
  rw [lg_entry_eq]
  generalize (lg_sl ([.ref h, .int (nI cv), .int v]) ++ List.replicate (7 - (lg_sl ([.ref h, .int (nI cv), .int v])).length) Slot.unset).toArray = ls at hl ⊢
  have hl : lv_has ls 7 [(0, .ref h), (1, .int (nI cv)), (2, .int v)] := hl
  refine g_start (A := A) hP (fun H locs hP hS => ?_)
  refine lv_aload_n hx hb dX11_reckons_0 rfl (lv_at hl 0 rfl) ?_
  refine va_get (D := (dC, dI)) (ci := 10) (v := .ref (qa 48)) (C := RX11) (T := TX11) (N := 53) hx hb hts iwX11 hown hK hP 0 rfl rfl 48 (by decide) (hts (.fieldLink RX11 107 "ModulePlayerModel" "soundPeriod" "[I") (List.mem_cons_of_mem _ kw_204)) (fun _ h9 => h9) rfl dX11_reckons_1 ?_
  refine lv_iload_n hx hb dX11_reckons_4 rfl (lv_at hl 1 rfl) ?_
  refine lv_aload_n hx hb dX11_reckons_5 rfl (lv_at hl 0 rfl) ?_
  refine va_get (D := (dC, dI)) (ci := 10) (v := .ref (qa 34)) (C := RX11) (T := TX11) (N := 53) hx hb hts iwX11 hown hK hP 0 rfl rfl 34 (by decide) (hts (.fieldLink RX11 65 "ModulePlayerModel" "period" "[I") (List.mem_cons_of_mem _ kw_190)) (fun _ h9 => h9) rfl dX11_reckons_6 ?_
  refine lv_iload_n hx hb dX11_reckons_9 rfl (lv_at hl 1 rfl) ?_
  refine g_iald hx hb hK hP 2 0 rfl rfl cv (nI_clamp (Nat.lt_trans (show cv < 4 from by omega) (by decide))) (vp_in_nI (by omega) (by decide)) dX11_reckons_10 ?_
  obtain ⟨jn_10, hjn_10, ejn_10⟩ := rg_nat (kx := cv) (mx := 856) r_g34 (by omega) rfl
  refine g_topi (y := nI jn_10) ejn_10 ?_
  refine g_iast hx hb hK hP hD hS 10 0 rfl rfl cv (nI_clamp (Nat.lt_trans (show cv < 4 from by omega) (by decide))) (vp_in_nI (by omega) (by decide)) dX11_reckons_11 (fun H locs hP hD hS => ?_)
  have hP : va_P (dC, dI) vwCl [(h, .inr (10, mdF qa x0 x2 x3 x4 x13 x14 x15 x16 x17 x18 x19 x20 x21 x22 x23 x24 x26 x27 x28)), (qa 32, .inl (cI, 4, .inl g32)), (qa 34, .inl (cI, 4, .inl g34)), (qa 35, .inl (cI, 4, .inl g35)), (qa 38, .inl (cI, 4, .inl g38)), (qa 39, .inl (cI, 4, .inl g39)), (qa 40, .inl (cI, 4, .inl g40)), (qa 41, .inl (cI, 4, .inl g41)), (qa 42, .inl (cI, 4, .inl g42)), (qa 43, .inl (cI, 4, .inl g43)), (qa 48, .inl (cI, 4, .inl (upd g48 cv (nI jn_10)))), (qa 49, .inl (cI, 4, .inl g49))] H := hP
  have hD : va_D A [(h, .inr (10, mdF qa x0 x2 x3 x4 x13 x14 x15 x16 x17 x18 x19 x20 x21 x22 x23 x24 x26 x27 x28)), (qa 32, .inl (cI, 4, .inl g32)), (qa 34, .inl (cI, 4, .inl g34)), (qa 35, .inl (cI, 4, .inl g35)), (qa 38, .inl (cI, 4, .inl g38)), (qa 39, .inl (cI, 4, .inl g39)), (qa 40, .inl (cI, 4, .inl g40)), (qa 41, .inl (cI, 4, .inl g41)), (qa 42, .inl (cI, 4, .inl g42)), (qa 43, .inl (cI, 4, .inl g43)), (qa 48, .inl (cI, 4, .inl (upd g48 cv (nI jn_10)))), (qa 49, .inl (cI, 4, .inl g49))] := hD
  obtain ⟨u48_11, r_u48_11, eu48_11⟩ : ∃ ff : Nat → Int32, rg 4 0 2147483647 ff ∧ ff = upd g48 cv (nI jn_10) := ⟨upd g48 cv (nI jn_10), rg_upd2 r_g48 (nI_rg (by omega) (by omega) (by omega)), rfl⟩
  rw [← eu48_11] at hP hD
  refine lv_aload_n hx hb dX11_reckons_12 rfl (lv_at hl 0 rfl) ?_
  refine va_get (D := (dC, dI)) (ci := 10) (v := .ref (qa 49)) (C := RX11) (T := TX11) (N := 53) hx hb hts iwX11 hown hK hP 0 rfl rfl 49 (by decide) (hts (.fieldLink RX11 110 "ModulePlayerModel" "soundVolume" "[I") (List.mem_cons_of_mem _ kw_205)) (fun _ h9 => h9) rfl dX11_reckons_13 ?_
  refine lv_iload_n hx hb dX11_reckons_16 rfl (lv_at hl 1 rfl) ?_
  refine lv_aload_n hx hb dX11_reckons_17 rfl (lv_at hl 0 rfl) ?_
  refine va_get (D := (dC, dI)) (ci := 10) (v := .ref (qa 32)) (C := RX11) (T := TX11) (N := 53) hx hb hts iwX11 hown hK hP 0 rfl rfl 32 (by decide) (hts (.fieldLink RX11 59 "ModulePlayerModel" "volume" "[I") (List.mem_cons_of_mem _ kw_188)) (fun _ h9 => h9) rfl dX11_reckons_18 ?_
  refine lv_iload_n hx hb dX11_reckons_21 rfl (lv_at hl 1 rfl) ?_
  refine g_iald hx hb hK hP 1 0 rfl rfl cv (nI_clamp (Nat.lt_trans (show cv < 4 from by omega) (by decide))) (vp_in_nI (by omega) (by decide)) dX11_reckons_22 ?_
  refine lv_topi (fun tv_22 etv_22 => ?_)
  refine g_iast hx hb hK hP hD hS 11 0 rfl rfl cv (nI_clamp (Nat.lt_trans (show cv < 4 from by omega) (by decide))) (vp_in_nI (by omega) (by decide)) dX11_reckons_23 (fun H locs hP hD hS => ?_)
  have hP : va_P (dC, dI) vwCl [(h, .inr (10, mdF qa x0 x2 x3 x4 x13 x14 x15 x16 x17 x18 x19 x20 x21 x22 x23 x24 x26 x27 x28)), (qa 32, .inl (cI, 4, .inl g32)), (qa 34, .inl (cI, 4, .inl g34)), (qa 35, .inl (cI, 4, .inl g35)), (qa 38, .inl (cI, 4, .inl g38)), (qa 39, .inl (cI, 4, .inl g39)), (qa 40, .inl (cI, 4, .inl g40)), (qa 41, .inl (cI, 4, .inl g41)), (qa 42, .inl (cI, 4, .inl g42)), (qa 43, .inl (cI, 4, .inl g43)), (qa 48, .inl (cI, 4, .inl u48_11)), (qa 49, .inl (cI, 4, .inl (upd g49 cv tv_22)))] H := hP
  have hD : va_D A [(h, .inr (10, mdF qa x0 x2 x3 x4 x13 x14 x15 x16 x17 x18 x19 x20 x21 x22 x23 x24 x26 x27 x28)), (qa 32, .inl (cI, 4, .inl g32)), (qa 34, .inl (cI, 4, .inl g34)), (qa 35, .inl (cI, 4, .inl g35)), (qa 38, .inl (cI, 4, .inl g38)), (qa 39, .inl (cI, 4, .inl g39)), (qa 40, .inl (cI, 4, .inl g40)), (qa 41, .inl (cI, 4, .inl g41)), (qa 42, .inl (cI, 4, .inl g42)), (qa 43, .inl (cI, 4, .inl g43)), (qa 48, .inl (cI, 4, .inl u48_11)), (qa 49, .inl (cI, 4, .inl (upd g49 cv tv_22)))] := hD
  generalize upd g49 cv tv_22 = u49_23 at hP hD
  refine lv_aload_n hx hb dX11_reckons_24 rfl (lv_at hl 0 rfl) ?_
  refine va_get (D := (dC, dI)) (ci := 10) (v := .int x19) (C := RX11) (T := TX11) (N := 53) hx hb hts iwX11 hown hK hP 0 rfl rfl 19 (by decide) (hts (.fieldLink RX11 209 "ModulePlayerModel" "tick" "I") (List.mem_cons_of_mem _ kw_222)) (fun _ h9 => h9) rfl dX11_reckons_25 ?_
  refine lv_if_eq (tgt := 40) hx hb dX11_reckons_28 (by decide) (fun c_28 => ?_) (fun c_28 => ?_)
  · have hP9 := hP
    have hD9 := hD
    have hK9 := hK.sub (tys' := []) [] rfl
    exact W.vret hx hb hr (fun t ht hW => ⟨⟨_, rfl, ⟨g39, g42, u48_11, u49_23, rfl, r_u48_11⟩, by rw [ht]; exact hP9, va_K.moved hW.alike hK9, hD9⟩, hS.F ht⟩) hS.2.2 dX11_reckons_40
  refine lv_aload_n hx hb dX11_reckons_31 rfl (lv_at hl 0 rfl) ?_
  refine va_get (D := (dC, dI)) (ci := 10) (v := .ref (qa 34)) (C := RX11) (T := TX11) (N := 53) hx hb hts iwX11 hown hK hP 0 rfl rfl 34 (by decide) (hts (.fieldLink RX11 65 "ModulePlayerModel" "period" "[I") (List.mem_cons_of_mem _ kw_190)) (fun _ h9 => h9) rfl dX11_reckons_32 ?_
  refine lv_iload_n hx hb dX11_reckons_35 rfl (lv_at hl 1 rfl) ?_
  refine g_iald hx hb hK hP 2 0 rfl rfl cv (nI_clamp (Nat.lt_trans (show cv < 4 from by omega) (by decide))) (vp_in_nI (by omega) (by decide)) dX11_reckons_36 ?_
  obtain ⟨jn_36, hjn_36, ejn_36⟩ := rg_nat (kx := cv) (mx := 856) r_g34 (by omega) rfl
  refine g_topi (y := nI jn_36) ejn_36 ?_
  refine lv_if_ne (tgt := 41) hx hb dX11_reckons_37 (by decide) (fun c_37 => ?_) (fun c_37 => ?_)
  · refine lv_iload_n hx hb dX11_reckons_41 rfl (lv_at hl 2 rfl) ?_
    refine g_calli (wr := [(h, .inr (10, mdF qa x0 x2 x3 x4 x13 x14 x15 x16 x17 x18 x19 x20 x21 x22 x23 x24 x26 x27 x28)), (qa 32, .inl (cI, 4, .inl g32)), (qa 34, .inl (cI, 4, .inl g34)), (qa 35, .inl (cI, 4, .inl g35)), (qa 38, .inl (cI, 4, .inl g38)), (qa 39, .inl (cI, 4, .inl g39)), (qa 40, .inl (cI, 4, .inl g40)), (qa 41, .inl (cI, 4, .inl g41)), (qa 42, .inl (cI, 4, .inl g42)), (qa 43, .inl (cI, 4, .inl g43)), (qa 48, .inl (cI, 4, .inl u48_11)), (qa 49, .inl (cI, 4, .inl u49_23))]) (va_runS (As := [.int v]) (rest := []) ⟨hx, hb, hml, hown, hts⟩ (m_effect l dC dI H.size v ) (va_cwS 1 hts (gG_S kw_859 kw_860 kw_5 kw_861) rfl rfl rfl (by decide +kernel) ⟨Nat.le_of_ble_eq_true rfl, Nat.le_of_ble_eq_true rfl⟩) (g_preS hP hD hK hS hA hN hZ [] (by decide) rfl [] rfl) rfl rfl hl.1 rfl (lv_room (Nat.le_of_ble_eq_true rfl)) dX11_reckons_42 ⟨Nat.le_of_ble_eq_true rfl, Nat.le_of_ble_eq_true rfl⟩) hP hD hK hS hA [] [0, 1, 2, 3, 4, 5, 6, 7, 8, 9, 10, 11] rfl rfl (by decide +kernel) (by decide +kernel) (fun r_42 w ty1 H locs hw_42 hP hD _ hS => ?_)
    rcases hw_42 with ⟨hu, hr_42⟩
    cases hu
    have hP : va_P (dC, dI) vwCl [(h, .inr (10, mdF qa x0 x2 x3 x4 x13 x14 x15 x16 x17 x18 x19 x20 x21 x22 x23 x24 x26 x27 x28)), (qa 32, .inl (cI, 4, .inl g32)), (qa 34, .inl (cI, 4, .inl g34)), (qa 35, .inl (cI, 4, .inl g35)), (qa 38, .inl (cI, 4, .inl g38)), (qa 39, .inl (cI, 4, .inl g39)), (qa 40, .inl (cI, 4, .inl g40)), (qa 41, .inl (cI, 4, .inl g41)), (qa 42, .inl (cI, 4, .inl g42)), (qa 43, .inl (cI, 4, .inl g43)), (qa 48, .inl (cI, 4, .inl u48_11)), (qa 49, .inl (cI, 4, .inl u49_23))] H := hP
    have hD : va_D A [(h, .inr (10, mdF qa x0 x2 x3 x4 x13 x14 x15 x16 x17 x18 x19 x20 x21 x22 x23 x24 x26 x27 x28)), (qa 32, .inl (cI, 4, .inl g32)), (qa 34, .inl (cI, 4, .inl g34)), (qa 35, .inl (cI, 4, .inl g35)), (qa 38, .inl (cI, 4, .inl g38)), (qa 39, .inl (cI, 4, .inl g39)), (qa 40, .inl (cI, 4, .inl g40)), (qa 41, .inl (cI, 4, .inl g41)), (qa 42, .inl (cI, 4, .inl g42)), (qa 43, .inl (cI, 4, .inl g43)), (qa 48, .inl (cI, 4, .inl u48_11)), (qa 49, .inl (cI, 4, .inl u49_23))] := hD
    refine g_topi (y := (v >>> (8 &&& 31)) &&& 15) hr_42 ?_
    refine lv_istore_n (lv' := [(3, .int ((v >>> (8 &&& 31)) &&& 15)), (0, .ref h), (1, .int (nI cv)), (2, .int v)]) hx hb dX11_reckons_45 rfl hl (by decide) rfl (fun ls hl => ?_)
    have LP139 : ∀ (ja48 : Nat → Int32) (r_ja48 : rg 4 0 2147483647 ja48) (H : Heap) (locs : List Loc), va_P (dC, dI) vwCl [(h, .inr (10, mdF qa x0 x2 x3 x4 x13 x14 x15 x16 x17 x18 x19 x20 x21 x22 x23 x24 x26 x27 x28)), (qa 32, .inl (cI, 4, .inl g32)), (qa 34, .inl (cI, 4, .inl g34)), (qa 35, .inl (cI, 4, .inl g35)), (qa 38, .inl (cI, 4, .inl g38)), (qa 39, .inl (cI, 4, .inl g39)), (qa 40, .inl (cI, 4, .inl g40)), (qa 41, .inl (cI, 4, .inl g41)), (qa 42, .inl (cI, 4, .inl g42)), (qa 43, .inl (cI, 4, .inl g43)), (qa 48, .inl (cI, 4, .inl ja48)), (qa 49, .inl (cI, 4, .inl u49_23))] H → va_D A [(h, .inr (10, mdF qa x0 x2 x3 x4 x13 x14 x15 x16 x17 x18 x19 x20 x21 x22 x23 x24 x26 x27 x28)), (qa 32, .inl (cI, 4, .inl g32)), (qa 34, .inl (cI, 4, .inl g34)), (qa 35, .inl (cI, 4, .inl g35)), (qa 38, .inl (cI, 4, .inl g38)), (qa 39, .inl (cI, 4, .inl g39)), (qa 40, .inl (cI, 4, .inl g40)), (qa 41, .inl (cI, 4, .inl g41)), (qa 42, .inl (cI, 4, .inl g42)), (qa 43, .inl (cI, 4, .inl g43)), (qa 48, .inl (cI, 4, .inl ja48)), (qa 49, .inl (cI, 4, .inl u49_23))] → va_S A s.heap H locs → ∀ ls : Array Slot, lv_has ls 7 [(3, .int ((v >>> (8 &&& 31)) &&& 15)), (0, .ref h), (1, .int (nI cv)), (2, .int v)] → W p l e ({ frames := 2, cells := 0, slots := 0, locals := 36 }) s m ([.ref h, .int (nI cv), .int v] : List Value).toArray below meth c H locs (0) (0) (MQ below (va_Qv (fun u : va_W × gT => ∃ (k39 : Nat → Int32) (k42 : Nat → Int32) (k48 : Nat → Int32) (k49 : Nat → Int32), u = ([(h, .inr (10, mdF qa x0 x2 x3 x4 x13 x14 x15 x16 x17 x18 x19 x20 x21 x22 x23 x24 x26 x27 x28)), (qa 32, .inl (cI, 4, .inl g32)), (qa 34, .inl (cI, 4, .inl g34)), (qa 35, .inl (cI, 4, .inl g35)), (qa 38, .inl (cI, 4, .inl g38)), (qa 39, .inl (cI, 4, .inl k39)), (qa 40, .inl (cI, 4, .inl g40)), (qa 41, .inl (cI, 4, .inl g41)), (qa 42, .inl (cI, 4, .inl k42)), (qa 43, .inl (cI, 4, .inl g43)), (qa 48, .inl (cI, 4, .inl k48)), (qa 49, .inl (cI, 4, .inl k49))], []) ∧ rg 4 0 2147483647 k48) (gB (dC, dI) A) A) ([.ref h, .int (nI cv), .int v] : List Value).toArray s 0 0 A) (F0 m 139 ls []) := by
      intro ja48 r_ja48 H locs hP hD hS ls hl
      have LP222 : ∀ (jb48 : Nat → Int32) (jb39 : Nat → Int32) (r_jb48 : rg 4 0 2147483647 jb48) (H : Heap) (locs : List Loc), va_P (dC, dI) vwCl [(h, .inr (10, mdF qa x0 x2 x3 x4 x13 x14 x15 x16 x17 x18 x19 x20 x21 x22 x23 x24 x26 x27 x28)), (qa 32, .inl (cI, 4, .inl g32)), (qa 34, .inl (cI, 4, .inl g34)), (qa 35, .inl (cI, 4, .inl g35)), (qa 38, .inl (cI, 4, .inl g38)), (qa 39, .inl (cI, 4, .inl jb39)), (qa 40, .inl (cI, 4, .inl g40)), (qa 41, .inl (cI, 4, .inl g41)), (qa 42, .inl (cI, 4, .inl g42)), (qa 43, .inl (cI, 4, .inl g43)), (qa 48, .inl (cI, 4, .inl jb48)), (qa 49, .inl (cI, 4, .inl u49_23))] H → va_D A [(h, .inr (10, mdF qa x0 x2 x3 x4 x13 x14 x15 x16 x17 x18 x19 x20 x21 x22 x23 x24 x26 x27 x28)), (qa 32, .inl (cI, 4, .inl g32)), (qa 34, .inl (cI, 4, .inl g34)), (qa 35, .inl (cI, 4, .inl g35)), (qa 38, .inl (cI, 4, .inl g38)), (qa 39, .inl (cI, 4, .inl jb39)), (qa 40, .inl (cI, 4, .inl g40)), (qa 41, .inl (cI, 4, .inl g41)), (qa 42, .inl (cI, 4, .inl g42)), (qa 43, .inl (cI, 4, .inl g43)), (qa 48, .inl (cI, 4, .inl jb48)), (qa 49, .inl (cI, 4, .inl u49_23))] → va_S A s.heap H locs → ∀ ls : Array Slot, lv_has ls 7 [(3, .int ((v >>> (8 &&& 31)) &&& 15)), (0, .ref h), (1, .int (nI cv)), (2, .int v)] → W p l e ({ frames := 2, cells := 0, slots := 0, locals := 36 }) s m ([.ref h, .int (nI cv), .int v] : List Value).toArray below meth c H locs (0) (0) (MQ below (va_Qv (fun u : va_W × gT => ∃ (k39 : Nat → Int32) (k42 : Nat → Int32) (k48 : Nat → Int32) (k49 : Nat → Int32), u = ([(h, .inr (10, mdF qa x0 x2 x3 x4 x13 x14 x15 x16 x17 x18 x19 x20 x21 x22 x23 x24 x26 x27 x28)), (qa 32, .inl (cI, 4, .inl g32)), (qa 34, .inl (cI, 4, .inl g34)), (qa 35, .inl (cI, 4, .inl g35)), (qa 38, .inl (cI, 4, .inl g38)), (qa 39, .inl (cI, 4, .inl k39)), (qa 40, .inl (cI, 4, .inl g40)), (qa 41, .inl (cI, 4, .inl g41)), (qa 42, .inl (cI, 4, .inl k42)), (qa 43, .inl (cI, 4, .inl g43)), (qa 48, .inl (cI, 4, .inl k48)), (qa 49, .inl (cI, 4, .inl k49))], []) ∧ rg 4 0 2147483647 k48) (gB (dC, dI) A) A) ([.ref h, .int (nI cv), .int v] : List Value).toArray s 0 0 A) (F0 m 222 ls []) := by
        intro jb48 jb39 r_jb48 H locs hP hD hS ls hl
        refine lv_iload_n hx hb dX11_reckons_222 rfl (lv_at hl 0 rfl) ?_
        refine lv_bipush (v := 7) hx hb dX11_reckons_223 (by decide) ?_
        refine lv_icmp_ne (tgt := 300) hx hb dX11_reckons_225 (by decide) (fun c_225 => ?_) (fun c_225 => ?_)
        · have hP9 := hP
          have hD9 := hD
          have hK9 := hK.sub (tys' := []) [] rfl
          exact W.vret hx hb hr (fun t ht hW => ⟨⟨_, rfl, ⟨jb39, g42, jb48, u49_23, rfl, r_jb48⟩, by rw [ht]; exact hP9, va_K.moved hW.alike hK9, hD9⟩, hS.F ht⟩) hS.2.2 dX11_reckons_300
        refine lv_aload_n hx hb dX11_reckons_228 rfl (lv_at hl 1 rfl) ?_
        refine va_get (D := (dC, dI)) (ci := 10) (v := .ref (qa 49)) (C := RX11) (T := TX11) (N := 53) hx hb hts iwX11 hown hK hP 0 rfl rfl 49 (by decide) (hts (.fieldLink RX11 110 "ModulePlayerModel" "soundVolume" "[I") (List.mem_cons_of_mem _ kw_205)) (fun _ h9 => h9) rfl dX11_reckons_229 ?_
        refine lv_iload_n hx hb dX11_reckons_232 rfl (lv_at hl 2 rfl) ?_
        refine lv_aload_n hx hb dX11_reckons_233 rfl (lv_at hl 1 rfl) ?_
        refine va_get (D := (dC, dI)) (ci := 10) (v := .ref (qa 32)) (C := RX11) (T := TX11) (N := 53) hx hb hts iwX11 hown hK hP 0 rfl rfl 32 (by decide) (hts (.fieldLink RX11 59 "ModulePlayerModel" "volume" "[I") (List.mem_cons_of_mem _ kw_188)) (fun _ h9 => h9) rfl dX11_reckons_234 ?_
        refine lv_iload_n hx hb dX11_reckons_237 rfl (lv_at hl 2 rfl) ?_
        refine g_iald hx hb hK hP 1 0 rfl rfl cv (nI_clamp (Nat.lt_trans (show cv < 4 from by omega) (by decide))) (vp_in_nI (by omega) (by decide)) dX11_reckons_238 ?_
        refine lv_topi (fun tv_238 etv_238 => ?_)
        refine lv_aload_n hx hb dX11_reckons_239 rfl (lv_at hl 1 rfl) ?_
        refine va_get (D := (dC, dI)) (ci := 10) (v := .ref (qa 42)) (C := RX11) (T := TX11) (N := 53) hx hb hts iwX11 hown hK hP 0 rfl rfl 42 (by decide) (hts (.fieldLink RX11 89 "ModulePlayerModel" "tremPlace" "[I") (List.mem_cons_of_mem _ kw_198)) (fun _ h9 => h9) rfl dX11_reckons_240 ?_
        refine lv_iload_n hx hb dX11_reckons_243 rfl (lv_at hl 2 rfl) ?_
        refine g_iald hx hb hK hP 8 0 rfl rfl cv (nI_clamp (Nat.lt_trans (show cv < 4 from by omega) (by decide))) (vp_in_nI (by omega) (by decide)) dX11_reckons_244 ?_
        refine lv_topi (fun tv_244 etv_244 => ?_)
        refine lv_aload_n hx hb dX11_reckons_245 rfl (lv_at hl 1 rfl) ?_
        refine va_get (D := (dC, dI)) (ci := 10) (v := .ref (qa 43)) (C := RX11) (T := TX11) (N := 53) hx hb hts iwX11 hown hK hP 0 rfl rfl 43 (by decide) (hts (.fieldLink RX11 92 "ModulePlayerModel" "tremForm" "[I") (List.mem_cons_of_mem _ kw_199)) (fun _ h9 => h9) rfl dX11_reckons_246 ?_
        refine lv_iload_n hx hb dX11_reckons_249 rfl (lv_at hl 2 rfl) ?_
        refine g_iald hx hb hK hP 9 0 rfl rfl cv (nI_clamp (Nat.lt_trans (show cv < 4 from by omega) (by decide))) (vp_in_nI (by omega) (by decide)) dX11_reckons_250 ?_
        refine lv_topi (fun tv_250 etv_250 => ?_)
        refine g_calli (wr := [(h, .inr (10, mdF qa x0 x2 x3 x4 x13 x14 x15 x16 x17 x18 x19 x20 x21 x22 x23 x24 x26 x27 x28)), (qa 32, .inl (cI, 4, .inl g32)), (qa 34, .inl (cI, 4, .inl g34)), (qa 35, .inl (cI, 4, .inl g35)), (qa 38, .inl (cI, 4, .inl g38)), (qa 39, .inl (cI, 4, .inl jb39)), (qa 40, .inl (cI, 4, .inl g40)), (qa 41, .inl (cI, 4, .inl g41)), (qa 42, .inl (cI, 4, .inl g42)), (qa 43, .inl (cI, 4, .inl g43)), (qa 48, .inl (cI, 4, .inl jb48)), (qa 49, .inl (cI, 4, .inl u49_23))]) (va_runS (As := [.int tv_244, .int tv_250]) (rest := [.int tv_238, .int (nI cv), .ref (qa 49)]) ⟨hx, hb, hml, hown, hts⟩ (m_wave l dC dI H.size tv_244 tv_250 ) (va_cwS 2 hts (gG_S kw_911 kw_912 kw_5 kw_913) rfl rfl rfl (by decide +kernel) ⟨Nat.le_of_ble_eq_true rfl, Nat.le_of_ble_eq_true rfl⟩) (g_preS hP hD hK hS hA hN hZ [] (by decide) rfl [] rfl) rfl rfl hl.1 rfl (lv_room (Nat.le_of_ble_eq_true rfl)) dX11_reckons_251 ⟨Nat.le_of_ble_eq_true rfl, Nat.le_of_ble_eq_true rfl⟩) hP hD hK hS hA [] [0, 1, 2, 3, 4, 5, 6, 7, 8, 9, 10, 11] rfl rfl (by decide +kernel) (by decide +kernel) (fun r_251 w ty1 H locs hw_251 hP hD _ hS => ?_)
        have hu := hw_251
        cases hu
        have hP : va_P (dC, dI) vwCl [(h, .inr (10, mdF qa x0 x2 x3 x4 x13 x14 x15 x16 x17 x18 x19 x20 x21 x22 x23 x24 x26 x27 x28)), (qa 32, .inl (cI, 4, .inl g32)), (qa 34, .inl (cI, 4, .inl g34)), (qa 35, .inl (cI, 4, .inl g35)), (qa 38, .inl (cI, 4, .inl g38)), (qa 39, .inl (cI, 4, .inl jb39)), (qa 40, .inl (cI, 4, .inl g40)), (qa 41, .inl (cI, 4, .inl g41)), (qa 42, .inl (cI, 4, .inl g42)), (qa 43, .inl (cI, 4, .inl g43)), (qa 48, .inl (cI, 4, .inl jb48)), (qa 49, .inl (cI, 4, .inl u49_23))] H := hP
        have hD : va_D A [(h, .inr (10, mdF qa x0 x2 x3 x4 x13 x14 x15 x16 x17 x18 x19 x20 x21 x22 x23 x24 x26 x27 x28)), (qa 32, .inl (cI, 4, .inl g32)), (qa 34, .inl (cI, 4, .inl g34)), (qa 35, .inl (cI, 4, .inl g35)), (qa 38, .inl (cI, 4, .inl g38)), (qa 39, .inl (cI, 4, .inl jb39)), (qa 40, .inl (cI, 4, .inl g40)), (qa 41, .inl (cI, 4, .inl g41)), (qa 42, .inl (cI, 4, .inl g42)), (qa 43, .inl (cI, 4, .inl g43)), (qa 48, .inl (cI, 4, .inl jb48)), (qa 49, .inl (cI, 4, .inl u49_23))] := hD
        refine lv_aload_n hx hb dX11_reckons_254 rfl (lv_at hl 1 rfl) ?_
        refine va_get (D := (dC, dI)) (ci := 10) (v := .ref (qa 41)) (C := RX11) (T := TX11) (N := 53) hx hb hts iwX11 hown hK hP 0 rfl rfl 41 (by decide) (hts (.fieldLink RX11 86 "ModulePlayerModel" "trem" "[I") (List.mem_cons_of_mem _ kw_197)) (fun _ h9 => h9) rfl dX11_reckons_255 ?_
        refine lv_iload_n hx hb dX11_reckons_258 rfl (lv_at hl 2 rfl) ?_
        refine g_iald hx hb hK hP 7 0 rfl rfl cv (nI_clamp (Nat.lt_trans (show cv < 4 from by omega) (by decide))) (vp_in_nI (by omega) (by decide)) dX11_reckons_259 ?_
        refine lv_topi (fun tv_259 etv_259 => ?_)
        refine g_calli (wr := [(h, .inr (10, mdF qa x0 x2 x3 x4 x13 x14 x15 x16 x17 x18 x19 x20 x21 x22 x23 x24 x26 x27 x28)), (qa 32, .inl (cI, 4, .inl g32)), (qa 34, .inl (cI, 4, .inl g34)), (qa 35, .inl (cI, 4, .inl g35)), (qa 38, .inl (cI, 4, .inl g38)), (qa 39, .inl (cI, 4, .inl jb39)), (qa 40, .inl (cI, 4, .inl g40)), (qa 41, .inl (cI, 4, .inl g41)), (qa 42, .inl (cI, 4, .inl g42)), (qa 43, .inl (cI, 4, .inl g43)), (qa 48, .inl (cI, 4, .inl jb48)), (qa 49, .inl (cI, 4, .inl u49_23))]) (va_runS (As := [.int tv_259]) (rest := [.int r_251, .int tv_238, .int (nI cv), .ref (qa 49)]) ⟨hx, hb, hml, hown, hts⟩ (m_y l dC dI H.size tv_259 ) (va_cwS 1 hts (gG_S kw_865 kw_866 kw_5 kw_867) rfl rfl rfl (by decide +kernel) ⟨Nat.le_of_ble_eq_true rfl, Nat.le_of_ble_eq_true rfl⟩) (g_preS hP hD hK hS hA hN hZ [] (by decide) rfl [] rfl) rfl rfl hl.1 rfl (lv_room (Nat.le_of_ble_eq_true rfl)) dX11_reckons_260 ⟨Nat.le_of_ble_eq_true rfl, Nat.le_of_ble_eq_true rfl⟩) hP hD hK hS hA [] [0, 1, 2, 3, 4, 5, 6, 7, 8, 9, 10, 11] rfl rfl (by decide +kernel) (by decide +kernel) (fun r_260 w ty1 H locs hw_260 hP hD _ hS => ?_)
        rcases hw_260 with ⟨hu, hr_260⟩
        cases hu
        have hP : va_P (dC, dI) vwCl [(h, .inr (10, mdF qa x0 x2 x3 x4 x13 x14 x15 x16 x17 x18 x19 x20 x21 x22 x23 x24 x26 x27 x28)), (qa 32, .inl (cI, 4, .inl g32)), (qa 34, .inl (cI, 4, .inl g34)), (qa 35, .inl (cI, 4, .inl g35)), (qa 38, .inl (cI, 4, .inl g38)), (qa 39, .inl (cI, 4, .inl jb39)), (qa 40, .inl (cI, 4, .inl g40)), (qa 41, .inl (cI, 4, .inl g41)), (qa 42, .inl (cI, 4, .inl g42)), (qa 43, .inl (cI, 4, .inl g43)), (qa 48, .inl (cI, 4, .inl jb48)), (qa 49, .inl (cI, 4, .inl u49_23))] H := hP
        have hD : va_D A [(h, .inr (10, mdF qa x0 x2 x3 x4 x13 x14 x15 x16 x17 x18 x19 x20 x21 x22 x23 x24 x26 x27 x28)), (qa 32, .inl (cI, 4, .inl g32)), (qa 34, .inl (cI, 4, .inl g34)), (qa 35, .inl (cI, 4, .inl g35)), (qa 38, .inl (cI, 4, .inl g38)), (qa 39, .inl (cI, 4, .inl jb39)), (qa 40, .inl (cI, 4, .inl g40)), (qa 41, .inl (cI, 4, .inl g41)), (qa 42, .inl (cI, 4, .inl g42)), (qa 43, .inl (cI, 4, .inl g43)), (qa 48, .inl (cI, 4, .inl jb48)), (qa 49, .inl (cI, 4, .inl u49_23))] := hD
        refine g_topi (y := tv_259 &&& 15) hr_260 ?_
        refine lv_imul hx hb dX11_reckons_263 ?_
        refine lv_topi (fun tv_263 etv_263 => ?_)
        refine lv_bipush (v := 64) hx hb dX11_reckons_264 (by decide) ?_
        refine lv_idiv hx hb dX11_reckons_266 (by decide) ?_
        refine lv_topi (fun tv_266 etv_266 => ?_)
        refine lv_iadd hx hb dX11_reckons_267 ?_
        refine lv_topi (fun tv_267 etv_267 => ?_)
        refine lv_iconst (v := 0) hx hb dX11_reckons_268 (by decide) ?_
        refine lv_bipush (v := 64) hx hb dX11_reckons_269 (by decide) ?_
        refine g_calli (wr := [(h, .inr (10, mdF qa x0 x2 x3 x4 x13 x14 x15 x16 x17 x18 x19 x20 x21 x22 x23 x24 x26 x27 x28)), (qa 32, .inl (cI, 4, .inl g32)), (qa 34, .inl (cI, 4, .inl g34)), (qa 35, .inl (cI, 4, .inl g35)), (qa 38, .inl (cI, 4, .inl g38)), (qa 39, .inl (cI, 4, .inl jb39)), (qa 40, .inl (cI, 4, .inl g40)), (qa 41, .inl (cI, 4, .inl g41)), (qa 42, .inl (cI, 4, .inl g42)), (qa 43, .inl (cI, 4, .inl g43)), (qa 48, .inl (cI, 4, .inl jb48)), (qa 49, .inl (cI, 4, .inl u49_23))]) (va_runS (As := [.int tv_267, .int 0, .int 64]) (rest := [.int (nI cv), .ref (qa 49)]) ⟨hx, hb, hml, hown, hts⟩ (m_within l dC dI H.size tv_267 0 64 ) (va_cwS 3 hts (gG_S kw_876 kw_877 kw_5 kw_878) rfl rfl rfl (by decide +kernel) ⟨Nat.le_of_ble_eq_true rfl, Nat.le_of_ble_eq_true rfl⟩) (g_preS hP hD hK hS hA hN hZ [] (by decide) rfl [] rfl) rfl rfl hl.1 rfl (lv_room (Nat.le_of_ble_eq_true rfl)) dX11_reckons_271 ⟨Nat.le_of_ble_eq_true rfl, Nat.le_of_ble_eq_true rfl⟩) hP hD hK hS hA [] [0, 1, 2, 3, 4, 5, 6, 7, 8, 9, 10, 11] rfl rfl (by decide +kernel) (by decide +kernel) (fun r_271 w ty1 H locs hw_271 hP hD _ hS => ?_)
        rcases hw_271 with ⟨hu, hw_271⟩
        cases hu
        have hP : va_P (dC, dI) vwCl [(h, .inr (10, mdF qa x0 x2 x3 x4 x13 x14 x15 x16 x17 x18 x19 x20 x21 x22 x23 x24 x26 x27 x28)), (qa 32, .inl (cI, 4, .inl g32)), (qa 34, .inl (cI, 4, .inl g34)), (qa 35, .inl (cI, 4, .inl g35)), (qa 38, .inl (cI, 4, .inl g38)), (qa 39, .inl (cI, 4, .inl jb39)), (qa 40, .inl (cI, 4, .inl g40)), (qa 41, .inl (cI, 4, .inl g41)), (qa 42, .inl (cI, 4, .inl g42)), (qa 43, .inl (cI, 4, .inl g43)), (qa 48, .inl (cI, 4, .inl jb48)), (qa 49, .inl (cI, 4, .inl u49_23))] H := hP
        have hD : va_D A [(h, .inr (10, mdF qa x0 x2 x3 x4 x13 x14 x15 x16 x17 x18 x19 x20 x21 x22 x23 x24 x26 x27 x28)), (qa 32, .inl (cI, 4, .inl g32)), (qa 34, .inl (cI, 4, .inl g34)), (qa 35, .inl (cI, 4, .inl g35)), (qa 38, .inl (cI, 4, .inl g38)), (qa 39, .inl (cI, 4, .inl jb39)), (qa 40, .inl (cI, 4, .inl g40)), (qa 41, .inl (cI, 4, .inl g41)), (qa 42, .inl (cI, 4, .inl g42)), (qa 43, .inl (cI, 4, .inl g43)), (qa 48, .inl (cI, 4, .inl jb48)), (qa 49, .inl (cI, 4, .inl u49_23))] := hD
        refine g_iast hx hb hK hP hD hS 11 0 rfl rfl cv (nI_clamp (Nat.lt_trans (show cv < 4 from by omega) (by decide))) (vp_in_nI (by omega) (by decide)) dX11_reckons_274 (fun H locs hP hD hS => ?_)
        have hP : va_P (dC, dI) vwCl [(h, .inr (10, mdF qa x0 x2 x3 x4 x13 x14 x15 x16 x17 x18 x19 x20 x21 x22 x23 x24 x26 x27 x28)), (qa 32, .inl (cI, 4, .inl g32)), (qa 34, .inl (cI, 4, .inl g34)), (qa 35, .inl (cI, 4, .inl g35)), (qa 38, .inl (cI, 4, .inl g38)), (qa 39, .inl (cI, 4, .inl jb39)), (qa 40, .inl (cI, 4, .inl g40)), (qa 41, .inl (cI, 4, .inl g41)), (qa 42, .inl (cI, 4, .inl g42)), (qa 43, .inl (cI, 4, .inl g43)), (qa 48, .inl (cI, 4, .inl jb48)), (qa 49, .inl (cI, 4, .inl (upd u49_23 cv r_271)))] H := hP
        have hD : va_D A [(h, .inr (10, mdF qa x0 x2 x3 x4 x13 x14 x15 x16 x17 x18 x19 x20 x21 x22 x23 x24 x26 x27 x28)), (qa 32, .inl (cI, 4, .inl g32)), (qa 34, .inl (cI, 4, .inl g34)), (qa 35, .inl (cI, 4, .inl g35)), (qa 38, .inl (cI, 4, .inl g38)), (qa 39, .inl (cI, 4, .inl jb39)), (qa 40, .inl (cI, 4, .inl g40)), (qa 41, .inl (cI, 4, .inl g41)), (qa 42, .inl (cI, 4, .inl g42)), (qa 43, .inl (cI, 4, .inl g43)), (qa 48, .inl (cI, 4, .inl jb48)), (qa 49, .inl (cI, 4, .inl (upd u49_23 cv r_271)))] := hD
        generalize upd u49_23 cv r_271 = u49_274 at hP hD
        refine lv_aload_n hx hb dX11_reckons_275 rfl (lv_at hl 1 rfl) ?_
        refine va_get (D := (dC, dI)) (ci := 10) (v := .ref (qa 42)) (C := RX11) (T := TX11) (N := 53) hx hb hts iwX11 hown hK hP 0 rfl rfl 42 (by decide) (hts (.fieldLink RX11 89 "ModulePlayerModel" "tremPlace" "[I") (List.mem_cons_of_mem _ kw_198)) (fun _ h9 => h9) rfl dX11_reckons_276 ?_
        refine lv_iload_n hx hb dX11_reckons_279 rfl (lv_at hl 2 rfl) ?_
        refine lv_aload_n hx hb dX11_reckons_280 rfl (lv_at hl 1 rfl) ?_
        refine va_get (D := (dC, dI)) (ci := 10) (v := .ref (qa 42)) (C := RX11) (T := TX11) (N := 53) hx hb hts iwX11 hown hK hP 0 rfl rfl 42 (by decide) (hts (.fieldLink RX11 89 "ModulePlayerModel" "tremPlace" "[I") (List.mem_cons_of_mem _ kw_198)) (fun _ h9 => h9) rfl dX11_reckons_281 ?_
        refine lv_iload_n hx hb dX11_reckons_284 rfl (lv_at hl 2 rfl) ?_
        refine g_iald hx hb hK hP 8 0 rfl rfl cv (nI_clamp (Nat.lt_trans (show cv < 4 from by omega) (by decide))) (vp_in_nI (by omega) (by decide)) dX11_reckons_285 ?_
        refine lv_topi (fun tv_285 etv_285 => ?_)
        refine lv_aload_n hx hb dX11_reckons_286 rfl (lv_at hl 1 rfl) ?_
        refine va_get (D := (dC, dI)) (ci := 10) (v := .ref (qa 41)) (C := RX11) (T := TX11) (N := 53) hx hb hts iwX11 hown hK hP 0 rfl rfl 41 (by decide) (hts (.fieldLink RX11 86 "ModulePlayerModel" "trem" "[I") (List.mem_cons_of_mem _ kw_197)) (fun _ h9 => h9) rfl dX11_reckons_287 ?_
        refine lv_iload_n hx hb dX11_reckons_290 rfl (lv_at hl 2 rfl) ?_
        refine g_iald hx hb hK hP 7 0 rfl rfl cv (nI_clamp (Nat.lt_trans (show cv < 4 from by omega) (by decide))) (vp_in_nI (by omega) (by decide)) dX11_reckons_291 ?_
        refine lv_topi (fun tv_291 etv_291 => ?_)
        refine g_calli (wr := [(h, .inr (10, mdF qa x0 x2 x3 x4 x13 x14 x15 x16 x17 x18 x19 x20 x21 x22 x23 x24 x26 x27 x28)), (qa 32, .inl (cI, 4, .inl g32)), (qa 34, .inl (cI, 4, .inl g34)), (qa 35, .inl (cI, 4, .inl g35)), (qa 38, .inl (cI, 4, .inl g38)), (qa 39, .inl (cI, 4, .inl jb39)), (qa 40, .inl (cI, 4, .inl g40)), (qa 41, .inl (cI, 4, .inl g41)), (qa 42, .inl (cI, 4, .inl g42)), (qa 43, .inl (cI, 4, .inl g43)), (qa 48, .inl (cI, 4, .inl jb48)), (qa 49, .inl (cI, 4, .inl u49_274))]) (va_runS (As := [.int tv_291]) (rest := [.int tv_285, .int (nI cv), .ref (qa 42)]) ⟨hx, hb, hml, hown, hts⟩ (m_x l dC dI H.size tv_291 ) (va_cwS 1 hts (gG_S kw_862 kw_863 kw_5 kw_864) rfl rfl rfl (by decide +kernel) ⟨Nat.le_of_ble_eq_true rfl, Nat.le_of_ble_eq_true rfl⟩) (g_preS hP hD hK hS hA hN hZ [] (by decide) rfl [] rfl) rfl rfl hl.1 rfl (lv_room (Nat.le_of_ble_eq_true rfl)) dX11_reckons_292 ⟨Nat.le_of_ble_eq_true rfl, Nat.le_of_ble_eq_true rfl⟩) hP hD hK hS hA [] [0, 1, 2, 3, 4, 5, 6, 7, 8, 9, 10, 11] rfl rfl (by decide +kernel) (by decide +kernel) (fun r_292 w ty1 H locs hw_292 hP hD _ hS => ?_)
        rcases hw_292 with ⟨hu, hr_292⟩
        cases hu
        have hP : va_P (dC, dI) vwCl [(h, .inr (10, mdF qa x0 x2 x3 x4 x13 x14 x15 x16 x17 x18 x19 x20 x21 x22 x23 x24 x26 x27 x28)), (qa 32, .inl (cI, 4, .inl g32)), (qa 34, .inl (cI, 4, .inl g34)), (qa 35, .inl (cI, 4, .inl g35)), (qa 38, .inl (cI, 4, .inl g38)), (qa 39, .inl (cI, 4, .inl jb39)), (qa 40, .inl (cI, 4, .inl g40)), (qa 41, .inl (cI, 4, .inl g41)), (qa 42, .inl (cI, 4, .inl g42)), (qa 43, .inl (cI, 4, .inl g43)), (qa 48, .inl (cI, 4, .inl jb48)), (qa 49, .inl (cI, 4, .inl u49_274))] H := hP
        have hD : va_D A [(h, .inr (10, mdF qa x0 x2 x3 x4 x13 x14 x15 x16 x17 x18 x19 x20 x21 x22 x23 x24 x26 x27 x28)), (qa 32, .inl (cI, 4, .inl g32)), (qa 34, .inl (cI, 4, .inl g34)), (qa 35, .inl (cI, 4, .inl g35)), (qa 38, .inl (cI, 4, .inl g38)), (qa 39, .inl (cI, 4, .inl jb39)), (qa 40, .inl (cI, 4, .inl g40)), (qa 41, .inl (cI, 4, .inl g41)), (qa 42, .inl (cI, 4, .inl g42)), (qa 43, .inl (cI, 4, .inl g43)), (qa 48, .inl (cI, 4, .inl jb48)), (qa 49, .inl (cI, 4, .inl u49_274))] := hD
        refine g_topi (y := (tv_291 >>> (4 &&& 31)) &&& 15) hr_292 ?_
        refine lv_iadd hx hb dX11_reckons_295 ?_
        refine lv_topi (fun tv_295 etv_295 => ?_)
        refine lv_bipush (v := 64) hx hb dX11_reckons_296 (by decide) ?_
        refine lv_irem hx hb dX11_reckons_298 (by decide) ?_
        refine lv_topi (fun tv_298 etv_298 => ?_)
        refine g_iast hx hb hK hP hD hS 8 0 rfl rfl cv (nI_clamp (Nat.lt_trans (show cv < 4 from by omega) (by decide))) (vp_in_nI (by omega) (by decide)) dX11_reckons_299 (fun H locs hP hD hS => ?_)
        have hP : va_P (dC, dI) vwCl [(h, .inr (10, mdF qa x0 x2 x3 x4 x13 x14 x15 x16 x17 x18 x19 x20 x21 x22 x23 x24 x26 x27 x28)), (qa 32, .inl (cI, 4, .inl g32)), (qa 34, .inl (cI, 4, .inl g34)), (qa 35, .inl (cI, 4, .inl g35)), (qa 38, .inl (cI, 4, .inl g38)), (qa 39, .inl (cI, 4, .inl jb39)), (qa 40, .inl (cI, 4, .inl g40)), (qa 41, .inl (cI, 4, .inl g41)), (qa 42, .inl (cI, 4, .inl (upd g42 cv tv_298))), (qa 43, .inl (cI, 4, .inl g43)), (qa 48, .inl (cI, 4, .inl jb48)), (qa 49, .inl (cI, 4, .inl u49_274))] H := hP
        have hD : va_D A [(h, .inr (10, mdF qa x0 x2 x3 x4 x13 x14 x15 x16 x17 x18 x19 x20 x21 x22 x23 x24 x26 x27 x28)), (qa 32, .inl (cI, 4, .inl g32)), (qa 34, .inl (cI, 4, .inl g34)), (qa 35, .inl (cI, 4, .inl g35)), (qa 38, .inl (cI, 4, .inl g38)), (qa 39, .inl (cI, 4, .inl jb39)), (qa 40, .inl (cI, 4, .inl g40)), (qa 41, .inl (cI, 4, .inl g41)), (qa 42, .inl (cI, 4, .inl (upd g42 cv tv_298))), (qa 43, .inl (cI, 4, .inl g43)), (qa 48, .inl (cI, 4, .inl jb48)), (qa 49, .inl (cI, 4, .inl u49_274))] := hD
        generalize upd g42 cv tv_298 = u42_299 at hP hD
        have hP9 := hP
        have hD9 := hD
        have hK9 := hK.sub (tys' := []) [] rfl
        exact W.vret hx hb hr (fun t ht hW => ⟨⟨_, rfl, ⟨jb39, u42_299, jb48, u49_274, rfl, r_jb48⟩, by rw [ht]; exact hP9, va_K.moved hW.alike hK9, hD9⟩, hS.F ht⟩) hS.2.2 dX11_reckons_300
      refine lv_iload_n hx hb dX11_reckons_139 rfl (lv_at hl 0 rfl) ?_
      refine lv_iconst (v := 4) hx hb dX11_reckons_140 (by decide) ?_
      refine lv_icmp_eq (tgt := 150) hx hb dX11_reckons_141 (by decide) (fun c_141 => ?_) (fun c_141 => ?_)
      · refine lv_aload_n hx hb dX11_reckons_150 rfl (lv_at hl 1 rfl) ?_
        refine va_get (D := (dC, dI)) (ci := 10) (v := .ref (qa 48)) (C := RX11) (T := TX11) (N := 53) hx hb hts iwX11 hown hK hP 0 rfl rfl 48 (by decide) (hts (.fieldLink RX11 107 "ModulePlayerModel" "soundPeriod" "[I") (List.mem_cons_of_mem _ kw_204)) (fun _ h9 => h9) rfl dX11_reckons_151 ?_
        refine lv_iload_n hx hb dX11_reckons_154 rfl (lv_at hl 2 rfl) ?_
        refine lv_bipush (v := 54) hx hb dX11_reckons_155 (by decide) ?_
        refine lv_aload_n hx hb dX11_reckons_157 rfl (lv_at hl 1 rfl) ?_
        refine va_get (D := (dC, dI)) (ci := 10) (v := .ref (qa 34)) (C := RX11) (T := TX11) (N := 53) hx hb hts iwX11 hown hK hP 0 rfl rfl 34 (by decide) (hts (.fieldLink RX11 65 "ModulePlayerModel" "period" "[I") (List.mem_cons_of_mem _ kw_190)) (fun _ h9 => h9) rfl dX11_reckons_158 ?_
        refine lv_iload_n hx hb dX11_reckons_161 rfl (lv_at hl 2 rfl) ?_
        refine g_iald hx hb hK hP 2 0 rfl rfl cv (nI_clamp (Nat.lt_trans (show cv < 4 from by omega) (by decide))) (vp_in_nI (by omega) (by decide)) dX11_reckons_162 ?_
        obtain ⟨jn_162, hjn_162, ejn_162⟩ := rg_nat (kx := cv) (mx := 856) r_g34 (by omega) rfl
        refine g_topi (y := nI jn_162) ejn_162 ?_
        refine lv_aload_n hx hb dX11_reckons_163 rfl (lv_at hl 1 rfl) ?_
        refine va_get (D := (dC, dI)) (ci := 10) (v := .ref (qa 39)) (C := RX11) (T := TX11) (N := 53) hx hb hts iwX11 hown hK hP 0 rfl rfl 39 (by decide) (hts (.fieldLink RX11 80 "ModulePlayerModel" "vibPlace" "[I") (List.mem_cons_of_mem _ kw_195)) (fun _ h9 => h9) rfl dX11_reckons_164 ?_
        refine lv_iload_n hx hb dX11_reckons_167 rfl (lv_at hl 2 rfl) ?_
        refine g_iald hx hb hK hP 5 0 rfl rfl cv (nI_clamp (Nat.lt_trans (show cv < 4 from by omega) (by decide))) (vp_in_nI (by omega) (by decide)) dX11_reckons_168 ?_
        refine lv_topi (fun tv_168 etv_168 => ?_)
        refine lv_aload_n hx hb dX11_reckons_169 rfl (lv_at hl 1 rfl) ?_
        refine va_get (D := (dC, dI)) (ci := 10) (v := .ref (qa 40)) (C := RX11) (T := TX11) (N := 53) hx hb hts iwX11 hown hK hP 0 rfl rfl 40 (by decide) (hts (.fieldLink RX11 83 "ModulePlayerModel" "vibForm" "[I") (List.mem_cons_of_mem _ kw_196)) (fun _ h9 => h9) rfl dX11_reckons_170 ?_
        refine lv_iload_n hx hb dX11_reckons_173 rfl (lv_at hl 2 rfl) ?_
        refine g_iald hx hb hK hP 6 0 rfl rfl cv (nI_clamp (Nat.lt_trans (show cv < 4 from by omega) (by decide))) (vp_in_nI (by omega) (by decide)) dX11_reckons_174 ?_
        refine lv_topi (fun tv_174 etv_174 => ?_)
        refine g_calli (wr := [(h, .inr (10, mdF qa x0 x2 x3 x4 x13 x14 x15 x16 x17 x18 x19 x20 x21 x22 x23 x24 x26 x27 x28)), (qa 32, .inl (cI, 4, .inl g32)), (qa 34, .inl (cI, 4, .inl g34)), (qa 35, .inl (cI, 4, .inl g35)), (qa 38, .inl (cI, 4, .inl g38)), (qa 39, .inl (cI, 4, .inl g39)), (qa 40, .inl (cI, 4, .inl g40)), (qa 41, .inl (cI, 4, .inl g41)), (qa 42, .inl (cI, 4, .inl g42)), (qa 43, .inl (cI, 4, .inl g43)), (qa 48, .inl (cI, 4, .inl ja48)), (qa 49, .inl (cI, 4, .inl u49_23))]) (va_runS (As := [.int tv_168, .int tv_174]) (rest := [.int (nI jn_162), .int 54, .int (nI cv), .ref (qa 48)]) ⟨hx, hb, hml, hown, hts⟩ (m_wave l dC dI H.size tv_168 tv_174 ) (va_cwS 2 hts (gG_S kw_911 kw_912 kw_5 kw_913) rfl rfl rfl (by decide +kernel) ⟨Nat.le_of_ble_eq_true rfl, Nat.le_of_ble_eq_true rfl⟩) (g_preS hP hD hK hS hA hN hZ [] (by decide) rfl [] rfl) rfl rfl hl.1 rfl (lv_room (Nat.le_of_ble_eq_true rfl)) dX11_reckons_175 ⟨Nat.le_of_ble_eq_true rfl, Nat.le_of_ble_eq_true rfl⟩) hP hD hK hS hA [] [0, 1, 2, 3, 4, 5, 6, 7, 8, 9, 10, 11] rfl rfl (by decide +kernel) (by decide +kernel) (fun r_175 w ty1 H locs hw_175 hP hD _ hS => ?_)
        have hu := hw_175
        cases hu
        have hP : va_P (dC, dI) vwCl [(h, .inr (10, mdF qa x0 x2 x3 x4 x13 x14 x15 x16 x17 x18 x19 x20 x21 x22 x23 x24 x26 x27 x28)), (qa 32, .inl (cI, 4, .inl g32)), (qa 34, .inl (cI, 4, .inl g34)), (qa 35, .inl (cI, 4, .inl g35)), (qa 38, .inl (cI, 4, .inl g38)), (qa 39, .inl (cI, 4, .inl g39)), (qa 40, .inl (cI, 4, .inl g40)), (qa 41, .inl (cI, 4, .inl g41)), (qa 42, .inl (cI, 4, .inl g42)), (qa 43, .inl (cI, 4, .inl g43)), (qa 48, .inl (cI, 4, .inl ja48)), (qa 49, .inl (cI, 4, .inl u49_23))] H := hP
        have hD : va_D A [(h, .inr (10, mdF qa x0 x2 x3 x4 x13 x14 x15 x16 x17 x18 x19 x20 x21 x22 x23 x24 x26 x27 x28)), (qa 32, .inl (cI, 4, .inl g32)), (qa 34, .inl (cI, 4, .inl g34)), (qa 35, .inl (cI, 4, .inl g35)), (qa 38, .inl (cI, 4, .inl g38)), (qa 39, .inl (cI, 4, .inl g39)), (qa 40, .inl (cI, 4, .inl g40)), (qa 41, .inl (cI, 4, .inl g41)), (qa 42, .inl (cI, 4, .inl g42)), (qa 43, .inl (cI, 4, .inl g43)), (qa 48, .inl (cI, 4, .inl ja48)), (qa 49, .inl (cI, 4, .inl u49_23))] := hD
        refine lv_aload_n hx hb dX11_reckons_178 rfl (lv_at hl 1 rfl) ?_
        refine va_get (D := (dC, dI)) (ci := 10) (v := .ref (qa 38)) (C := RX11) (T := TX11) (N := 53) hx hb hts iwX11 hown hK hP 0 rfl rfl 38 (by decide) (hts (.fieldLink RX11 77 "ModulePlayerModel" "vib" "[I") (List.mem_cons_of_mem _ kw_194)) (fun _ h9 => h9) rfl dX11_reckons_179 ?_
        refine lv_iload_n hx hb dX11_reckons_182 rfl (lv_at hl 2 rfl) ?_
        refine g_iald hx hb hK hP 4 0 rfl rfl cv (nI_clamp (Nat.lt_trans (show cv < 4 from by omega) (by decide))) (vp_in_nI (by omega) (by decide)) dX11_reckons_183 ?_
        refine lv_topi (fun tv_183 etv_183 => ?_)
        refine g_calli (wr := [(h, .inr (10, mdF qa x0 x2 x3 x4 x13 x14 x15 x16 x17 x18 x19 x20 x21 x22 x23 x24 x26 x27 x28)), (qa 32, .inl (cI, 4, .inl g32)), (qa 34, .inl (cI, 4, .inl g34)), (qa 35, .inl (cI, 4, .inl g35)), (qa 38, .inl (cI, 4, .inl g38)), (qa 39, .inl (cI, 4, .inl g39)), (qa 40, .inl (cI, 4, .inl g40)), (qa 41, .inl (cI, 4, .inl g41)), (qa 42, .inl (cI, 4, .inl g42)), (qa 43, .inl (cI, 4, .inl g43)), (qa 48, .inl (cI, 4, .inl ja48)), (qa 49, .inl (cI, 4, .inl u49_23))]) (va_runS (As := [.int tv_183]) (rest := [.int r_175, .int (nI jn_162), .int 54, .int (nI cv), .ref (qa 48)]) ⟨hx, hb, hml, hown, hts⟩ (m_y l dC dI H.size tv_183 ) (va_cwS 1 hts (gG_S kw_865 kw_866 kw_5 kw_867) rfl rfl rfl (by decide +kernel) ⟨Nat.le_of_ble_eq_true rfl, Nat.le_of_ble_eq_true rfl⟩) (g_preS hP hD hK hS hA hN hZ [] (by decide) rfl [] rfl) rfl rfl hl.1 rfl (lv_room (Nat.le_of_ble_eq_true rfl)) dX11_reckons_184 ⟨Nat.le_of_ble_eq_true rfl, Nat.le_of_ble_eq_true rfl⟩) hP hD hK hS hA [] [0, 1, 2, 3, 4, 5, 6, 7, 8, 9, 10, 11] rfl rfl (by decide +kernel) (by decide +kernel) (fun r_184 w ty1 H locs hw_184 hP hD _ hS => ?_)
        rcases hw_184 with ⟨hu, hr_184⟩
        cases hu
        have hP : va_P (dC, dI) vwCl [(h, .inr (10, mdF qa x0 x2 x3 x4 x13 x14 x15 x16 x17 x18 x19 x20 x21 x22 x23 x24 x26 x27 x28)), (qa 32, .inl (cI, 4, .inl g32)), (qa 34, .inl (cI, 4, .inl g34)), (qa 35, .inl (cI, 4, .inl g35)), (qa 38, .inl (cI, 4, .inl g38)), (qa 39, .inl (cI, 4, .inl g39)), (qa 40, .inl (cI, 4, .inl g40)), (qa 41, .inl (cI, 4, .inl g41)), (qa 42, .inl (cI, 4, .inl g42)), (qa 43, .inl (cI, 4, .inl g43)), (qa 48, .inl (cI, 4, .inl ja48)), (qa 49, .inl (cI, 4, .inl u49_23))] H := hP
        have hD : va_D A [(h, .inr (10, mdF qa x0 x2 x3 x4 x13 x14 x15 x16 x17 x18 x19 x20 x21 x22 x23 x24 x26 x27 x28)), (qa 32, .inl (cI, 4, .inl g32)), (qa 34, .inl (cI, 4, .inl g34)), (qa 35, .inl (cI, 4, .inl g35)), (qa 38, .inl (cI, 4, .inl g38)), (qa 39, .inl (cI, 4, .inl g39)), (qa 40, .inl (cI, 4, .inl g40)), (qa 41, .inl (cI, 4, .inl g41)), (qa 42, .inl (cI, 4, .inl g42)), (qa 43, .inl (cI, 4, .inl g43)), (qa 48, .inl (cI, 4, .inl ja48)), (qa 49, .inl (cI, 4, .inl u49_23))] := hD
        refine g_topi (y := tv_183 &&& 15) hr_184 ?_
        refine lv_imul hx hb dX11_reckons_187 ?_
        refine lv_topi (fun tv_187 etv_187 => ?_)
        refine lv_sipush (v := 128) hx hb dX11_reckons_188 (by decide) ?_
        refine lv_idiv hx hb dX11_reckons_191 (by decide) ?_
        refine lv_topi (fun tv_191 etv_191 => ?_)
        refine lv_iadd hx hb dX11_reckons_192 ?_
        refine lv_topi (fun tv_192 etv_192 => ?_)
        refine va_mmax hx hb (by rw [hml]; exact hl.1.symm) hown (hts (.methodLink RX11 129 Lib.Math.max.name) (List.mem_cons_of_mem _ kw_212)) (hts (.static Lib.Math.max.name) (List.mem_cons_of_mem _ kw_102)) (hts (.initialized "java/lang/Math") (List.mem_cons_of_mem _ kw_103)) (hts (.code Lib.Math.max.name Lib.Math.max.code 2 (some .int)) (List.mem_cons_of_mem _ kw_104)) (Nat.le_of_ble_eq_true rfl) (Nat.le_of_ble_eq_true rfl) (Nat.le_of_ble_eq_true rfl) (Nat.le_of_ble_eq_true rfl) dX11_reckons_193 ?_
        refine lv_topi (fun tv_193 etv_193 => ?_)
        refine g_iast hx hb hK hP hD hS 10 0 rfl rfl cv (nI_clamp (Nat.lt_trans (show cv < 4 from by omega) (by decide))) (vp_in_nI (by omega) (by decide)) dX11_reckons_196 (fun H locs hP hD hS => ?_)
        have hP : va_P (dC, dI) vwCl [(h, .inr (10, mdF qa x0 x2 x3 x4 x13 x14 x15 x16 x17 x18 x19 x20 x21 x22 x23 x24 x26 x27 x28)), (qa 32, .inl (cI, 4, .inl g32)), (qa 34, .inl (cI, 4, .inl g34)), (qa 35, .inl (cI, 4, .inl g35)), (qa 38, .inl (cI, 4, .inl g38)), (qa 39, .inl (cI, 4, .inl g39)), (qa 40, .inl (cI, 4, .inl g40)), (qa 41, .inl (cI, 4, .inl g41)), (qa 42, .inl (cI, 4, .inl g42)), (qa 43, .inl (cI, 4, .inl g43)), (qa 48, .inl (cI, 4, .inl (upd ja48 cv tv_193))), (qa 49, .inl (cI, 4, .inl u49_23))] H := hP
        have hD : va_D A [(h, .inr (10, mdF qa x0 x2 x3 x4 x13 x14 x15 x16 x17 x18 x19 x20 x21 x22 x23 x24 x26 x27 x28)), (qa 32, .inl (cI, 4, .inl g32)), (qa 34, .inl (cI, 4, .inl g34)), (qa 35, .inl (cI, 4, .inl g35)), (qa 38, .inl (cI, 4, .inl g38)), (qa 39, .inl (cI, 4, .inl g39)), (qa 40, .inl (cI, 4, .inl g40)), (qa 41, .inl (cI, 4, .inl g41)), (qa 42, .inl (cI, 4, .inl g42)), (qa 43, .inl (cI, 4, .inl g43)), (qa 48, .inl (cI, 4, .inl (upd ja48 cv tv_193))), (qa 49, .inl (cI, 4, .inl u49_23))] := hD
        obtain ⟨u48_196, r_u48_196, eu48_196⟩ : ∃ ff : Nat → Int32, rg 4 0 2147483647 ff ∧ ff = upd ja48 cv tv_193 := ⟨upd ja48 cv tv_193, rg_upd2 r_ja48 (mx54 etv_193), rfl⟩
        rw [← eu48_196] at hP hD
        refine lv_aload_n hx hb dX11_reckons_197 rfl (lv_at hl 1 rfl) ?_
        refine va_get (D := (dC, dI)) (ci := 10) (v := .ref (qa 39)) (C := RX11) (T := TX11) (N := 53) hx hb hts iwX11 hown hK hP 0 rfl rfl 39 (by decide) (hts (.fieldLink RX11 80 "ModulePlayerModel" "vibPlace" "[I") (List.mem_cons_of_mem _ kw_195)) (fun _ h9 => h9) rfl dX11_reckons_198 ?_
        refine lv_iload_n hx hb dX11_reckons_201 rfl (lv_at hl 2 rfl) ?_
        refine lv_aload_n hx hb dX11_reckons_202 rfl (lv_at hl 1 rfl) ?_
        refine va_get (D := (dC, dI)) (ci := 10) (v := .ref (qa 39)) (C := RX11) (T := TX11) (N := 53) hx hb hts iwX11 hown hK hP 0 rfl rfl 39 (by decide) (hts (.fieldLink RX11 80 "ModulePlayerModel" "vibPlace" "[I") (List.mem_cons_of_mem _ kw_195)) (fun _ h9 => h9) rfl dX11_reckons_203 ?_
        refine lv_iload_n hx hb dX11_reckons_206 rfl (lv_at hl 2 rfl) ?_
        refine g_iald hx hb hK hP 5 0 rfl rfl cv (nI_clamp (Nat.lt_trans (show cv < 4 from by omega) (by decide))) (vp_in_nI (by omega) (by decide)) dX11_reckons_207 ?_
        refine lv_topi (fun tv_207 etv_207 => ?_)
        refine lv_aload_n hx hb dX11_reckons_208 rfl (lv_at hl 1 rfl) ?_
        refine va_get (D := (dC, dI)) (ci := 10) (v := .ref (qa 38)) (C := RX11) (T := TX11) (N := 53) hx hb hts iwX11 hown hK hP 0 rfl rfl 38 (by decide) (hts (.fieldLink RX11 77 "ModulePlayerModel" "vib" "[I") (List.mem_cons_of_mem _ kw_194)) (fun _ h9 => h9) rfl dX11_reckons_209 ?_
        refine lv_iload_n hx hb dX11_reckons_212 rfl (lv_at hl 2 rfl) ?_
        refine g_iald hx hb hK hP 4 0 rfl rfl cv (nI_clamp (Nat.lt_trans (show cv < 4 from by omega) (by decide))) (vp_in_nI (by omega) (by decide)) dX11_reckons_213 ?_
        refine lv_topi (fun tv_213 etv_213 => ?_)
        refine g_calli (wr := [(h, .inr (10, mdF qa x0 x2 x3 x4 x13 x14 x15 x16 x17 x18 x19 x20 x21 x22 x23 x24 x26 x27 x28)), (qa 32, .inl (cI, 4, .inl g32)), (qa 34, .inl (cI, 4, .inl g34)), (qa 35, .inl (cI, 4, .inl g35)), (qa 38, .inl (cI, 4, .inl g38)), (qa 39, .inl (cI, 4, .inl g39)), (qa 40, .inl (cI, 4, .inl g40)), (qa 41, .inl (cI, 4, .inl g41)), (qa 42, .inl (cI, 4, .inl g42)), (qa 43, .inl (cI, 4, .inl g43)), (qa 48, .inl (cI, 4, .inl u48_196)), (qa 49, .inl (cI, 4, .inl u49_23))]) (va_runS (As := [.int tv_213]) (rest := [.int tv_207, .int (nI cv), .ref (qa 39)]) ⟨hx, hb, hml, hown, hts⟩ (m_x l dC dI H.size tv_213 ) (va_cwS 1 hts (gG_S kw_862 kw_863 kw_5 kw_864) rfl rfl rfl (by decide +kernel) ⟨Nat.le_of_ble_eq_true rfl, Nat.le_of_ble_eq_true rfl⟩) (g_preS hP hD hK hS hA hN hZ [] (by decide) rfl [] rfl) rfl rfl hl.1 rfl (lv_room (Nat.le_of_ble_eq_true rfl)) dX11_reckons_214 ⟨Nat.le_of_ble_eq_true rfl, Nat.le_of_ble_eq_true rfl⟩) hP hD hK hS hA [] [0, 1, 2, 3, 4, 5, 6, 7, 8, 9, 10, 11] rfl rfl (by decide +kernel) (by decide +kernel) (fun r_214 w ty1 H locs hw_214 hP hD _ hS => ?_)
        rcases hw_214 with ⟨hu, hr_214⟩
        cases hu
        have hP : va_P (dC, dI) vwCl [(h, .inr (10, mdF qa x0 x2 x3 x4 x13 x14 x15 x16 x17 x18 x19 x20 x21 x22 x23 x24 x26 x27 x28)), (qa 32, .inl (cI, 4, .inl g32)), (qa 34, .inl (cI, 4, .inl g34)), (qa 35, .inl (cI, 4, .inl g35)), (qa 38, .inl (cI, 4, .inl g38)), (qa 39, .inl (cI, 4, .inl g39)), (qa 40, .inl (cI, 4, .inl g40)), (qa 41, .inl (cI, 4, .inl g41)), (qa 42, .inl (cI, 4, .inl g42)), (qa 43, .inl (cI, 4, .inl g43)), (qa 48, .inl (cI, 4, .inl u48_196)), (qa 49, .inl (cI, 4, .inl u49_23))] H := hP
        have hD : va_D A [(h, .inr (10, mdF qa x0 x2 x3 x4 x13 x14 x15 x16 x17 x18 x19 x20 x21 x22 x23 x24 x26 x27 x28)), (qa 32, .inl (cI, 4, .inl g32)), (qa 34, .inl (cI, 4, .inl g34)), (qa 35, .inl (cI, 4, .inl g35)), (qa 38, .inl (cI, 4, .inl g38)), (qa 39, .inl (cI, 4, .inl g39)), (qa 40, .inl (cI, 4, .inl g40)), (qa 41, .inl (cI, 4, .inl g41)), (qa 42, .inl (cI, 4, .inl g42)), (qa 43, .inl (cI, 4, .inl g43)), (qa 48, .inl (cI, 4, .inl u48_196)), (qa 49, .inl (cI, 4, .inl u49_23))] := hD
        refine g_topi (y := (tv_213 >>> (4 &&& 31)) &&& 15) hr_214 ?_
        refine lv_iadd hx hb dX11_reckons_217 ?_
        refine lv_topi (fun tv_217 etv_217 => ?_)
        refine lv_bipush (v := 64) hx hb dX11_reckons_218 (by decide) ?_
        refine lv_irem hx hb dX11_reckons_220 (by decide) ?_
        refine lv_topi (fun tv_220 etv_220 => ?_)
        refine g_iast hx hb hK hP hD hS 5 0 rfl rfl cv (nI_clamp (Nat.lt_trans (show cv < 4 from by omega) (by decide))) (vp_in_nI (by omega) (by decide)) dX11_reckons_221 (fun H locs hP hD hS => ?_)
        have hP : va_P (dC, dI) vwCl [(h, .inr (10, mdF qa x0 x2 x3 x4 x13 x14 x15 x16 x17 x18 x19 x20 x21 x22 x23 x24 x26 x27 x28)), (qa 32, .inl (cI, 4, .inl g32)), (qa 34, .inl (cI, 4, .inl g34)), (qa 35, .inl (cI, 4, .inl g35)), (qa 38, .inl (cI, 4, .inl g38)), (qa 39, .inl (cI, 4, .inl (upd g39 cv tv_220))), (qa 40, .inl (cI, 4, .inl g40)), (qa 41, .inl (cI, 4, .inl g41)), (qa 42, .inl (cI, 4, .inl g42)), (qa 43, .inl (cI, 4, .inl g43)), (qa 48, .inl (cI, 4, .inl u48_196)), (qa 49, .inl (cI, 4, .inl u49_23))] H := hP
        have hD : va_D A [(h, .inr (10, mdF qa x0 x2 x3 x4 x13 x14 x15 x16 x17 x18 x19 x20 x21 x22 x23 x24 x26 x27 x28)), (qa 32, .inl (cI, 4, .inl g32)), (qa 34, .inl (cI, 4, .inl g34)), (qa 35, .inl (cI, 4, .inl g35)), (qa 38, .inl (cI, 4, .inl g38)), (qa 39, .inl (cI, 4, .inl (upd g39 cv tv_220))), (qa 40, .inl (cI, 4, .inl g40)), (qa 41, .inl (cI, 4, .inl g41)), (qa 42, .inl (cI, 4, .inl g42)), (qa 43, .inl (cI, 4, .inl g43)), (qa 48, .inl (cI, 4, .inl u48_196)), (qa 49, .inl (cI, 4, .inl u49_23))] := hD
        generalize upd g39 cv tv_220 = u39_221 at hP hD
        exact LP222 u48_196 u39_221 (r_u48_196) _ _ hP hD hS _ (lv_sub hl [0, 1, 2, 3] rfl)
      refine lv_iload_n hx hb dX11_reckons_144 rfl (lv_at hl 0 rfl) ?_
      refine lv_bipush (v := 6) hx hb dX11_reckons_145 (by decide) ?_
      refine lv_icmp_ne (tgt := 222) hx hb dX11_reckons_147 (by decide) (fun c_147 => ?_) (fun c_147 => ?_)
      · exact LP222 ja48 g39 (r_ja48) _ _ hP hD hS _ (lv_sub hl [0, 1, 2, 3] rfl)
      refine lv_aload_n hx hb dX11_reckons_150 rfl (lv_at hl 1 rfl) ?_
      refine va_get (D := (dC, dI)) (ci := 10) (v := .ref (qa 48)) (C := RX11) (T := TX11) (N := 53) hx hb hts iwX11 hown hK hP 0 rfl rfl 48 (by decide) (hts (.fieldLink RX11 107 "ModulePlayerModel" "soundPeriod" "[I") (List.mem_cons_of_mem _ kw_204)) (fun _ h9 => h9) rfl dX11_reckons_151 ?_
      refine lv_iload_n hx hb dX11_reckons_154 rfl (lv_at hl 2 rfl) ?_
      refine lv_bipush (v := 54) hx hb dX11_reckons_155 (by decide) ?_
      refine lv_aload_n hx hb dX11_reckons_157 rfl (lv_at hl 1 rfl) ?_
      refine va_get (D := (dC, dI)) (ci := 10) (v := .ref (qa 34)) (C := RX11) (T := TX11) (N := 53) hx hb hts iwX11 hown hK hP 0 rfl rfl 34 (by decide) (hts (.fieldLink RX11 65 "ModulePlayerModel" "period" "[I") (List.mem_cons_of_mem _ kw_190)) (fun _ h9 => h9) rfl dX11_reckons_158 ?_
      refine lv_iload_n hx hb dX11_reckons_161 rfl (lv_at hl 2 rfl) ?_
      refine g_iald hx hb hK hP 2 0 rfl rfl cv (nI_clamp (Nat.lt_trans (show cv < 4 from by omega) (by decide))) (vp_in_nI (by omega) (by decide)) dX11_reckons_162 ?_
      obtain ⟨jn_162, hjn_162, ejn_162⟩ := rg_nat (kx := cv) (mx := 856) r_g34 (by omega) rfl
      refine g_topi (y := nI jn_162) ejn_162 ?_
      refine lv_aload_n hx hb dX11_reckons_163 rfl (lv_at hl 1 rfl) ?_
      refine va_get (D := (dC, dI)) (ci := 10) (v := .ref (qa 39)) (C := RX11) (T := TX11) (N := 53) hx hb hts iwX11 hown hK hP 0 rfl rfl 39 (by decide) (hts (.fieldLink RX11 80 "ModulePlayerModel" "vibPlace" "[I") (List.mem_cons_of_mem _ kw_195)) (fun _ h9 => h9) rfl dX11_reckons_164 ?_
      refine lv_iload_n hx hb dX11_reckons_167 rfl (lv_at hl 2 rfl) ?_
      refine g_iald hx hb hK hP 5 0 rfl rfl cv (nI_clamp (Nat.lt_trans (show cv < 4 from by omega) (by decide))) (vp_in_nI (by omega) (by decide)) dX11_reckons_168 ?_
      refine lv_topi (fun tv_168 etv_168 => ?_)
      refine lv_aload_n hx hb dX11_reckons_169 rfl (lv_at hl 1 rfl) ?_
      refine va_get (D := (dC, dI)) (ci := 10) (v := .ref (qa 40)) (C := RX11) (T := TX11) (N := 53) hx hb hts iwX11 hown hK hP 0 rfl rfl 40 (by decide) (hts (.fieldLink RX11 83 "ModulePlayerModel" "vibForm" "[I") (List.mem_cons_of_mem _ kw_196)) (fun _ h9 => h9) rfl dX11_reckons_170 ?_
      refine lv_iload_n hx hb dX11_reckons_173 rfl (lv_at hl 2 rfl) ?_
      refine g_iald hx hb hK hP 6 0 rfl rfl cv (nI_clamp (Nat.lt_trans (show cv < 4 from by omega) (by decide))) (vp_in_nI (by omega) (by decide)) dX11_reckons_174 ?_
      refine lv_topi (fun tv_174 etv_174 => ?_)
      refine g_calli (wr := [(h, .inr (10, mdF qa x0 x2 x3 x4 x13 x14 x15 x16 x17 x18 x19 x20 x21 x22 x23 x24 x26 x27 x28)), (qa 32, .inl (cI, 4, .inl g32)), (qa 34, .inl (cI, 4, .inl g34)), (qa 35, .inl (cI, 4, .inl g35)), (qa 38, .inl (cI, 4, .inl g38)), (qa 39, .inl (cI, 4, .inl g39)), (qa 40, .inl (cI, 4, .inl g40)), (qa 41, .inl (cI, 4, .inl g41)), (qa 42, .inl (cI, 4, .inl g42)), (qa 43, .inl (cI, 4, .inl g43)), (qa 48, .inl (cI, 4, .inl ja48)), (qa 49, .inl (cI, 4, .inl u49_23))]) (va_runS (As := [.int tv_168, .int tv_174]) (rest := [.int (nI jn_162), .int 54, .int (nI cv), .ref (qa 48)]) ⟨hx, hb, hml, hown, hts⟩ (m_wave l dC dI H.size tv_168 tv_174 ) (va_cwS 2 hts (gG_S kw_911 kw_912 kw_5 kw_913) rfl rfl rfl (by decide +kernel) ⟨Nat.le_of_ble_eq_true rfl, Nat.le_of_ble_eq_true rfl⟩) (g_preS hP hD hK hS hA hN hZ [] (by decide) rfl [] rfl) rfl rfl hl.1 rfl (lv_room (Nat.le_of_ble_eq_true rfl)) dX11_reckons_175 ⟨Nat.le_of_ble_eq_true rfl, Nat.le_of_ble_eq_true rfl⟩) hP hD hK hS hA [] [0, 1, 2, 3, 4, 5, 6, 7, 8, 9, 10, 11] rfl rfl (by decide +kernel) (by decide +kernel) (fun r_175 w ty1 H locs hw_175 hP hD _ hS => ?_)
      have hu := hw_175
      cases hu
      have hP : va_P (dC, dI) vwCl [(h, .inr (10, mdF qa x0 x2 x3 x4 x13 x14 x15 x16 x17 x18 x19 x20 x21 x22 x23 x24 x26 x27 x28)), (qa 32, .inl (cI, 4, .inl g32)), (qa 34, .inl (cI, 4, .inl g34)), (qa 35, .inl (cI, 4, .inl g35)), (qa 38, .inl (cI, 4, .inl g38)), (qa 39, .inl (cI, 4, .inl g39)), (qa 40, .inl (cI, 4, .inl g40)), (qa 41, .inl (cI, 4, .inl g41)), (qa 42, .inl (cI, 4, .inl g42)), (qa 43, .inl (cI, 4, .inl g43)), (qa 48, .inl (cI, 4, .inl ja48)), (qa 49, .inl (cI, 4, .inl u49_23))] H := hP
      have hD : va_D A [(h, .inr (10, mdF qa x0 x2 x3 x4 x13 x14 x15 x16 x17 x18 x19 x20 x21 x22 x23 x24 x26 x27 x28)), (qa 32, .inl (cI, 4, .inl g32)), (qa 34, .inl (cI, 4, .inl g34)), (qa 35, .inl (cI, 4, .inl g35)), (qa 38, .inl (cI, 4, .inl g38)), (qa 39, .inl (cI, 4, .inl g39)), (qa 40, .inl (cI, 4, .inl g40)), (qa 41, .inl (cI, 4, .inl g41)), (qa 42, .inl (cI, 4, .inl g42)), (qa 43, .inl (cI, 4, .inl g43)), (qa 48, .inl (cI, 4, .inl ja48)), (qa 49, .inl (cI, 4, .inl u49_23))] := hD
      refine lv_aload_n hx hb dX11_reckons_178 rfl (lv_at hl 1 rfl) ?_
      refine va_get (D := (dC, dI)) (ci := 10) (v := .ref (qa 38)) (C := RX11) (T := TX11) (N := 53) hx hb hts iwX11 hown hK hP 0 rfl rfl 38 (by decide) (hts (.fieldLink RX11 77 "ModulePlayerModel" "vib" "[I") (List.mem_cons_of_mem _ kw_194)) (fun _ h9 => h9) rfl dX11_reckons_179 ?_
      refine lv_iload_n hx hb dX11_reckons_182 rfl (lv_at hl 2 rfl) ?_
      refine g_iald hx hb hK hP 4 0 rfl rfl cv (nI_clamp (Nat.lt_trans (show cv < 4 from by omega) (by decide))) (vp_in_nI (by omega) (by decide)) dX11_reckons_183 ?_
      refine lv_topi (fun tv_183 etv_183 => ?_)
      refine g_calli (wr := [(h, .inr (10, mdF qa x0 x2 x3 x4 x13 x14 x15 x16 x17 x18 x19 x20 x21 x22 x23 x24 x26 x27 x28)), (qa 32, .inl (cI, 4, .inl g32)), (qa 34, .inl (cI, 4, .inl g34)), (qa 35, .inl (cI, 4, .inl g35)), (qa 38, .inl (cI, 4, .inl g38)), (qa 39, .inl (cI, 4, .inl g39)), (qa 40, .inl (cI, 4, .inl g40)), (qa 41, .inl (cI, 4, .inl g41)), (qa 42, .inl (cI, 4, .inl g42)), (qa 43, .inl (cI, 4, .inl g43)), (qa 48, .inl (cI, 4, .inl ja48)), (qa 49, .inl (cI, 4, .inl u49_23))]) (va_runS (As := [.int tv_183]) (rest := [.int r_175, .int (nI jn_162), .int 54, .int (nI cv), .ref (qa 48)]) ⟨hx, hb, hml, hown, hts⟩ (m_y l dC dI H.size tv_183 ) (va_cwS 1 hts (gG_S kw_865 kw_866 kw_5 kw_867) rfl rfl rfl (by decide +kernel) ⟨Nat.le_of_ble_eq_true rfl, Nat.le_of_ble_eq_true rfl⟩) (g_preS hP hD hK hS hA hN hZ [] (by decide) rfl [] rfl) rfl rfl hl.1 rfl (lv_room (Nat.le_of_ble_eq_true rfl)) dX11_reckons_184 ⟨Nat.le_of_ble_eq_true rfl, Nat.le_of_ble_eq_true rfl⟩) hP hD hK hS hA [] [0, 1, 2, 3, 4, 5, 6, 7, 8, 9, 10, 11] rfl rfl (by decide +kernel) (by decide +kernel) (fun r_184 w ty1 H locs hw_184 hP hD _ hS => ?_)
      rcases hw_184 with ⟨hu, hr_184⟩
      cases hu
      have hP : va_P (dC, dI) vwCl [(h, .inr (10, mdF qa x0 x2 x3 x4 x13 x14 x15 x16 x17 x18 x19 x20 x21 x22 x23 x24 x26 x27 x28)), (qa 32, .inl (cI, 4, .inl g32)), (qa 34, .inl (cI, 4, .inl g34)), (qa 35, .inl (cI, 4, .inl g35)), (qa 38, .inl (cI, 4, .inl g38)), (qa 39, .inl (cI, 4, .inl g39)), (qa 40, .inl (cI, 4, .inl g40)), (qa 41, .inl (cI, 4, .inl g41)), (qa 42, .inl (cI, 4, .inl g42)), (qa 43, .inl (cI, 4, .inl g43)), (qa 48, .inl (cI, 4, .inl ja48)), (qa 49, .inl (cI, 4, .inl u49_23))] H := hP
      have hD : va_D A [(h, .inr (10, mdF qa x0 x2 x3 x4 x13 x14 x15 x16 x17 x18 x19 x20 x21 x22 x23 x24 x26 x27 x28)), (qa 32, .inl (cI, 4, .inl g32)), (qa 34, .inl (cI, 4, .inl g34)), (qa 35, .inl (cI, 4, .inl g35)), (qa 38, .inl (cI, 4, .inl g38)), (qa 39, .inl (cI, 4, .inl g39)), (qa 40, .inl (cI, 4, .inl g40)), (qa 41, .inl (cI, 4, .inl g41)), (qa 42, .inl (cI, 4, .inl g42)), (qa 43, .inl (cI, 4, .inl g43)), (qa 48, .inl (cI, 4, .inl ja48)), (qa 49, .inl (cI, 4, .inl u49_23))] := hD
      refine g_topi (y := tv_183 &&& 15) hr_184 ?_
      refine lv_imul hx hb dX11_reckons_187 ?_
      refine lv_topi (fun tv_187 etv_187 => ?_)
      refine lv_sipush (v := 128) hx hb dX11_reckons_188 (by decide) ?_
      refine lv_idiv hx hb dX11_reckons_191 (by decide) ?_
      refine lv_topi (fun tv_191 etv_191 => ?_)
      refine lv_iadd hx hb dX11_reckons_192 ?_
      refine lv_topi (fun tv_192 etv_192 => ?_)
      refine va_mmax hx hb (by rw [hml]; exact hl.1.symm) hown (hts (.methodLink RX11 129 Lib.Math.max.name) (List.mem_cons_of_mem _ kw_212)) (hts (.static Lib.Math.max.name) (List.mem_cons_of_mem _ kw_102)) (hts (.initialized "java/lang/Math") (List.mem_cons_of_mem _ kw_103)) (hts (.code Lib.Math.max.name Lib.Math.max.code 2 (some .int)) (List.mem_cons_of_mem _ kw_104)) (Nat.le_of_ble_eq_true rfl) (Nat.le_of_ble_eq_true rfl) (Nat.le_of_ble_eq_true rfl) (Nat.le_of_ble_eq_true rfl) dX11_reckons_193 ?_
      refine lv_topi (fun tv_193 etv_193 => ?_)
      refine g_iast hx hb hK hP hD hS 10 0 rfl rfl cv (nI_clamp (Nat.lt_trans (show cv < 4 from by omega) (by decide))) (vp_in_nI (by omega) (by decide)) dX11_reckons_196 (fun H locs hP hD hS => ?_)
      have hP : va_P (dC, dI) vwCl [(h, .inr (10, mdF qa x0 x2 x3 x4 x13 x14 x15 x16 x17 x18 x19 x20 x21 x22 x23 x24 x26 x27 x28)), (qa 32, .inl (cI, 4, .inl g32)), (qa 34, .inl (cI, 4, .inl g34)), (qa 35, .inl (cI, 4, .inl g35)), (qa 38, .inl (cI, 4, .inl g38)), (qa 39, .inl (cI, 4, .inl g39)), (qa 40, .inl (cI, 4, .inl g40)), (qa 41, .inl (cI, 4, .inl g41)), (qa 42, .inl (cI, 4, .inl g42)), (qa 43, .inl (cI, 4, .inl g43)), (qa 48, .inl (cI, 4, .inl (upd ja48 cv tv_193))), (qa 49, .inl (cI, 4, .inl u49_23))] H := hP
      have hD : va_D A [(h, .inr (10, mdF qa x0 x2 x3 x4 x13 x14 x15 x16 x17 x18 x19 x20 x21 x22 x23 x24 x26 x27 x28)), (qa 32, .inl (cI, 4, .inl g32)), (qa 34, .inl (cI, 4, .inl g34)), (qa 35, .inl (cI, 4, .inl g35)), (qa 38, .inl (cI, 4, .inl g38)), (qa 39, .inl (cI, 4, .inl g39)), (qa 40, .inl (cI, 4, .inl g40)), (qa 41, .inl (cI, 4, .inl g41)), (qa 42, .inl (cI, 4, .inl g42)), (qa 43, .inl (cI, 4, .inl g43)), (qa 48, .inl (cI, 4, .inl (upd ja48 cv tv_193))), (qa 49, .inl (cI, 4, .inl u49_23))] := hD
      obtain ⟨u48_196, r_u48_196, eu48_196⟩ : ∃ ff : Nat → Int32, rg 4 0 2147483647 ff ∧ ff = upd ja48 cv tv_193 := ⟨upd ja48 cv tv_193, rg_upd2 r_ja48 (mx54 etv_193), rfl⟩
      rw [← eu48_196] at hP hD
      refine lv_aload_n hx hb dX11_reckons_197 rfl (lv_at hl 1 rfl) ?_
      refine va_get (D := (dC, dI)) (ci := 10) (v := .ref (qa 39)) (C := RX11) (T := TX11) (N := 53) hx hb hts iwX11 hown hK hP 0 rfl rfl 39 (by decide) (hts (.fieldLink RX11 80 "ModulePlayerModel" "vibPlace" "[I") (List.mem_cons_of_mem _ kw_195)) (fun _ h9 => h9) rfl dX11_reckons_198 ?_
      refine lv_iload_n hx hb dX11_reckons_201 rfl (lv_at hl 2 rfl) ?_
      refine lv_aload_n hx hb dX11_reckons_202 rfl (lv_at hl 1 rfl) ?_
      refine va_get (D := (dC, dI)) (ci := 10) (v := .ref (qa 39)) (C := RX11) (T := TX11) (N := 53) hx hb hts iwX11 hown hK hP 0 rfl rfl 39 (by decide) (hts (.fieldLink RX11 80 "ModulePlayerModel" "vibPlace" "[I") (List.mem_cons_of_mem _ kw_195)) (fun _ h9 => h9) rfl dX11_reckons_203 ?_
      refine lv_iload_n hx hb dX11_reckons_206 rfl (lv_at hl 2 rfl) ?_
      refine g_iald hx hb hK hP 5 0 rfl rfl cv (nI_clamp (Nat.lt_trans (show cv < 4 from by omega) (by decide))) (vp_in_nI (by omega) (by decide)) dX11_reckons_207 ?_
      refine lv_topi (fun tv_207 etv_207 => ?_)
      refine lv_aload_n hx hb dX11_reckons_208 rfl (lv_at hl 1 rfl) ?_
      refine va_get (D := (dC, dI)) (ci := 10) (v := .ref (qa 38)) (C := RX11) (T := TX11) (N := 53) hx hb hts iwX11 hown hK hP 0 rfl rfl 38 (by decide) (hts (.fieldLink RX11 77 "ModulePlayerModel" "vib" "[I") (List.mem_cons_of_mem _ kw_194)) (fun _ h9 => h9) rfl dX11_reckons_209 ?_
      refine lv_iload_n hx hb dX11_reckons_212 rfl (lv_at hl 2 rfl) ?_
      refine g_iald hx hb hK hP 4 0 rfl rfl cv (nI_clamp (Nat.lt_trans (show cv < 4 from by omega) (by decide))) (vp_in_nI (by omega) (by decide)) dX11_reckons_213 ?_
      refine lv_topi (fun tv_213 etv_213 => ?_)
      refine g_calli (wr := [(h, .inr (10, mdF qa x0 x2 x3 x4 x13 x14 x15 x16 x17 x18 x19 x20 x21 x22 x23 x24 x26 x27 x28)), (qa 32, .inl (cI, 4, .inl g32)), (qa 34, .inl (cI, 4, .inl g34)), (qa 35, .inl (cI, 4, .inl g35)), (qa 38, .inl (cI, 4, .inl g38)), (qa 39, .inl (cI, 4, .inl g39)), (qa 40, .inl (cI, 4, .inl g40)), (qa 41, .inl (cI, 4, .inl g41)), (qa 42, .inl (cI, 4, .inl g42)), (qa 43, .inl (cI, 4, .inl g43)), (qa 48, .inl (cI, 4, .inl u48_196)), (qa 49, .inl (cI, 4, .inl u49_23))]) (va_runS (As := [.int tv_213]) (rest := [.int tv_207, .int (nI cv), .ref (qa 39)]) ⟨hx, hb, hml, hown, hts⟩ (m_x l dC dI H.size tv_213 ) (va_cwS 1 hts (gG_S kw_862 kw_863 kw_5 kw_864) rfl rfl rfl (by decide +kernel) ⟨Nat.le_of_ble_eq_true rfl, Nat.le_of_ble_eq_true rfl⟩) (g_preS hP hD hK hS hA hN hZ [] (by decide) rfl [] rfl) rfl rfl hl.1 rfl (lv_room (Nat.le_of_ble_eq_true rfl)) dX11_reckons_214 ⟨Nat.le_of_ble_eq_true rfl, Nat.le_of_ble_eq_true rfl⟩) hP hD hK hS hA [] [0, 1, 2, 3, 4, 5, 6, 7, 8, 9, 10, 11] rfl rfl (by decide +kernel) (by decide +kernel) (fun r_214 w ty1 H locs hw_214 hP hD _ hS => ?_)
      rcases hw_214 with ⟨hu, hr_214⟩
      cases hu
      have hP : va_P (dC, dI) vwCl [(h, .inr (10, mdF qa x0 x2 x3 x4 x13 x14 x15 x16 x17 x18 x19 x20 x21 x22 x23 x24 x26 x27 x28)), (qa 32, .inl (cI, 4, .inl g32)), (qa 34, .inl (cI, 4, .inl g34)), (qa 35, .inl (cI, 4, .inl g35)), (qa 38, .inl (cI, 4, .inl g38)), (qa 39, .inl (cI, 4, .inl g39)), (qa 40, .inl (cI, 4, .inl g40)), (qa 41, .inl (cI, 4, .inl g41)), (qa 42, .inl (cI, 4, .inl g42)), (qa 43, .inl (cI, 4, .inl g43)), (qa 48, .inl (cI, 4, .inl u48_196)), (qa 49, .inl (cI, 4, .inl u49_23))] H := hP
      have hD : va_D A [(h, .inr (10, mdF qa x0 x2 x3 x4 x13 x14 x15 x16 x17 x18 x19 x20 x21 x22 x23 x24 x26 x27 x28)), (qa 32, .inl (cI, 4, .inl g32)), (qa 34, .inl (cI, 4, .inl g34)), (qa 35, .inl (cI, 4, .inl g35)), (qa 38, .inl (cI, 4, .inl g38)), (qa 39, .inl (cI, 4, .inl g39)), (qa 40, .inl (cI, 4, .inl g40)), (qa 41, .inl (cI, 4, .inl g41)), (qa 42, .inl (cI, 4, .inl g42)), (qa 43, .inl (cI, 4, .inl g43)), (qa 48, .inl (cI, 4, .inl u48_196)), (qa 49, .inl (cI, 4, .inl u49_23))] := hD
      refine g_topi (y := (tv_213 >>> (4 &&& 31)) &&& 15) hr_214 ?_
      refine lv_iadd hx hb dX11_reckons_217 ?_
      refine lv_topi (fun tv_217 etv_217 => ?_)
      refine lv_bipush (v := 64) hx hb dX11_reckons_218 (by decide) ?_
      refine lv_irem hx hb dX11_reckons_220 (by decide) ?_
      refine lv_topi (fun tv_220 etv_220 => ?_)
      refine g_iast hx hb hK hP hD hS 5 0 rfl rfl cv (nI_clamp (Nat.lt_trans (show cv < 4 from by omega) (by decide))) (vp_in_nI (by omega) (by decide)) dX11_reckons_221 (fun H locs hP hD hS => ?_)
      have hP : va_P (dC, dI) vwCl [(h, .inr (10, mdF qa x0 x2 x3 x4 x13 x14 x15 x16 x17 x18 x19 x20 x21 x22 x23 x24 x26 x27 x28)), (qa 32, .inl (cI, 4, .inl g32)), (qa 34, .inl (cI, 4, .inl g34)), (qa 35, .inl (cI, 4, .inl g35)), (qa 38, .inl (cI, 4, .inl g38)), (qa 39, .inl (cI, 4, .inl (upd g39 cv tv_220))), (qa 40, .inl (cI, 4, .inl g40)), (qa 41, .inl (cI, 4, .inl g41)), (qa 42, .inl (cI, 4, .inl g42)), (qa 43, .inl (cI, 4, .inl g43)), (qa 48, .inl (cI, 4, .inl u48_196)), (qa 49, .inl (cI, 4, .inl u49_23))] H := hP
      have hD : va_D A [(h, .inr (10, mdF qa x0 x2 x3 x4 x13 x14 x15 x16 x17 x18 x19 x20 x21 x22 x23 x24 x26 x27 x28)), (qa 32, .inl (cI, 4, .inl g32)), (qa 34, .inl (cI, 4, .inl g34)), (qa 35, .inl (cI, 4, .inl g35)), (qa 38, .inl (cI, 4, .inl g38)), (qa 39, .inl (cI, 4, .inl (upd g39 cv tv_220))), (qa 40, .inl (cI, 4, .inl g40)), (qa 41, .inl (cI, 4, .inl g41)), (qa 42, .inl (cI, 4, .inl g42)), (qa 43, .inl (cI, 4, .inl g43)), (qa 48, .inl (cI, 4, .inl u48_196)), (qa 49, .inl (cI, 4, .inl u49_23))] := hD
      generalize upd g39 cv tv_220 = u39_221 at hP hD
      exact LP222 u48_196 u39_221 (r_u48_196) _ _ hP hD hS _ (lv_sub hl [0, 1, 2, 3] rfl)
    refine lv_iload_n hx hb dX11_reckons_46 rfl (lv_at hl 0 rfl) ?_
    refine lv_if_ne (tgt := 139) hx hb dX11_reckons_47 (by decide) (fun c_47 => ?_) (fun c_47 => ?_)
    · exact LP139 u48_11 (r_u48_11) _ _ hP hD hS _ (lv_sub hl [0, 1, 2, 3] rfl)
    refine lv_iload_n hx hb dX11_reckons_50 rfl (lv_at hl 3 rfl) ?_
    refine lv_sipush (v := 255) hx hb dX11_reckons_51 (by decide) ?_
    refine lv_iand hx hb dX11_reckons_54 ?_
    refine lv_topi (fun tv_54 etv_54 => ?_)
    refine lv_if_eq (tgt := 139) hx hb dX11_reckons_55 (by decide) (fun c_55 => ?_) (fun c_55 => ?_)
    · exact LP139 u48_11 (r_u48_11) _ _ hP hD hS _ (lv_sub hl [0, 1, 2, 3] rfl)
    refine lv_aload_n hx hb dX11_reckons_58 rfl (lv_at hl 1 rfl) ?_
    refine va_get (D := (dC, dI)) (ci := 10) (v := .int x19) (C := RX11) (T := TX11) (N := 53) hx hb hts iwX11 hown hK hP 0 rfl rfl 19 (by decide) (hts (.fieldLink RX11 209 "ModulePlayerModel" "tick" "I") (List.mem_cons_of_mem _ kw_222)) (fun _ h9 => h9) rfl dX11_reckons_59 ?_
    refine lv_iconst (v := 3) hx hb dX11_reckons_62 (by decide) ?_
    refine lv_irem hx hb dX11_reckons_63 (by decide) ?_
    refine lv_topi (fun tv_63 etv_63 => ?_)
    refine lv_if_eq (tgt := 139) hx hb dX11_reckons_64 (by decide) (fun c_64 => ?_) (fun c_64 => ?_)
    · exact LP139 u48_11 (r_u48_11) _ _ hP hD hS _ (lv_sub hl [0, 1, 2, 3] rfl)
    refine lv_aload_n hx hb dX11_reckons_67 rfl (lv_at hl 1 rfl) ?_
    refine va_get (D := (dC, dI)) (ci := 10) (v := .ref (qa 35)) (C := RX11) (T := TX11) (N := 53) hx hb hts iwX11 hown hK hP 0 rfl rfl 35 (by decide) (hts (.fieldLink RX11 68 "ModulePlayerModel" "note" "[I") (List.mem_cons_of_mem _ kw_191)) (fun _ h9 => h9) rfl dX11_reckons_68 ?_
    refine lv_iload_n hx hb dX11_reckons_71 rfl (lv_at hl 2 rfl) ?_
    refine g_iald hx hb hK hP 3 0 rfl rfl cv (nI_clamp (Nat.lt_trans (show cv < 4 from by omega) (by decide))) (vp_in_nI (by omega) (by decide)) dX11_reckons_72 ?_
    refine lv_topi (fun tv_72 etv_72 => ?_)
    refine lv_istore (lv' := [(4, .int tv_72), (3, .int ((v >>> (8 &&& 31)) &&& 15)), (0, .ref h), (1, .int (nI cv)), (2, .int v)]) hx hb dX11_reckons_73 hl (by decide) rfl (fun ls hl => ?_)
    refine lv_aload_n hx hb dX11_reckons_75 rfl (lv_at hl 2 rfl) ?_
    refine va_get (D := (dC, dI)) (ci := 10) (v := .int x19) (C := RX11) (T := TX11) (N := 53) hx hb hts iwX11 hown hK hP 0 rfl rfl 19 (by decide) (hts (.fieldLink RX11 209 "ModulePlayerModel" "tick" "I") (List.mem_cons_of_mem _ kw_222)) (fun _ h9 => h9) rfl dX11_reckons_76 ?_
    refine lv_iconst (v := 3) hx hb dX11_reckons_79 (by decide) ?_
    refine lv_irem hx hb dX11_reckons_80 (by decide) ?_
    refine lv_topi (fun tv_80 etv_80 => ?_)
    refine lv_iconst (v := 1) hx hb dX11_reckons_81 (by decide) ?_
    refine lv_icmp_ne (tgt := 92) hx hb dX11_reckons_82 (by decide) (fun c_82 => ?_) (fun c_82 => ?_)
    · refine lv_iload_n hx hb dX11_reckons_92 rfl (lv_at hl 4 rfl) ?_
      refine g_calli (wr := [(h, .inr (10, mdF qa x0 x2 x3 x4 x13 x14 x15 x16 x17 x18 x19 x20 x21 x22 x23 x24 x26 x27 x28)), (qa 32, .inl (cI, 4, .inl g32)), (qa 34, .inl (cI, 4, .inl g34)), (qa 35, .inl (cI, 4, .inl g35)), (qa 38, .inl (cI, 4, .inl g38)), (qa 39, .inl (cI, 4, .inl g39)), (qa 40, .inl (cI, 4, .inl g40)), (qa 41, .inl (cI, 4, .inl g41)), (qa 42, .inl (cI, 4, .inl g42)), (qa 43, .inl (cI, 4, .inl g43)), (qa 48, .inl (cI, 4, .inl u48_11)), (qa 49, .inl (cI, 4, .inl u49_23))]) (va_runS (As := [.int v]) (rest := []) ⟨hx, hb, hml, hown, hts⟩ (m_y l dC dI H.size v ) (va_cwS 1 hts (gG_S kw_865 kw_866 kw_5 kw_867) rfl rfl rfl (by decide +kernel) ⟨Nat.le_of_ble_eq_true rfl, Nat.le_of_ble_eq_true rfl⟩) (g_preS hP hD hK hS hA hN hZ [] (by decide) rfl [] rfl) rfl rfl hl.1 rfl (lv_room (Nat.le_of_ble_eq_true rfl)) dX11_reckons_93 ⟨Nat.le_of_ble_eq_true rfl, Nat.le_of_ble_eq_true rfl⟩) hP hD hK hS hA [] [0, 1, 2, 3, 4, 5, 6, 7, 8, 9, 10, 11] rfl rfl (by decide +kernel) (by decide +kernel) (fun r_93 w ty1 H locs hw_93 hP hD _ hS => ?_)
      rcases hw_93 with ⟨hu, hr_93⟩
      cases hu
      have hP : va_P (dC, dI) vwCl [(h, .inr (10, mdF qa x0 x2 x3 x4 x13 x14 x15 x16 x17 x18 x19 x20 x21 x22 x23 x24 x26 x27 x28)), (qa 32, .inl (cI, 4, .inl g32)), (qa 34, .inl (cI, 4, .inl g34)), (qa 35, .inl (cI, 4, .inl g35)), (qa 38, .inl (cI, 4, .inl g38)), (qa 39, .inl (cI, 4, .inl g39)), (qa 40, .inl (cI, 4, .inl g40)), (qa 41, .inl (cI, 4, .inl g41)), (qa 42, .inl (cI, 4, .inl g42)), (qa 43, .inl (cI, 4, .inl g43)), (qa 48, .inl (cI, 4, .inl u48_11)), (qa 49, .inl (cI, 4, .inl u49_23))] H := hP
      have hD : va_D A [(h, .inr (10, mdF qa x0 x2 x3 x4 x13 x14 x15 x16 x17 x18 x19 x20 x21 x22 x23 x24 x26 x27 x28)), (qa 32, .inl (cI, 4, .inl g32)), (qa 34, .inl (cI, 4, .inl g34)), (qa 35, .inl (cI, 4, .inl g35)), (qa 38, .inl (cI, 4, .inl g38)), (qa 39, .inl (cI, 4, .inl g39)), (qa 40, .inl (cI, 4, .inl g40)), (qa 41, .inl (cI, 4, .inl g41)), (qa 42, .inl (cI, 4, .inl g42)), (qa 43, .inl (cI, 4, .inl g43)), (qa 48, .inl (cI, 4, .inl u48_11)), (qa 49, .inl (cI, 4, .inl u49_23))] := hD
      refine g_topi (y := v &&& 15) hr_93 ?_
      refine lv_istore (lv' := [(5, .int (v &&& 15)), (4, .int tv_72), (3, .int ((v >>> (8 &&& 31)) &&& 15)), (0, .ref h), (1, .int (nI cv)), (2, .int v)]) hx hb dX11_reckons_96 hl (by decide) rfl (fun ls hl => ?_)
      refine lv_iconst (v := 0) hx hb dX11_reckons_98 (by decide) ?_
      refine lv_istore (lv' := [(6, .int 0), (5, .int (v &&& 15)), (4, .int tv_72), (3, .int ((v >>> (8 &&& 31)) &&& 15)), (0, .ref h), (1, .int (nI cv)), (2, .int v)]) hx hb dX11_reckons_99 hl (by decide) rfl (fun ls hl => ?_)
      obtain ⟨hTz, ehTz⟩ : ∃ xx : Nat, xx = (v &&& 15).toInt.toNat := ⟨_, rfl⟩
      have LP101 : ∀ (fu101 : Nat) (q101 : Nat) (pp_ : Int32) (hq101 : q101 < 2147483648) (hm101 : hTz - q101 < fu101) (H : Heap) (locs : List Loc), va_P (dC, dI) vwCl [(h, .inr (10, mdF qa x0 x2 x3 x4 x13 x14 x15 x16 x17 x18 x19 x20 x21 x22 x23 x24 x26 x27 x28)), (qa 32, .inl (cI, 4, .inl g32)), (qa 34, .inl (cI, 4, .inl g34)), (qa 35, .inl (cI, 4, .inl g35)), (qa 38, .inl (cI, 4, .inl g38)), (qa 39, .inl (cI, 4, .inl g39)), (qa 40, .inl (cI, 4, .inl g40)), (qa 41, .inl (cI, 4, .inl g41)), (qa 42, .inl (cI, 4, .inl g42)), (qa 43, .inl (cI, 4, .inl g43)), (qa 48, .inl (cI, 4, .inl u48_11)), (qa 49, .inl (cI, 4, .inl u49_23))] H → va_D A [(h, .inr (10, mdF qa x0 x2 x3 x4 x13 x14 x15 x16 x17 x18 x19 x20 x21 x22 x23 x24 x26 x27 x28)), (qa 32, .inl (cI, 4, .inl g32)), (qa 34, .inl (cI, 4, .inl g34)), (qa 35, .inl (cI, 4, .inl g35)), (qa 38, .inl (cI, 4, .inl g38)), (qa 39, .inl (cI, 4, .inl g39)), (qa 40, .inl (cI, 4, .inl g40)), (qa 41, .inl (cI, 4, .inl g41)), (qa 42, .inl (cI, 4, .inl g42)), (qa 43, .inl (cI, 4, .inl g43)), (qa 48, .inl (cI, 4, .inl u48_11)), (qa 49, .inl (cI, 4, .inl u49_23))] → va_S A s.heap H locs → ∀ ls : Array Slot, lv_has ls 7 [(6, .int (nI q101)), (5, .int (v &&& 15)), (4, .int pp_), (3, .int ((v >>> (8 &&& 31)) &&& 15)), (0, .ref h), (1, .int (nI cv)), (2, .int v)] → W p l e ({ frames := 2, cells := 0, slots := 0, locals := 36 }) s m ([.ref h, .int (nI cv), .int v] : List Value).toArray below meth c H locs (0) (0) (MQ below (va_Qv (fun u : va_W × gT => ∃ (k39 : Nat → Int32) (k42 : Nat → Int32) (k48 : Nat → Int32) (k49 : Nat → Int32), u = ([(h, .inr (10, mdF qa x0 x2 x3 x4 x13 x14 x15 x16 x17 x18 x19 x20 x21 x22 x23 x24 x26 x27 x28)), (qa 32, .inl (cI, 4, .inl g32)), (qa 34, .inl (cI, 4, .inl g34)), (qa 35, .inl (cI, 4, .inl g35)), (qa 38, .inl (cI, 4, .inl g38)), (qa 39, .inl (cI, 4, .inl k39)), (qa 40, .inl (cI, 4, .inl g40)), (qa 41, .inl (cI, 4, .inl g41)), (qa 42, .inl (cI, 4, .inl k42)), (qa 43, .inl (cI, 4, .inl g43)), (qa 48, .inl (cI, 4, .inl k48)), (qa 49, .inl (cI, 4, .inl k49))], []) ∧ rg 4 0 2147483647 k48) (gB (dC, dI) A) A) ([.ref h, .int (nI cv), .int v] : List Value).toArray s 0 0 A) (F0 m 101 ls []) := by
        intro fu101
        induction fu101 with
        | zero => intro q101 pp_ hq101 hm101; exact absurd hm101 (Nat.not_lt_zero _)
        | succ fu101 ih101 =>
          intro q101 pp_ hq101 hm101 H locs hP hD hS ls hl
          refine lv_iload hx hb dX11_reckons_101 (lv_at hl 0 rfl) ?_
          refine lv_iload hx hb dX11_reckons_103 (lv_at hl 1 rfl) ?_
          refine lv_icmp_ge (tgt := 126) hx hb dX11_reckons_105 (by decide) (fun c_105 => ?_) (fun c_105 => ?_)
          · refine lv_aload_n hx hb dX11_reckons_126 rfl (lv_at hl 4 rfl) ?_
            refine va_get (D := (dC, dI)) (ci := 10) (v := .ref (qa 48)) (C := RX11) (T := TX11) (N := 53) hx hb hts iwX11 hown hK hP 0 rfl rfl 48 (by decide) (hts (.fieldLink RX11 107 "ModulePlayerModel" "soundPeriod" "[I") (List.mem_cons_of_mem _ kw_204)) (fun _ h9 => h9) rfl dX11_reckons_127 ?_
            refine lv_iload_n hx hb dX11_reckons_130 rfl (lv_at hl 5 rfl) ?_
            refine lv_bipush (v := 54) hx hb dX11_reckons_131 (by decide) ?_
            refine lv_iload hx hb dX11_reckons_133 (lv_at hl 2 rfl) ?_
            refine va_mmax hx hb (by rw [hml]; exact hl.1.symm) hown (hts (.methodLink RX11 129 Lib.Math.max.name) (List.mem_cons_of_mem _ kw_212)) (hts (.static Lib.Math.max.name) (List.mem_cons_of_mem _ kw_102)) (hts (.initialized "java/lang/Math") (List.mem_cons_of_mem _ kw_103)) (hts (.code Lib.Math.max.name Lib.Math.max.code 2 (some .int)) (List.mem_cons_of_mem _ kw_104)) (Nat.le_of_ble_eq_true rfl) (Nat.le_of_ble_eq_true rfl) (Nat.le_of_ble_eq_true rfl) (Nat.le_of_ble_eq_true rfl) dX11_reckons_135 ?_
            refine lv_topi (fun tv_135 etv_135 => ?_)
            refine g_iast hx hb hK hP hD hS 10 0 rfl rfl cv (nI_clamp (Nat.lt_trans (show cv < 4 from by omega) (by decide))) (vp_in_nI (by omega) (by decide)) dX11_reckons_138 (fun H locs hP hD hS => ?_)
            have hP : va_P (dC, dI) vwCl [(h, .inr (10, mdF qa x0 x2 x3 x4 x13 x14 x15 x16 x17 x18 x19 x20 x21 x22 x23 x24 x26 x27 x28)), (qa 32, .inl (cI, 4, .inl g32)), (qa 34, .inl (cI, 4, .inl g34)), (qa 35, .inl (cI, 4, .inl g35)), (qa 38, .inl (cI, 4, .inl g38)), (qa 39, .inl (cI, 4, .inl g39)), (qa 40, .inl (cI, 4, .inl g40)), (qa 41, .inl (cI, 4, .inl g41)), (qa 42, .inl (cI, 4, .inl g42)), (qa 43, .inl (cI, 4, .inl g43)), (qa 48, .inl (cI, 4, .inl (upd u48_11 cv tv_135))), (qa 49, .inl (cI, 4, .inl u49_23))] H := hP
            have hD : va_D A [(h, .inr (10, mdF qa x0 x2 x3 x4 x13 x14 x15 x16 x17 x18 x19 x20 x21 x22 x23 x24 x26 x27 x28)), (qa 32, .inl (cI, 4, .inl g32)), (qa 34, .inl (cI, 4, .inl g34)), (qa 35, .inl (cI, 4, .inl g35)), (qa 38, .inl (cI, 4, .inl g38)), (qa 39, .inl (cI, 4, .inl g39)), (qa 40, .inl (cI, 4, .inl g40)), (qa 41, .inl (cI, 4, .inl g41)), (qa 42, .inl (cI, 4, .inl g42)), (qa 43, .inl (cI, 4, .inl g43)), (qa 48, .inl (cI, 4, .inl (upd u48_11 cv tv_135))), (qa 49, .inl (cI, 4, .inl u49_23))] := hD
            obtain ⟨u48_138, r_u48_138, eu48_138⟩ : ∃ ff : Nat → Int32, rg 4 0 2147483647 ff ∧ ff = upd u48_11 cv tv_135 := ⟨upd u48_11 cv tv_135, rg_upd2 r_u48_11 (mx54 etv_135), rfl⟩
            rw [← eu48_138] at hP hD
            exact LP139 u48_138 (r_u48_138) _ _ hP hD hS _ (lv_sub hl [3, 4, 5, 6] rfl)
          refine lv_iload hx hb dX11_reckons_108 (lv_at hl 2 rfl) ?_
          refine lv_sipush (v := 17843) hx hb dX11_reckons_110 (by decide) ?_
          refine lv_imul hx hb dX11_reckons_113 ?_
          refine lv_topi (fun tv_113 etv_113 => ?_)
          refine lv_sipush (v := 18904) hx hb dX11_reckons_114 (by decide) ?_
          refine lv_idiv hx hb dX11_reckons_117 (by decide) ?_
          refine lv_topi (fun tv_117 etv_117 => ?_)
          refine lv_istore (lv' := [(4, .int tv_117), (6, .int (nI q101)), (5, .int (v &&& 15)), (3, .int ((v >>> (8 &&& 31)) &&& 15)), (0, .ref h), (1, .int (nI cv)), (2, .int v)]) hx hb dX11_reckons_118 hl (by decide) rfl (fun ls hl => ?_)
          refine lv_iinc (v := nI (q101 + 1)) (lv' := [(6, .int (nI (q101 + 1))), (4, .int tv_117), (5, .int (v &&& 15)), (3, .int ((v >>> (8 &&& 31)) &&& 15)), (0, .ref h), (1, .int (nI cv)), (2, .int v)]) hx hb dX11_reckons_120 hl (k := 1) rfl (nI_1 q101) (by decide) rfl (fun ls hl => ?_)
          refine lv_goto (tgt := 101) hx hb dX11_reckons_123 (by decide) ?_
          exact ih101 (q101 + 1) tv_117 (by have := ht_lt ehTz c_105 hq101; omega) (by have := ht_lt ehTz c_105 hq101; omega) _ _ hP hD hS _ (lv_sub hl [0, 2, 1, 3, 4, 5, 6] rfl)
      exact LP101 _ 0 tv_72 (by decide) (Nat.lt_succ_self _) _ _ hP hD hS _ (lv_sub hl [0, 1, 2, 3, 4, 5, 6] rfl)
    refine lv_iload_n hx hb dX11_reckons_85 rfl (lv_at hl 4 rfl) ?_
    refine g_calli (wr := [(h, .inr (10, mdF qa x0 x2 x3 x4 x13 x14 x15 x16 x17 x18 x19 x20 x21 x22 x23 x24 x26 x27 x28)), (qa 32, .inl (cI, 4, .inl g32)), (qa 34, .inl (cI, 4, .inl g34)), (qa 35, .inl (cI, 4, .inl g35)), (qa 38, .inl (cI, 4, .inl g38)), (qa 39, .inl (cI, 4, .inl g39)), (qa 40, .inl (cI, 4, .inl g40)), (qa 41, .inl (cI, 4, .inl g41)), (qa 42, .inl (cI, 4, .inl g42)), (qa 43, .inl (cI, 4, .inl g43)), (qa 48, .inl (cI, 4, .inl u48_11)), (qa 49, .inl (cI, 4, .inl u49_23))]) (va_runS (As := [.int v]) (rest := []) ⟨hx, hb, hml, hown, hts⟩ (m_x l dC dI H.size v ) (va_cwS 1 hts (gG_S kw_862 kw_863 kw_5 kw_864) rfl rfl rfl (by decide +kernel) ⟨Nat.le_of_ble_eq_true rfl, Nat.le_of_ble_eq_true rfl⟩) (g_preS hP hD hK hS hA hN hZ [] (by decide) rfl [] rfl) rfl rfl hl.1 rfl (lv_room (Nat.le_of_ble_eq_true rfl)) dX11_reckons_86 ⟨Nat.le_of_ble_eq_true rfl, Nat.le_of_ble_eq_true rfl⟩) hP hD hK hS hA [] [0, 1, 2, 3, 4, 5, 6, 7, 8, 9, 10, 11] rfl rfl (by decide +kernel) (by decide +kernel) (fun r_86 w ty1 H locs hw_86 hP hD _ hS => ?_)
    rcases hw_86 with ⟨hu, hr_86⟩
    cases hu
    have hP : va_P (dC, dI) vwCl [(h, .inr (10, mdF qa x0 x2 x3 x4 x13 x14 x15 x16 x17 x18 x19 x20 x21 x22 x23 x24 x26 x27 x28)), (qa 32, .inl (cI, 4, .inl g32)), (qa 34, .inl (cI, 4, .inl g34)), (qa 35, .inl (cI, 4, .inl g35)), (qa 38, .inl (cI, 4, .inl g38)), (qa 39, .inl (cI, 4, .inl g39)), (qa 40, .inl (cI, 4, .inl g40)), (qa 41, .inl (cI, 4, .inl g41)), (qa 42, .inl (cI, 4, .inl g42)), (qa 43, .inl (cI, 4, .inl g43)), (qa 48, .inl (cI, 4, .inl u48_11)), (qa 49, .inl (cI, 4, .inl u49_23))] H := hP
    have hD : va_D A [(h, .inr (10, mdF qa x0 x2 x3 x4 x13 x14 x15 x16 x17 x18 x19 x20 x21 x22 x23 x24 x26 x27 x28)), (qa 32, .inl (cI, 4, .inl g32)), (qa 34, .inl (cI, 4, .inl g34)), (qa 35, .inl (cI, 4, .inl g35)), (qa 38, .inl (cI, 4, .inl g38)), (qa 39, .inl (cI, 4, .inl g39)), (qa 40, .inl (cI, 4, .inl g40)), (qa 41, .inl (cI, 4, .inl g41)), (qa 42, .inl (cI, 4, .inl g42)), (qa 43, .inl (cI, 4, .inl g43)), (qa 48, .inl (cI, 4, .inl u48_11)), (qa 49, .inl (cI, 4, .inl u49_23))] := hD
    refine g_topi (y := (v >>> (4 &&& 31)) &&& 15) hr_86 ?_
    refine lv_goto (tgt := 96) hx hb dX11_reckons_89 (by decide) ?_
    refine lv_istore (lv' := [(5, .int ((v >>> (4 &&& 31)) &&& 15)), (4, .int tv_72), (3, .int ((v >>> (8 &&& 31)) &&& 15)), (0, .ref h), (1, .int (nI cv)), (2, .int v)]) hx hb dX11_reckons_96 hl (by decide) rfl (fun ls hl => ?_)
    refine lv_iconst (v := 0) hx hb dX11_reckons_98 (by decide) ?_
    refine lv_istore (lv' := [(6, .int 0), (5, .int ((v >>> (4 &&& 31)) &&& 15)), (4, .int tv_72), (3, .int ((v >>> (8 &&& 31)) &&& 15)), (0, .ref h), (1, .int (nI cv)), (2, .int v)]) hx hb dX11_reckons_99 hl (by decide) rfl (fun ls hl => ?_)
    obtain ⟨hTz, ehTz⟩ : ∃ xx : Nat, xx = ((v >>> (4 &&& 31)) &&& 15).toInt.toNat := ⟨_, rfl⟩
    have LP101 : ∀ (fu101 : Nat) (q101 : Nat) (pp_ : Int32) (hq101 : q101 < 2147483648) (hm101 : hTz - q101 < fu101) (H : Heap) (locs : List Loc), va_P (dC, dI) vwCl [(h, .inr (10, mdF qa x0 x2 x3 x4 x13 x14 x15 x16 x17 x18 x19 x20 x21 x22 x23 x24 x26 x27 x28)), (qa 32, .inl (cI, 4, .inl g32)), (qa 34, .inl (cI, 4, .inl g34)), (qa 35, .inl (cI, 4, .inl g35)), (qa 38, .inl (cI, 4, .inl g38)), (qa 39, .inl (cI, 4, .inl g39)), (qa 40, .inl (cI, 4, .inl g40)), (qa 41, .inl (cI, 4, .inl g41)), (qa 42, .inl (cI, 4, .inl g42)), (qa 43, .inl (cI, 4, .inl g43)), (qa 48, .inl (cI, 4, .inl u48_11)), (qa 49, .inl (cI, 4, .inl u49_23))] H → va_D A [(h, .inr (10, mdF qa x0 x2 x3 x4 x13 x14 x15 x16 x17 x18 x19 x20 x21 x22 x23 x24 x26 x27 x28)), (qa 32, .inl (cI, 4, .inl g32)), (qa 34, .inl (cI, 4, .inl g34)), (qa 35, .inl (cI, 4, .inl g35)), (qa 38, .inl (cI, 4, .inl g38)), (qa 39, .inl (cI, 4, .inl g39)), (qa 40, .inl (cI, 4, .inl g40)), (qa 41, .inl (cI, 4, .inl g41)), (qa 42, .inl (cI, 4, .inl g42)), (qa 43, .inl (cI, 4, .inl g43)), (qa 48, .inl (cI, 4, .inl u48_11)), (qa 49, .inl (cI, 4, .inl u49_23))] → va_S A s.heap H locs → ∀ ls : Array Slot, lv_has ls 7 [(6, .int (nI q101)), (5, .int ((v >>> (4 &&& 31)) &&& 15)), (4, .int pp_), (3, .int ((v >>> (8 &&& 31)) &&& 15)), (0, .ref h), (1, .int (nI cv)), (2, .int v)] → W p l e ({ frames := 2, cells := 0, slots := 0, locals := 36 }) s m ([.ref h, .int (nI cv), .int v] : List Value).toArray below meth c H locs (0) (0) (MQ below (va_Qv (fun u : va_W × gT => ∃ (k39 : Nat → Int32) (k42 : Nat → Int32) (k48 : Nat → Int32) (k49 : Nat → Int32), u = ([(h, .inr (10, mdF qa x0 x2 x3 x4 x13 x14 x15 x16 x17 x18 x19 x20 x21 x22 x23 x24 x26 x27 x28)), (qa 32, .inl (cI, 4, .inl g32)), (qa 34, .inl (cI, 4, .inl g34)), (qa 35, .inl (cI, 4, .inl g35)), (qa 38, .inl (cI, 4, .inl g38)), (qa 39, .inl (cI, 4, .inl k39)), (qa 40, .inl (cI, 4, .inl g40)), (qa 41, .inl (cI, 4, .inl g41)), (qa 42, .inl (cI, 4, .inl k42)), (qa 43, .inl (cI, 4, .inl g43)), (qa 48, .inl (cI, 4, .inl k48)), (qa 49, .inl (cI, 4, .inl k49))], []) ∧ rg 4 0 2147483647 k48) (gB (dC, dI) A) A) ([.ref h, .int (nI cv), .int v] : List Value).toArray s 0 0 A) (F0 m 101 ls []) := by
      intro fu101
      induction fu101 with
      | zero => intro q101 pp_ hq101 hm101; exact absurd hm101 (Nat.not_lt_zero _)
      | succ fu101 ih101 =>
        intro q101 pp_ hq101 hm101 H locs hP hD hS ls hl
        refine lv_iload hx hb dX11_reckons_101 (lv_at hl 0 rfl) ?_
        refine lv_iload hx hb dX11_reckons_103 (lv_at hl 1 rfl) ?_
        refine lv_icmp_ge (tgt := 126) hx hb dX11_reckons_105 (by decide) (fun c_105 => ?_) (fun c_105 => ?_)
        · refine lv_aload_n hx hb dX11_reckons_126 rfl (lv_at hl 4 rfl) ?_
          refine va_get (D := (dC, dI)) (ci := 10) (v := .ref (qa 48)) (C := RX11) (T := TX11) (N := 53) hx hb hts iwX11 hown hK hP 0 rfl rfl 48 (by decide) (hts (.fieldLink RX11 107 "ModulePlayerModel" "soundPeriod" "[I") (List.mem_cons_of_mem _ kw_204)) (fun _ h9 => h9) rfl dX11_reckons_127 ?_
          refine lv_iload_n hx hb dX11_reckons_130 rfl (lv_at hl 5 rfl) ?_
          refine lv_bipush (v := 54) hx hb dX11_reckons_131 (by decide) ?_
          refine lv_iload hx hb dX11_reckons_133 (lv_at hl 2 rfl) ?_
          refine va_mmax hx hb (by rw [hml]; exact hl.1.symm) hown (hts (.methodLink RX11 129 Lib.Math.max.name) (List.mem_cons_of_mem _ kw_212)) (hts (.static Lib.Math.max.name) (List.mem_cons_of_mem _ kw_102)) (hts (.initialized "java/lang/Math") (List.mem_cons_of_mem _ kw_103)) (hts (.code Lib.Math.max.name Lib.Math.max.code 2 (some .int)) (List.mem_cons_of_mem _ kw_104)) (Nat.le_of_ble_eq_true rfl) (Nat.le_of_ble_eq_true rfl) (Nat.le_of_ble_eq_true rfl) (Nat.le_of_ble_eq_true rfl) dX11_reckons_135 ?_
          refine lv_topi (fun tv_135 etv_135 => ?_)
          refine g_iast hx hb hK hP hD hS 10 0 rfl rfl cv (nI_clamp (Nat.lt_trans (show cv < 4 from by omega) (by decide))) (vp_in_nI (by omega) (by decide)) dX11_reckons_138 (fun H locs hP hD hS => ?_)
          have hP : va_P (dC, dI) vwCl [(h, .inr (10, mdF qa x0 x2 x3 x4 x13 x14 x15 x16 x17 x18 x19 x20 x21 x22 x23 x24 x26 x27 x28)), (qa 32, .inl (cI, 4, .inl g32)), (qa 34, .inl (cI, 4, .inl g34)), (qa 35, .inl (cI, 4, .inl g35)), (qa 38, .inl (cI, 4, .inl g38)), (qa 39, .inl (cI, 4, .inl g39)), (qa 40, .inl (cI, 4, .inl g40)), (qa 41, .inl (cI, 4, .inl g41)), (qa 42, .inl (cI, 4, .inl g42)), (qa 43, .inl (cI, 4, .inl g43)), (qa 48, .inl (cI, 4, .inl (upd u48_11 cv tv_135))), (qa 49, .inl (cI, 4, .inl u49_23))] H := hP
          have hD : va_D A [(h, .inr (10, mdF qa x0 x2 x3 x4 x13 x14 x15 x16 x17 x18 x19 x20 x21 x22 x23 x24 x26 x27 x28)), (qa 32, .inl (cI, 4, .inl g32)), (qa 34, .inl (cI, 4, .inl g34)), (qa 35, .inl (cI, 4, .inl g35)), (qa 38, .inl (cI, 4, .inl g38)), (qa 39, .inl (cI, 4, .inl g39)), (qa 40, .inl (cI, 4, .inl g40)), (qa 41, .inl (cI, 4, .inl g41)), (qa 42, .inl (cI, 4, .inl g42)), (qa 43, .inl (cI, 4, .inl g43)), (qa 48, .inl (cI, 4, .inl (upd u48_11 cv tv_135))), (qa 49, .inl (cI, 4, .inl u49_23))] := hD
          obtain ⟨u48_138, r_u48_138, eu48_138⟩ : ∃ ff : Nat → Int32, rg 4 0 2147483647 ff ∧ ff = upd u48_11 cv tv_135 := ⟨upd u48_11 cv tv_135, rg_upd2 r_u48_11 (mx54 etv_135), rfl⟩
          rw [← eu48_138] at hP hD
          exact LP139 u48_138 (r_u48_138) _ _ hP hD hS _ (lv_sub hl [3, 4, 5, 6] rfl)
        refine lv_iload hx hb dX11_reckons_108 (lv_at hl 2 rfl) ?_
        refine lv_sipush (v := 17843) hx hb dX11_reckons_110 (by decide) ?_
        refine lv_imul hx hb dX11_reckons_113 ?_
        refine lv_topi (fun tv_113 etv_113 => ?_)
        refine lv_sipush (v := 18904) hx hb dX11_reckons_114 (by decide) ?_
        refine lv_idiv hx hb dX11_reckons_117 (by decide) ?_
        refine lv_topi (fun tv_117 etv_117 => ?_)
        refine lv_istore (lv' := [(4, .int tv_117), (6, .int (nI q101)), (5, .int ((v >>> (4 &&& 31)) &&& 15)), (3, .int ((v >>> (8 &&& 31)) &&& 15)), (0, .ref h), (1, .int (nI cv)), (2, .int v)]) hx hb dX11_reckons_118 hl (by decide) rfl (fun ls hl => ?_)
        refine lv_iinc (v := nI (q101 + 1)) (lv' := [(6, .int (nI (q101 + 1))), (4, .int tv_117), (5, .int ((v >>> (4 &&& 31)) &&& 15)), (3, .int ((v >>> (8 &&& 31)) &&& 15)), (0, .ref h), (1, .int (nI cv)), (2, .int v)]) hx hb dX11_reckons_120 hl (k := 1) rfl (nI_1 q101) (by decide) rfl (fun ls hl => ?_)
        refine lv_goto (tgt := 101) hx hb dX11_reckons_123 (by decide) ?_
        exact ih101 (q101 + 1) tv_117 (by have := ht_lt ehTz c_105 hq101; omega) (by have := ht_lt ehTz c_105 hq101; omega) _ _ hP hD hS _ (lv_sub hl [0, 2, 1, 3, 4, 5, 6] rfl)
    exact LP101 _ 0 tv_72 (by decide) (Nat.lt_succ_self _) _ _ hP hD hS _ (lv_sub hl [0, 1, 2, 3, 4, 5, 6] rfl)
  have hP9 := hP
  have hD9 := hD
  have hK9 := hK.sub (tys' := []) [] rfl
  exact W.vret hx hb hr (fun t ht hW => ⟨⟨_, rfl, ⟨g39, g42, u48_11, u49_23, rfl, r_u48_11⟩, by rw [ht]; exact hP9, va_K.moved hW.alike hK9, hD9⟩, hS.F ht⟩) hS.2.2 dX11_reckons_40

