set_option maxHeartbeats 400000 in
set_option maxRecDepth 100000 in
theorem x_putPair (l : Launch) (dC : Nat → ClassId) (dI : Nat → Nat → Nat) (sz : Nat) (h b : Nat) (cB : ClassId) (f : Nat → Int32) (L : Nat) (j : Nat) (v : Int32) (hL : L ≤ 9000) (hj : j + 1 < L) : Met l yX7_putPair (wsG (.code yX7_putPair cX7_putPair 3 none)) ({ frames := 2, cells := 0, slots := 0, locals := 44 }) (va_Pc [.ref h, .int (nI j), .int v] (gP (dC, dI) [(cB, .byte)] [(h, .inr (7, [.ref b, .int (nI L)])), (b, .inl (cB, 9000, .inl f))] sz)) (va_Qv (fun u : va_W × gT => u = ([(h, .inr (7, [.ref b, .int (nI L)])), (b, .inl (cB, 9000, .inl (fput (fput f L j (v >>> ((8 : Int32) &&& 31))) L (j + 1) v)))], [])) (gB (dC, dI) (va_A [(h, .inr (7, [.ref b, .int (nI L)])), (b, .inl (cB, 9000, .inl f))] sz)) (va_A [(h, .inr (7, [.ref b, .int (nI L)])), (b, .inl (cB, 9000, .inl f))] sz)) 0 0 (va_A [(h, .inr (7, [.ref b, .int (nI L)])), (b, .inl (cB, 9000, .inl f))] sz) := by
  refine Met.ofW (cc := cX7_putPair) (maxL := 3) (ret := none) (by decide) rfl ?_
  intro p e s m args below meth c s₁ B hml hv
  obtain ⟨rfl, hsz, hP, hK, hD0, hN, hZ⟩ := hv
  have hx := B.exec
  have hb := B.bytes
  have hr := B.returns
  have hts := atoms_spec (ws := (wsG (.code yX7_putPair cX7_putPair 3 none))) B.pre
  have hown : s.vm.findClass RX7 = some m.cls := findClass_of_methodNamed B.named
  have hlocks := B.notSynchronized
  subst hsz
  have hD := hD0.self (sz := s.heap.size)
  generalize hAe : va_A [(h, .inr (7, [.ref b, .int (nI L)])), (b, .inl (cB, 9000, .inl f))] s.heap.size = A at hD hZ ⊢
  have hA : ∀ q : Nat, s.heap.size ≤ q → A q := fun q h => by rw [← hAe]; exact Or.inr h
  have hl := lv_entry ([.ref h, .int (nI j), .int v]) (n := 3) (Nat.le_of_ble_eq_true rfl)
  rw [lg_entry_eq]
  generalize (lg_sl ([.ref h, .int (nI j), .int v]) ++ List.replicate (3 - (lg_sl ([.ref h, .int (nI j), .int v])).length) Slot.unset).toArray = ls at hl ⊢
  have hl : lv_has ls 3 [(0, .ref h), (1, .int (nI j)), (2, .int v)] := hl
  refine g_start (A := A) hP (fun H locs hP hS => ?_)
  refine lv_aload_n hx hb dX7_putPair_0 rfl (lv_at hl 0 rfl) ?_
  refine lv_iload_n hx hb dX7_putPair_1 rfl (lv_at hl 1 rfl) ?_
  refine lv_iload_n hx hb dX7_putPair_2 rfl (lv_at hl 2 rfl) ?_
  refine lv_bipush (v := 8) hx hb dX7_putPair_3 (by decide) ?_
  refine lv_ishr hx hb dX7_putPair_5 ?_
  refine g_topi (y := v >>> ((8 : Int32) &&& 31)) (rfl) ?_
  refine g_callv (wr := []) (va_runV (As := [.int (nI j), .int (v >>> ((8 : Int32) &&& 31))]) (rest := []) ⟨hx, hb, hml, hown, hts⟩ (c_put l dC dI H.size h b cB f L j (v >>> ((8 : Int32) &&& 31)) L (by omega) (by omega) (by omega)) (cwV 2 hts (gG_V kw_242 kw_243 kw_244 kw_18 kw_245) rfl rfl rfl (by decide +kernel) ⟨Nat.le_of_ble_eq_true rfl, Nat.le_of_ble_eq_true rfl⟩) (g_preV (C := RX7) (T := TX7) (N := 2) hP hD hK hS hA hN hZ (q0 := 0) rfl rfl [0, 1] (by decide +kernel) rfl [0] rfl) rfl rfl hl.1 rfl (lv_room (Nat.le_of_ble_eq_true rfl)) dX7_putPair_6 ⟨Nat.le_of_ble_eq_true rfl, Nat.le_of_ble_eq_true rfl⟩) hP hD hK hS hA [0, 1] [] rfl rfl (by decide +kernel) (by decide +kernel) (fun w ty1 H locs hw_6 hP hD _ hS => ?_)
  have hu := hw_6
  cases hu
  have hP : va_P (dC, dI) vwCl [(h, .inr (7, [.ref b, .int (nI L)])), (b, .inl (cB, 9000, .inl (fput f L j (v >>> ((8 : Int32) &&& 31)))))] H := hP
  have hD : va_D A [(h, .inr (7, [.ref b, .int (nI L)])), (b, .inl (cB, 9000, .inl (fput f L j (v >>> ((8 : Int32) &&& 31)))))] := hD
  refine lv_aload_n hx hb dX7_putPair_9 rfl (lv_at hl 0 rfl) ?_
  refine lv_iload_n hx hb dX7_putPair_10 rfl (lv_at hl 1 rfl) ?_
  refine lv_iconst (v := 1) hx hb dX7_putPair_11 (by decide) ?_
  refine lv_iadd hx hb dX7_putPair_12 ?_
  refine g_topi (y := nI (j + 1)) (nI_1 j) ?_
  refine lv_iload_n hx hb dX7_putPair_13 rfl (lv_at hl 2 rfl) ?_
  refine g_callv (wr := []) (va_runV (As := [.int (nI (j + 1)), .int v]) (rest := []) ⟨hx, hb, hml, hown, hts⟩ (c_put l dC dI H.size h b cB (fput f L j (v >>> ((8 : Int32) &&& 31))) L (j + 1) v L (by omega) (by omega) (by omega)) (cwV 2 hts (gG_V kw_242 kw_243 kw_244 kw_18 kw_245) rfl rfl rfl (by decide +kernel) ⟨Nat.le_of_ble_eq_true rfl, Nat.le_of_ble_eq_true rfl⟩) (g_preV (C := RX7) (T := TX7) (N := 2) hP hD hK hS hA hN hZ (q0 := 0) rfl rfl [0, 1] (by decide +kernel) rfl [0] rfl) rfl rfl hl.1 rfl (lv_room (Nat.le_of_ble_eq_true rfl)) dX7_putPair_14 ⟨Nat.le_of_ble_eq_true rfl, Nat.le_of_ble_eq_true rfl⟩) hP hD hK hS hA [0, 1] [] rfl rfl (by decide +kernel) (by decide +kernel) (fun w ty1 H locs hw_14 hP hD _ hS => ?_)
  have hu := hw_14
  cases hu
  have hP : va_P (dC, dI) vwCl [(h, .inr (7, [.ref b, .int (nI L)])), (b, .inl (cB, 9000, .inl (fput (fput f L j (v >>> ((8 : Int32) &&& 31))) L (j + 1) v)))] H := hP
  have hD : va_D A [(h, .inr (7, [.ref b, .int (nI L)])), (b, .inl (cB, 9000, .inl (fput (fput f L j (v >>> ((8 : Int32) &&& 31))) L (j + 1) v)))] := hD
  have hP9 := hP
  have hD9 := hD
  have hK9 := hK.sub (tys' := []) [] rfl
  exact W.vret hx hb hr (fun t ht hW => ⟨⟨_, rfl, rfl, by rw [ht]; exact hP9, va_K.moved hW.alike hK9, hD9⟩, hS.F ht⟩) hS.2.2 dX7_putPair_17

set_option maxHeartbeats 400000 in
set_option maxRecDepth 100000 in
theorem x_getByte (l : Launch) (dC : Nat → ClassId) (dI : Nat → Nat → Nat) (sz : Nat) (h sa bb : Nat) (us : Int32) (ad : Nat → Nat) (cB : ClassId) (f : Nat → Int32) (le tu vo sr lo fr : Nat → Int32) (kf jb : Nat) (iv : Int32) (hkf : kf < 32) (hjb : jb < 4000) (ejb : fr kf + iv = nI jb) : Met l yX0_getByte (wsG (.code yX0_getByte cX0_getByte 4 (some .int))) ({ frames := 1, cells := 0, slots := 0, locals := 21 }) (va_Pc [.ref h, .ref (ad kf), .int iv] (gP (dC, dI) [(cB, .byte)] ([(h, .inr (0, [.ref sa, .ref bb, .int us])), (bb, .inl (cB, 4000, .inl f))] ++ famN 32 ad le tu vo sr lo fr) sz)) (va_Qi (fun (r : Int32) (u : va_W × gT) => u = (([(h, .inr (0, [.ref sa, .ref bb, .int us])), (bb, .inl (cB, 4000, .inl f))] ++ famN 32 ad le tu vo sr lo fr), []) ∧ r = f jb) (gB (dC, dI) (va_A ([(h, .inr (0, [.ref sa, .ref bb, .int us])), (bb, .inl (cB, 4000, .inl f))] ++ famN 32 ad le tu vo sr lo fr) sz)) (va_A ([(h, .inr (0, [.ref sa, .ref bb, .int us])), (bb, .inl (cB, 4000, .inl f))] ++ famN 32 ad le tu vo sr lo fr) sz)) 0 0 (va_A ([(h, .inr (0, [.ref sa, .ref bb, .int us])), (bb, .inl (cB, 4000, .inl f))] ++ famN 32 ad le tu vo sr lo fr) sz) := by
  refine Met.ofW (cc := cX0_getByte) (maxL := 4) (ret := (some .int)) (by decide) rfl ?_
  intro p e s m args below meth c s₁ B hml hv
  obtain ⟨rfl, hsz, hP, hK, hD0, hN, hZ⟩ := hv
  have hx := B.exec
  have hb := B.bytes
  have hr := B.returns
  have hts := atoms_spec (ws := (wsG (.code yX0_getByte cX0_getByte 4 (some .int)))) B.pre
  have hown : s.vm.findClass RX0 = some m.cls := findClass_of_methodNamed B.named
  have hlocks := B.notSynchronized
  subst hsz
  have hD := hD0.self (sz := s.heap.size)
  generalize hAe : va_A ([(h, .inr (0, [.ref sa, .ref bb, .int us])), (bb, .inl (cB, 4000, .inl f))] ++ famN 32 ad le tu vo sr lo fr) s.heap.size = A at hD hZ ⊢
  have hA : ∀ q : Nat, s.heap.size ≤ q → A q := fun q h => by rw [← hAe]; exact Or.inr h
  have hl := lv_entry ([.ref h, .ref (ad kf), .int iv]) (n := 4) (Nat.le_of_ble_eq_true rfl)
  rw [lg_entry_eq]
  generalize (lg_sl ([.ref h, .ref (ad kf), .int iv]) ++ List.replicate (4 - (lg_sl ([.ref h, .ref (ad kf), .int iv])).length) Slot.unset).toArray = ls at hl ⊢
  have hl : lv_has ls 4 [(0, .ref h), (1, .ref (ad kf)), (2, .int iv)] := hl
  refine g_start (A := A) hP (fun H locs hP hS => ?_)
  refine lv_aload_n hx hb dX0_getByte_0 rfl (lv_at hl 1 rfl) ?_
  refine va_get (D := (dC, dI)) (ci := 5) (v := .int (fr kf)) (C := RX5) (T := TX5) (N := 6) hx hb hts iwX5 hown hK hP _ (fam_at (k := kf) (hkf)) rfl 5 (by decide) (hts (.fieldLink RX0 41 "ModulePlayer$Sample" "from" "I") (List.mem_cons_of_mem _ kw_382)) (fun _ h9 => h9) rfl dX0_getByte_1 ?_
  refine lv_iload_n hx hb dX0_getByte_4 rfl (lv_at hl 2 rfl) ?_
  refine lv_iadd hx hb dX0_getByte_5 ?_
  refine g_topi (y := nI jb) (ejb) ?_
  refine lv_istore_n (lv' := [(3, .int (nI jb)), (0, .ref h), (1, .ref (ad kf)), (2, .int iv)]) hx hb dX0_getByte_6 rfl hl (by decide) rfl (fun ls hl => ?_)
  refine lv_iload_n hx hb dX0_getByte_7 rfl (lv_at hl 0 rfl) ?_
  refine lv_sipush (v := 4000) hx hb dX0_getByte_8 (by decide) ?_
  refine g_calliQ (X := [(h, .inr (0, [.ref sa, .ref bb, .int us])), (bb, .inl (cB, 4000, .inl f))]) (wr := [(h, .inr (0, [.ref sa, .ref bb, .int us])), (bb, .inl (cB, 4000, .inl f))]) (va_runSN (As := [.int (nI jb), .int 4000]) (rest := []) ⟨hx, hb, hml, hown, hts⟩ (c_isIn l dC dI H.size (nI jb) 4000 ) ⟨va_cnB 2 hts (wsG_good kw_248) rfl rfl rfl (hN.1 (.methodLinkNest RX0 71 yX10_isIn RX10) (by decide +kernel)) (hts (.initialized RX10) (List.mem_cons_of_mem _ kw_2)) (by decide +kernel) ⟨Nat.le_of_ble_eq_true rfl, Nat.le_of_ble_eq_true rfl⟩, (hts (.static yX10_isIn) (List.mem_cons_of_mem _ kw_247)), trivial⟩ (g_preS (ws := [(h, .inr (0, [.ref sa, .ref bb, .int us])), (bb, .inl (cB, 4000, .inl f))]) hP.left hD.left hK hS hA hN hZ [] (by decide) rfl [] rfl) rfl rfl hl.1 rfl (lv_room (Nat.le_of_ble_eq_true rfl)) dX0_getByte_11 ⟨Nat.le_of_ble_eq_true rfl, Nat.le_of_ble_eq_true rfl⟩) hP hD hK hS hA [] [0, 1] rfl rfl (by decide +kernel) (by decide +kernel) (fun r_11 w ty1 H locs hw_11 hP hD _ hS => ?_)
  rcases hw_11 with ⟨hu, hr_11, h_11⟩ | ⟨hu, hr_11, h_11⟩
  · cases hu
    have hP : va_P (dC, dI) vwCl ([(h, .inr (0, [.ref sa, .ref bb, .int us])), (bb, .inl (cB, 4000, .inl f))] ++ famN 32 ad le tu vo sr lo fr) H := hP
    have hD : va_D A ([(h, .inr (0, [.ref sa, .ref bb, .int us])), (bb, .inl (cB, 4000, .inl f))] ++ famN 32 ad le tu vo sr lo fr) := hD
    refine g_topi (y := 1) hr_11 ?_
    refine lv_if_eq (tgt := 26) hx hb dX0_getByte_14 (by decide) (fun c_14 => absurd c_14 (by decide)) (fun c_14 => ?_)
    refine lv_aload_n hx hb dX0_getByte_17 rfl (lv_at hl 1 rfl) ?_
    refine va_get (D := (dC, dI)) (ci := 0) (v := .ref bb) (C := RX0) (T := TX0) (N := 3) hx hb hts iwX0 hown hK hP 0 rfl rfl 1 (by decide) (hts (.fieldLink RX0 17 "ModulePlayer$Bank" "bytes" "[B") (List.mem_cons_of_mem _ kw_55)) (fun _ h9 => h9) rfl dX0_getByte_18 ?_
    refine lv_iload_n hx hb dX0_getByte_21 rfl (lv_at hl 0 rfl) ?_
    refine g_bald hx hb hK hP 1 0 rfl rfl jb (nI_clamp (Nat.lt_trans (show jb < 4000 from hjb) (by decide))) (vp_in_nI (hjb) (by decide)) dX0_getByte_22 ?_
    refine lv_goto (tgt := 27) hx hb dX0_getByte_23 (by decide) ?_
    have hP9 := hP
    have hD9 := hD
    have hK9 := hK.sub (tys' := []) [] rfl
    exact W.iret (v := f jb) hx hb hr (fun t ht hW => ⟨⟨f jb, _, rfl, ⟨rfl, rfl⟩, by rw [ht]; exact hP9, va_K.moved hW.alike hK9, hD9⟩, hS.F ht⟩) hS.2.2 dX0_getByte_27
  exact False.elim (h_11 (isin0 hjb (by decide)))

set_option maxHeartbeats 400000 in
set_option maxRecDepth 100000 in
theorem x_writeSamples (l : Launch) (dC : Nat → ClassId) (dI : Nat → Nat → Nat) (sz : Nat) (ta tb aB sa bb : Nat) (cB cS : ClassId) (us : Int32) (ad : Nat → Nat) (g : Nat → Option Nat) (ft f SS :  Nat → Int32) (le tu vo sr lo fr : Nat → Int32) (ln : Nat → Nat) (kz : Nat) (hg : ∀ x, x < 32 → g x = some (ad x)) (hB : bankOk ln le fr us) (hfit : sb_Fit f) (hkz : 1084 ≤ kz) (hk9 : kz + sumTo ln 32 ≤ 9000) (htp : tpP SS 20 kz ft) (hsh : ∀ ss oo, 1 ≤ ss → ss < 32 → oo < 30 → SS (20 + 30 * (ss - 1) + oo) = hdB le tu vo sr lo ss oo) (hsw : ∀ ss, 1 ≤ ss → ss < 32 → ∀ ii, ii < ln ss → SS (kz + sumTo ln ss + ii) = f (sumTo ln ss + ii)) : Met l yX9_writeSamples (wsG (.code yX9_writeSamples cX9_writeSamples 8 none)) ({ frames := 3, cells := 0, slots := 0, locals := 66 }) (va_Pc [.ref ta, .ref aB, .int (nI kz)] (gP (dC, dI) [(cB, .byte), (cS, .object RX5)] ([(ta, .inr (7, [.ref tb, .int (nI kz)])), (tb, .inl (cB, 9000, .inl ft)), (aB, .inr (0, [.ref sa, .ref bb, .int us])), (sa, .inl (cS, 32, .inr (.inr (.inr (.inr g))))), (bb, .inl (cB, 4000, .inl f))] ++ famN 32 ad le tu vo sr lo fr) sz)) (va_Qv (fun u : va_W × gT => ∃ (f2 : Nat → Int32), u = (([(ta, .inr (7, [.ref tb, .int (nI (kz + sumTo ln 32))])), (tb, .inl (cB, 9000, .inl f2)), (aB, .inr (0, [.ref sa, .ref bb, .int us])), (sa, .inl (cS, 32, .inr (.inr (.inr (.inr g))))), (bb, .inl (cB, 4000, .inl f))] ++ famN 32 ad le tu vo sr lo fr), []) ∧ (∀ kx, kx < kz + sumTo ln 32 → f2 kx = SS kx)) (gB (dC, dI) (va_A ([(ta, .inr (7, [.ref tb, .int (nI kz)])), (tb, .inl (cB, 9000, .inl ft)), (aB, .inr (0, [.ref sa, .ref bb, .int us])), (sa, .inl (cS, 32, .inr (.inr (.inr (.inr g))))), (bb, .inl (cB, 4000, .inl f))] ++ famN 32 ad le tu vo sr lo fr) sz)) (va_A ([(ta, .inr (7, [.ref tb, .int (nI kz)])), (tb, .inl (cB, 9000, .inl ft)), (aB, .inr (0, [.ref sa, .ref bb, .int us])), (sa, .inl (cS, 32, .inr (.inr (.inr (.inr g))))), (bb, .inl (cB, 4000, .inl f))] ++ famN 32 ad le tu vo sr lo fr) sz)) 0 0 (va_A ([(ta, .inr (7, [.ref tb, .int (nI kz)])), (tb, .inl (cB, 9000, .inl ft)), (aB, .inr (0, [.ref sa, .ref bb, .int us])), (sa, .inl (cS, 32, .inr (.inr (.inr (.inr g))))), (bb, .inl (cB, 4000, .inl f))] ++ famN 32 ad le tu vo sr lo fr) sz) := by
  refine Met.ofW (cc := cX9_writeSamples) (maxL := 8) (ret := none) (by decide) rfl ?_
  intro p e s m args below meth c s₁ B hml hv
  obtain ⟨rfl, hsz, hP, hK, hD0, hN, hZ⟩ := hv
  have hx := B.exec
  have hb := B.bytes
  have hr := B.returns
  have hts := atoms_spec (ws := (wsG (.code yX9_writeSamples cX9_writeSamples 8 none))) B.pre
  have hown : s.vm.findClass RX9 = some m.cls := findClass_of_methodNamed B.named
  have hlocks := B.notSynchronized
  subst hsz
  have hD := hD0.self (sz := s.heap.size)
  generalize hAe : va_A ([(ta, .inr (7, [.ref tb, .int (nI kz)])), (tb, .inl (cB, 9000, .inl ft)), (aB, .inr (0, [.ref sa, .ref bb, .int us])), (sa, .inl (cS, 32, .inr (.inr (.inr (.inr g))))), (bb, .inl (cB, 4000, .inl f))] ++ famN 32 ad le tu vo sr lo fr) s.heap.size = A at hD hZ ⊢
  have hA : ∀ q : Nat, s.heap.size ≤ q → A q := fun q h => by rw [← hAe]; exact Or.inr h
  have hl := lv_entry ([.ref ta, .ref aB, .int (nI kz)]) (n := 8) (Nat.le_of_ble_eq_true rfl)
  rw [lg_entry_eq]
  generalize (lg_sl ([.ref ta, .ref aB, .int (nI kz)]) ++ List.replicate (8 - (lg_sl ([.ref ta, .ref aB, .int (nI kz)])).length) Slot.unset).toArray = ls at hl ⊢
  have hl : lv_has ls 8 [(0, .ref ta), (1, .ref aB), (2, .int (nI kz))] := hl
  refine g_start (A := A) hP (fun H locs hP hS => ?_)
  refine lv_iload_n hx hb dX9_writeSamples_0 rfl (lv_at hl 2 rfl) ?_
  refine lv_istore_n (lv' := [(3, .int (nI kz)), (0, .ref ta), (1, .ref aB), (2, .int (nI kz))]) hx hb dX9_writeSamples_1 rfl hl (by decide) rfl (fun ls hl => ?_)
  refine lv_iconst (v := 1) hx hb dX9_writeSamples_2 (by decide) ?_
  refine lv_istore (lv' := [(4, .int 1), (3, .int (nI kz)), (0, .ref ta), (1, .ref aB), (2, .int (nI kz))]) hx hb dX9_writeSamples_3 hl (by decide) rfl (fun ls hl => ?_)
  have hP : va_P (dC, dI) vwCl ([(ta, .inr (7, [.ref tb, .int (nI kz)])), (tb, .inl (cB, 9000, .inl ft)), (aB, .inr (0, [.ref sa, .ref bb, .int us])), (sa, .inl (cS, 32, .inr (.inr (.inr (.inr g))))), (bb, .inl (cB, 4000, .inl f))] ++ famN 32 ad le tu vo sr lo fr) H := hP
  have hD : va_D A ([(ta, .inr (7, [.ref tb, .int (nI kz)])), (tb, .inl (cB, 9000, .inl ft)), (aB, .inr (0, [.ref sa, .ref bb, .int us])), (sa, .inl (cS, 32, .inr (.inr (.inr (.inr g))))), (bb, .inl (cB, 4000, .inl f))] ++ famN 32 ad le tu vo sr lo fr) := hD
  have LP5 : ∀ (fu5 : Nat) (q5 : Nat) (L1_ : Nat) (ft1 : Nat → Int32) (nx_ : Nat) (hq5a : 1 ≤ q5) (hq5 : q5 ≤ 32) (eL1_ : L1_ = kz + sumTo ln q5) (enx_ : nx_ = kz + sumTo ln q5) (ht1 : tpP SS (20 + 30 * (q5 - 1)) L1_ ft1) (hm5 : 32 - q5 < fu5) (H : Heap) (locs : List Loc), va_P (dC, dI) vwCl ([(ta, .inr (7, [.ref tb, .int (nI L1_)])), (tb, .inl (cB, 9000, .inl ft1)), (aB, .inr (0, [.ref sa, .ref bb, .int us])), (sa, .inl (cS, 32, .inr (.inr (.inr (.inr g))))), (bb, .inl (cB, 4000, .inl f))] ++ famN 32 ad le tu vo sr lo fr) H → va_D A ([(ta, .inr (7, [.ref tb, .int (nI L1_)])), (tb, .inl (cB, 9000, .inl ft1)), (aB, .inr (0, [.ref sa, .ref bb, .int us])), (sa, .inl (cS, 32, .inr (.inr (.inr (.inr g))))), (bb, .inl (cB, 4000, .inl f))] ++ famN 32 ad le tu vo sr lo fr) → va_S A s.heap H locs → ∀ ls : Array Slot, lv_has ls 8 [(4, .int (nI q5)), (3, .int (nI nx_)), (0, .ref ta), (1, .ref aB)] → W p l e ({ frames := 3, cells := 0, slots := 0, locals := 66 }) s m ([.ref ta, .ref aB, .int (nI kz)] : List Value).toArray below meth c H locs (0) (0) (MQ below (va_Qv (fun u : va_W × gT => ∃ (f2 : Nat → Int32), u = (([(ta, .inr (7, [.ref tb, .int (nI (kz + sumTo ln 32))])), (tb, .inl (cB, 9000, .inl f2)), (aB, .inr (0, [.ref sa, .ref bb, .int us])), (sa, .inl (cS, 32, .inr (.inr (.inr (.inr g))))), (bb, .inl (cB, 4000, .inl f))] ++ famN 32 ad le tu vo sr lo fr), []) ∧ (∀ kx, kx < kz + sumTo ln 32 → f2 kx = SS kx)) (gB (dC, dI) A) A) ([.ref ta, .ref aB, .int (nI kz)] : List Value).toArray s 0 0 A) (F0 m 5 ls []) := by
    intro fu5
    induction fu5 with
    | zero => intro q5 L1_ ft1 nx_ hq5a hq5 eL1_ enx_ ht1 hm5; exact absurd hm5 (Nat.not_lt_zero _)
    | succ fu5 ih5 =>
      intro q5 L1_ ft1 nx_ hq5a hq5 eL1_ enx_ ht1 hm5 H locs hP hD hS ls hl
      refine lv_iload hx hb dX9_writeSamples_5 (lv_at hl 0 rfl) ?_
      refine lv_bipush (v := 31) hx hb dX9_writeSamples_7 (by decide) ?_
      refine lv_icmp_gt (tgt := 155) hx hb dX9_writeSamples_9 (by decide) (fun c_9 => ?_) (fun c_9 => ?_)
      · have hqe : q5 = 32 := by have := nI_lt' (a := 31) c_9 (by decide) (by omega); omega
        rw [show L1_ = kz + sumTo ln 32 by rw [eL1_, hqe]] at hP hD
        have hP9 := hP
        have hD9 := hD
        have hK9 := hK.sub (tys' := []) [] rfl
        exact W.vret hx hb hr (fun t ht hW => ⟨⟨_, rfl, ⟨ft1, rfl, (fun kx hk => by have h3 := ht1 kx (by rw [eL1_, hqe]; exact hk); rw [if_neg (by omega)] at h3; exact h3)⟩, by rw [ht]; exact hP9, va_K.moved hW.alike hK9, hD9⟩, hS.F ht⟩) hS.2.2 dX9_writeSamples_155
      have hq3 : q5 < 32 := by have := nI_nlt2 (a := 31) c_9 (by omega); omega
      have hsu := bk_sum hB hq3
      have elq := bk_le hB hq3
      have hlb := (hB.1 q5 hq3).2.1
      have hsq_ : sumTo ln (q5 + 1) = sumTo ln q5 + ln q5 := rfl
      refine lv_iload hx hb dX9_writeSamples_12 (lv_at hl 0 rfl) ?_
      refine g_calliQ (X := [(ta, .inr (7, [.ref tb, .int (nI L1_)])), (tb, .inl (cB, 9000, .inl ft1)), (aB, .inr (0, [.ref sa, .ref bb, .int us])), (sa, .inl (cS, 32, .inr (.inr (.inr (.inr g))))), (bb, .inl (cB, 4000, .inl f))]) (wr := [(ta, .inr (7, [.ref tb, .int (nI L1_)])), (tb, .inl (cB, 9000, .inl ft1)), (aB, .inr (0, [.ref sa, .ref bb, .int us])), (sa, .inl (cS, 32, .inr (.inr (.inr (.inr g))))), (bb, .inl (cB, 4000, .inl f))]) (va_runS (As := [.int (nI q5)]) (rest := []) ⟨hx, hb, hml, hown, hts⟩ (c_sampleAt l dC dI H.size q5 (hq5a)) (va_cwS 1 hts (gG_S kw_496 kw_307 kw_30 kw_308) rfl rfl rfl (by decide +kernel) ⟨Nat.le_of_ble_eq_true rfl, Nat.le_of_ble_eq_true rfl⟩) (g_preS (ws := [(ta, .inr (7, [.ref tb, .int (nI L1_)])), (tb, .inl (cB, 9000, .inl ft1)), (aB, .inr (0, [.ref sa, .ref bb, .int us])), (sa, .inl (cS, 32, .inr (.inr (.inr (.inr g))))), (bb, .inl (cB, 4000, .inl f))]) hP.left hD.left hK hS hA hN hZ [] (by decide) rfl [] rfl) rfl rfl hl.1 rfl (lv_room (Nat.le_of_ble_eq_true rfl)) dX9_writeSamples_14 ⟨Nat.le_of_ble_eq_true rfl, Nat.le_of_ble_eq_true rfl⟩) hP hD hK hS hA [] [0, 1, 2, 3, 4] rfl rfl (by decide +kernel) (by decide +kernel) (fun r_14 w ty1 H locs hw_14 hP hD _ hS => ?_)
      rcases hw_14 with ⟨hu, hr_14⟩
      cases hu
      have hP : va_P (dC, dI) vwCl ([(ta, .inr (7, [.ref tb, .int (nI L1_)])), (tb, .inl (cB, 9000, .inl ft1)), (aB, .inr (0, [.ref sa, .ref bb, .int us])), (sa, .inl (cS, 32, .inr (.inr (.inr (.inr g))))), (bb, .inl (cB, 4000, .inl f))] ++ famN 32 ad le tu vo sr lo fr) H := hP
      have hD : va_D A ([(ta, .inr (7, [.ref tb, .int (nI L1_)])), (tb, .inl (cB, 9000, .inl ft1)), (aB, .inr (0, [.ref sa, .ref bb, .int us])), (sa, .inl (cS, 32, .inr (.inr (.inr (.inr g))))), (bb, .inl (cB, 4000, .inl f))] ++ famN 32 ad le tu vo sr lo fr) := hD
      refine g_topi (y := nI (20 + 30 * (q5 - 1))) hr_14 ?_
      refine lv_istore (lv' := [(5, .int (nI (20 + 30 * (q5 - 1)))), (4, .int (nI q5)), (3, .int (nI nx_)), (0, .ref ta), (1, .ref aB)]) hx hb dX9_writeSamples_17 hl (by decide) rfl (fun ls hl => ?_)
      refine lv_aload_n hx hb dX9_writeSamples_19 rfl (lv_at hl 4 rfl) ?_
      refine lv_iload hx hb dX9_writeSamples_20 (lv_at hl 1 rfl) ?_
      refine g_callqQ (X := [(ta, .inr (7, [.ref tb, .int (nI L1_)])), (tb, .inl (cB, 9000, .inl ft1)), (aB, .inr (0, [.ref sa, .ref bb, .int us])), (sa, .inl (cS, 32, .inr (.inr (.inr (.inr g))))), (bb, .inl (cB, 4000, .inl f))]) (wr := [(ta, .inr (7, [.ref tb, .int (nI L1_)])), (tb, .inl (cB, 9000, .inl ft1)), (bb, .inl (cB, 4000, .inl f))]) (va_runV (As := [.int (nI q5)]) (rest := []) ⟨hx, hb, hml, hown, hts⟩ (c_get l dC dI H.size aB sa bb us ad cS g q5 (hg) (hq3)) (cwV 1 hts (gG_V kw_497 kw_405 kw_406 kw_22 kw_407) rfl rfl rfl (by decide +kernel) ⟨Nat.le_of_ble_eq_true rfl, Nat.le_of_ble_eq_true rfl⟩) (g_preV (ws := [(ta, .inr (7, [.ref tb, .int (nI L1_)])), (tb, .inl (cB, 9000, .inl ft1)), (aB, .inr (0, [.ref sa, .ref bb, .int us])), (sa, .inl (cS, 32, .inr (.inr (.inr (.inr g))))), (bb, .inl (cB, 4000, .inl f))]) (C := RX0) (T := TX0) (N := 3) hP.left hD.left hK hS hA hN hZ (q0 := 2) rfl rfl [2, 3] (by decide +kernel) rfl [1] rfl) rfl rfl hl.1 rfl (lv_room (Nat.le_of_ble_eq_true rfl)) dX9_writeSamples_22 ⟨Nat.le_of_ble_eq_true rfl, Nat.le_of_ble_eq_true rfl⟩) hP hD hK hS hA [2, 3] [0, 1, 4] rfl rfl (by decide +kernel) (by decide +kernel) (fun r_22 w ty1 H locs hw_22 hP hD _ hS => ?_)
      rcases hw_22 with ⟨hu, hr_22⟩
      cases hu
      have hP : va_P (dC, dI) vwCl ([(ta, .inr (7, [.ref tb, .int (nI L1_)])), (tb, .inl (cB, 9000, .inl ft1)), (bb, .inl (cB, 4000, .inl f)), (aB, .inr (0, [.ref sa, .ref bb, .int us])), (sa, .inl (cS, 32, .inr (.inr (.inr (.inr g)))))] ++ famN 32 ad le tu vo sr lo fr) H := hP
      have hD : va_D A ([(ta, .inr (7, [.ref tb, .int (nI L1_)])), (tb, .inl (cB, 9000, .inl ft1)), (bb, .inl (cB, 4000, .inl f)), (aB, .inr (0, [.ref sa, .ref bb, .int us])), (sa, .inl (cS, 32, .inr (.inr (.inr (.inr g)))))] ++ famN 32 ad le tu vo sr lo fr) := hD
      subst hr_22
      refine W.eq (g2 := F0 m 25 ls [.ref (ad q5)]) rfl ?_
      refine lv_astore (lv' := [(6, .ref (ad q5)), (5, .int (nI (20 + 30 * (q5 - 1)))), (4, .int (nI q5)), (3, .int (nI nx_)), (0, .ref ta), (1, .ref aB)]) hx hb dX9_writeSamples_25 hl (by decide) rfl (fun ls hl => ?_)
      refine lv_aload_n hx hb dX9_writeSamples_27 rfl (lv_at hl 4 rfl) ?_
      refine lv_iload hx hb dX9_writeSamples_28 (lv_at hl 1 rfl) ?_
      refine lv_bipush (v := 22) hx hb dX9_writeSamples_30 (by decide) ?_
      refine lv_iadd hx hb dX9_writeSamples_32 ?_
      refine g_topi (y := nI (20 + 30 * (q5 - 1) + 22)) (nI_add _ 22) ?_
      refine lv_aload hx hb dX9_writeSamples_33 (lv_at hl 0 rfl) ?_
      refine va_get (D := (dC, dI)) (ci := 5) (v := .int (le q5)) (C := RX5) (T := TX5) (N := 6) hx hb hts iwX5 hown hK hP _ (fam_at (k := q5) (hq3)) rfl 0 (by decide) (hts (.fieldLink RX9 64 "ModulePlayer$Sample" "length" "I") (List.mem_cons_of_mem _ kw_491)) (fun _ h9 => h9) rfl dX9_writeSamples_35 ?_
      refine lv_iconst (v := 2) hx hb dX9_writeSamples_38 (by decide) ?_
      refine lv_idiv hx hb dX9_writeSamples_39 (by decide) ?_
      refine lv_topi (fun dl_ edl_ => ?_)
      refine g_callvQ (X := [(ta, .inr (7, [.ref tb, .int (nI L1_)])), (tb, .inl (cB, 9000, .inl ft1)), (bb, .inl (cB, 4000, .inl f)), (aB, .inr (0, [.ref sa, .ref bb, .int us])), (sa, .inl (cS, 32, .inr (.inr (.inr (.inr g)))))]) (wr := [(bb, .inl (cB, 4000, .inl f)), (aB, .inr (0, [.ref sa, .ref bb, .int us])), (sa, .inl (cS, 32, .inr (.inr (.inr (.inr g)))))]) (va_runV (As := [.int (nI (20 + 30 * (q5 - 1) + 22)), .int dl_]) (rest := []) ⟨hx, hb, hml, hown, hts⟩ (x_putPair l dC dI H.size ta tb cB ft1 L1_ (20 + 30 * (q5 - 1) + 22) dl_ (by omega) (by omega)) (cwV 2 hts (gG_V kw_498 kw_499 kw_500 kw_18 kw_501) rfl rfl rfl (by decide +kernel) ⟨Nat.le_of_ble_eq_true rfl, Nat.le_of_ble_eq_true rfl⟩) (g_preV (ws := [(ta, .inr (7, [.ref tb, .int (nI L1_)])), (tb, .inl (cB, 9000, .inl ft1)), (bb, .inl (cB, 4000, .inl f)), (aB, .inr (0, [.ref sa, .ref bb, .int us])), (sa, .inl (cS, 32, .inr (.inr (.inr (.inr g)))))]) (C := RX7) (T := TX7) (N := 2) hP.left hD.left hK hS hA hN hZ (q0 := 0) rfl rfl [0, 1] (by decide +kernel) rfl [0] rfl) rfl rfl hl.1 rfl (lv_room (Nat.le_of_ble_eq_true rfl)) dX9_writeSamples_40 ⟨Nat.le_of_ble_eq_true rfl, Nat.le_of_ble_eq_true rfl⟩) hP hD hK hS hA [0, 1] [2, 3, 4] rfl rfl (by decide +kernel) (by decide +kernel) (fun w ty1 H locs hw_40 hP hD _ hS => ?_)
      have hu := hw_40
      cases hu
      have hP : va_P (dC, dI) vwCl ([(bb, .inl (cB, 4000, .inl f)), (aB, .inr (0, [.ref sa, .ref bb, .int us])), (sa, .inl (cS, 32, .inr (.inr (.inr (.inr g))))), (ta, .inr (7, [.ref tb, .int (nI L1_)])), (tb, .inl (cB, 9000, .inl (fput (fput ft1 L1_ (20 + 30 * (q5 - 1) + 22) (dl_ >>> ((8 : Int32) &&& 31))) L1_ ((20 + 30 * (q5 - 1) + 22) + 1) dl_)))] ++ famN 32 ad le tu vo sr lo fr) H := hP
      have hD : va_D A ([(bb, .inl (cB, 4000, .inl f)), (aB, .inr (0, [.ref sa, .ref bb, .int us])), (sa, .inl (cS, 32, .inr (.inr (.inr (.inr g))))), (ta, .inr (7, [.ref tb, .int (nI L1_)])), (tb, .inl (cB, 9000, .inl (fput (fput ft1 L1_ (20 + 30 * (q5 - 1) + 22) (dl_ >>> ((8 : Int32) &&& 31))) L1_ ((20 + 30 * (q5 - 1) + 22) + 1) dl_)))] ++ famN 32 ad le tu vo sr lo fr) := hD
      have s0 := tp_skip ht1 (TU := 20 + 30 * (q5 - 1) + 22) (fun kx h1 h2 => by have h3 := hsh q5 (kx - (20 + 30 * (q5 - 1))) hq5a hq3 (by omega); rw [show 20 + 30 * (q5 - 1) + (kx - (20 + 30 * (q5 - 1))) = kx by omega] at h3; rw [h3]; exact hd_z (by omega)) (by omega)
      have s1 := tp_set s0 (by omega) (show (dl_ >>> ((8 : Int32) &&& 31)).toInt8.toInt32 = SS (20 + 30 * (q5 - 1) + 22) from by rw [hsh q5 22 hq5a hq3 (by decide), edl_]; rfl)
      have s2 := tp_set s1 (by omega) (show dl_.toInt8.toInt32 = SS (20 + 30 * (q5 - 1) + 22 + 1) from by rw [show 20 + 30 * (q5 - 1) + 22 + 1 = 20 + 30 * (q5 - 1) + 23 from rfl, hsh q5 23 hq5a hq3 (by decide), edl_]; rfl)
      refine lv_aload_n hx hb dX9_writeSamples_43 rfl (lv_at hl 4 rfl) ?_
      refine lv_iload hx hb dX9_writeSamples_44 (lv_at hl 1 rfl) ?_
      refine lv_bipush (v := 24) hx hb dX9_writeSamples_46 (by decide) ?_
      refine lv_iadd hx hb dX9_writeSamples_48 ?_
      refine g_topi (y := nI (20 + 30 * (q5 - 1) + 24)) (nI_add _ 24) ?_
      refine lv_aload hx hb dX9_writeSamples_49 (lv_at hl 0 rfl) ?_
      refine va_get (D := (dC, dI)) (ci := 5) (v := .int (tu q5)) (C := RX5) (T := TX5) (N := 6) hx hb hts iwX5 hown hK hP _ (fam_at (k := q5) (hq3)) rfl 1 (by decide) (hts (.fieldLink RX9 70 "ModulePlayer$Sample" "tune" "I") (List.mem_cons_of_mem _ kw_492)) (fun _ h9 => h9) rfl dX9_writeSamples_51 ?_
      refine lv_bipush (v := 15) hx hb dX9_writeSamples_54 (by decide) ?_
      refine lv_iand hx hb dX9_writeSamples_56 ?_
      refine lv_topi (fun dt_ edt_ => ?_)
      refine g_callvQ (X := [(bb, .inl (cB, 4000, .inl f)), (aB, .inr (0, [.ref sa, .ref bb, .int us])), (sa, .inl (cS, 32, .inr (.inr (.inr (.inr g))))), (ta, .inr (7, [.ref tb, .int (nI L1_)])), (tb, .inl (cB, 9000, .inl (fput (fput ft1 L1_ (20 + 30 * (q5 - 1) + 22) (dl_ >>> ((8 : Int32) &&& 31))) L1_ ((20 + 30 * (q5 - 1) + 22) + 1) dl_)))]) (wr := [(bb, .inl (cB, 4000, .inl f)), (aB, .inr (0, [.ref sa, .ref bb, .int us])), (sa, .inl (cS, 32, .inr (.inr (.inr (.inr g)))))]) (va_runV (As := [.int (nI (20 + 30 * (q5 - 1) + 24)), .int dt_]) (rest := []) ⟨hx, hb, hml, hown, hts⟩ (c_put l dC dI H.size ta tb cB (fput (fput ft1 L1_ (20 + 30 * (q5 - 1) + 22) (dl_ >>> ((8 : Int32) &&& 31))) L1_ ((20 + 30 * (q5 - 1) + 22) + 1) dl_) L1_ (20 + 30 * (q5 - 1) + 24) dt_ L1_ (by omega) (by omega) (by omega)) (cwV 2 hts (gG_V kw_474 kw_243 kw_244 kw_18 kw_245) rfl rfl rfl (by decide +kernel) ⟨Nat.le_of_ble_eq_true rfl, Nat.le_of_ble_eq_true rfl⟩) (g_preV (ws := [(bb, .inl (cB, 4000, .inl f)), (aB, .inr (0, [.ref sa, .ref bb, .int us])), (sa, .inl (cS, 32, .inr (.inr (.inr (.inr g))))), (ta, .inr (7, [.ref tb, .int (nI L1_)])), (tb, .inl (cB, 9000, .inl (fput (fput ft1 L1_ (20 + 30 * (q5 - 1) + 22) (dl_ >>> ((8 : Int32) &&& 31))) L1_ ((20 + 30 * (q5 - 1) + 22) + 1) dl_)))]) (C := RX7) (T := TX7) (N := 2) hP.left hD.left hK hS hA hN hZ (q0 := 3) rfl rfl [3, 4] (by decide +kernel) rfl [0] rfl) rfl rfl hl.1 rfl (lv_room (Nat.le_of_ble_eq_true rfl)) dX9_writeSamples_57 ⟨Nat.le_of_ble_eq_true rfl, Nat.le_of_ble_eq_true rfl⟩) hP hD hK hS hA [3, 4] [0, 1, 2] rfl rfl (by decide +kernel) (by decide +kernel) (fun w ty1 H locs hw_57 hP hD _ hS => ?_)
      have hu := hw_57
      cases hu
      have hP : va_P (dC, dI) vwCl ([(bb, .inl (cB, 4000, .inl f)), (aB, .inr (0, [.ref sa, .ref bb, .int us])), (sa, .inl (cS, 32, .inr (.inr (.inr (.inr g))))), (ta, .inr (7, [.ref tb, .int (nI L1_)])), (tb, .inl (cB, 9000, .inl (fput (fput (fput ft1 L1_ (20 + 30 * (q5 - 1) + 22) (dl_ >>> ((8 : Int32) &&& 31))) L1_ ((20 + 30 * (q5 - 1) + 22) + 1) dl_) L1_ (20 + 30 * (q5 - 1) + 24) dt_)))] ++ famN 32 ad le tu vo sr lo fr) H := hP
      have hD : va_D A ([(bb, .inl (cB, 4000, .inl f)), (aB, .inr (0, [.ref sa, .ref bb, .int us])), (sa, .inl (cS, 32, .inr (.inr (.inr (.inr g))))), (ta, .inr (7, [.ref tb, .int (nI L1_)])), (tb, .inl (cB, 9000, .inl (fput (fput (fput ft1 L1_ (20 + 30 * (q5 - 1) + 22) (dl_ >>> ((8 : Int32) &&& 31))) L1_ ((20 + 30 * (q5 - 1) + 22) + 1) dl_) L1_ (20 + 30 * (q5 - 1) + 24) dt_)))] ++ famN 32 ad le tu vo sr lo fr) := hD
      have s3 := tp_set s2 (by omega) (show dt_.toInt8.toInt32 = SS (20 + 30 * (q5 - 1) + 24) from by rw [hsh q5 24 hq5a hq3 (by decide), edt_]; rfl)
      refine lv_aload_n hx hb dX9_writeSamples_60 rfl (lv_at hl 4 rfl) ?_
      refine lv_iload hx hb dX9_writeSamples_61 (lv_at hl 1 rfl) ?_
      refine lv_bipush (v := 25) hx hb dX9_writeSamples_63 (by decide) ?_
      refine lv_iadd hx hb dX9_writeSamples_65 ?_
      refine g_topi (y := nI (20 + 30 * (q5 - 1) + 25)) (nI_add _ 25) ?_
      refine lv_aload hx hb dX9_writeSamples_66 (lv_at hl 0 rfl) ?_
      refine va_get (D := (dC, dI)) (ci := 5) (v := .int (vo q5)) (C := RX5) (T := TX5) (N := 6) hx hb hts iwX5 hown hK hP _ (fam_at (k := q5) (hq3)) rfl 2 (by decide) (hts (.fieldLink RX9 73 "ModulePlayer$Sample" "volume" "I") (List.mem_cons_of_mem _ kw_493)) (fun _ h9 => h9) rfl dX9_writeSamples_68 ?_
      refine g_callvQ (X := [(bb, .inl (cB, 4000, .inl f)), (aB, .inr (0, [.ref sa, .ref bb, .int us])), (sa, .inl (cS, 32, .inr (.inr (.inr (.inr g))))), (ta, .inr (7, [.ref tb, .int (nI L1_)])), (tb, .inl (cB, 9000, .inl (fput (fput (fput ft1 L1_ (20 + 30 * (q5 - 1) + 22) (dl_ >>> ((8 : Int32) &&& 31))) L1_ ((20 + 30 * (q5 - 1) + 22) + 1) dl_) L1_ (20 + 30 * (q5 - 1) + 24) dt_)))]) (wr := [(bb, .inl (cB, 4000, .inl f)), (aB, .inr (0, [.ref sa, .ref bb, .int us])), (sa, .inl (cS, 32, .inr (.inr (.inr (.inr g)))))]) (va_runV (As := [.int (nI (20 + 30 * (q5 - 1) + 25)), .int (vo q5)]) (rest := []) ⟨hx, hb, hml, hown, hts⟩ (c_put l dC dI H.size ta tb cB (fput (fput (fput ft1 L1_ (20 + 30 * (q5 - 1) + 22) (dl_ >>> ((8 : Int32) &&& 31))) L1_ ((20 + 30 * (q5 - 1) + 22) + 1) dl_) L1_ (20 + 30 * (q5 - 1) + 24) dt_) L1_ (20 + 30 * (q5 - 1) + 25) (vo q5) L1_ (by omega) (by omega) (by omega)) (cwV 2 hts (gG_V kw_474 kw_243 kw_244 kw_18 kw_245) rfl rfl rfl (by decide +kernel) ⟨Nat.le_of_ble_eq_true rfl, Nat.le_of_ble_eq_true rfl⟩) (g_preV (ws := [(bb, .inl (cB, 4000, .inl f)), (aB, .inr (0, [.ref sa, .ref bb, .int us])), (sa, .inl (cS, 32, .inr (.inr (.inr (.inr g))))), (ta, .inr (7, [.ref tb, .int (nI L1_)])), (tb, .inl (cB, 9000, .inl (fput (fput (fput ft1 L1_ (20 + 30 * (q5 - 1) + 22) (dl_ >>> ((8 : Int32) &&& 31))) L1_ ((20 + 30 * (q5 - 1) + 22) + 1) dl_) L1_ (20 + 30 * (q5 - 1) + 24) dt_)))]) (C := RX7) (T := TX7) (N := 2) hP.left hD.left hK hS hA hN hZ (q0 := 3) rfl rfl [3, 4] (by decide +kernel) rfl [0] rfl) rfl rfl hl.1 rfl (lv_room (Nat.le_of_ble_eq_true rfl)) dX9_writeSamples_71 ⟨Nat.le_of_ble_eq_true rfl, Nat.le_of_ble_eq_true rfl⟩) hP hD hK hS hA [3, 4] [0, 1, 2] rfl rfl (by decide +kernel) (by decide +kernel) (fun w ty1 H locs hw_71 hP hD _ hS => ?_)
      have hu := hw_71
      cases hu
      have hP : va_P (dC, dI) vwCl ([(bb, .inl (cB, 4000, .inl f)), (aB, .inr (0, [.ref sa, .ref bb, .int us])), (sa, .inl (cS, 32, .inr (.inr (.inr (.inr g))))), (ta, .inr (7, [.ref tb, .int (nI L1_)])), (tb, .inl (cB, 9000, .inl (fput (fput (fput (fput ft1 L1_ (20 + 30 * (q5 - 1) + 22) (dl_ >>> ((8 : Int32) &&& 31))) L1_ ((20 + 30 * (q5 - 1) + 22) + 1) dl_) L1_ (20 + 30 * (q5 - 1) + 24) dt_) L1_ (20 + 30 * (q5 - 1) + 25) (vo q5))))] ++ famN 32 ad le tu vo sr lo fr) H := hP
      have hD : va_D A ([(bb, .inl (cB, 4000, .inl f)), (aB, .inr (0, [.ref sa, .ref bb, .int us])), (sa, .inl (cS, 32, .inr (.inr (.inr (.inr g))))), (ta, .inr (7, [.ref tb, .int (nI L1_)])), (tb, .inl (cB, 9000, .inl (fput (fput (fput (fput ft1 L1_ (20 + 30 * (q5 - 1) + 22) (dl_ >>> ((8 : Int32) &&& 31))) L1_ ((20 + 30 * (q5 - 1) + 22) + 1) dl_) L1_ (20 + 30 * (q5 - 1) + 24) dt_) L1_ (20 + 30 * (q5 - 1) + 25) (vo q5))))] ++ famN 32 ad le tu vo sr lo fr) := hD
      have s4 := tp_set s3 (by omega) (show (vo q5).toInt8.toInt32 = SS (20 + 30 * (q5 - 1) + 25) from by rw [hsh q5 25 hq5a hq3 (by decide)]; rfl)
      refine lv_aload_n hx hb dX9_writeSamples_74 rfl (lv_at hl 4 rfl) ?_
      refine lv_iload hx hb dX9_writeSamples_75 (lv_at hl 1 rfl) ?_
      refine lv_bipush (v := 26) hx hb dX9_writeSamples_77 (by decide) ?_
      refine lv_iadd hx hb dX9_writeSamples_79 ?_
      refine g_topi (y := nI (20 + 30 * (q5 - 1) + 26)) (nI_add _ 26) ?_
      refine lv_aload hx hb dX9_writeSamples_80 (lv_at hl 0 rfl) ?_
      refine va_get (D := (dC, dI)) (ci := 5) (v := .int (sr q5)) (C := RX5) (T := TX5) (N := 6) hx hb hts iwX5 hown hK hP _ (fam_at (k := q5) (hq3)) rfl 3 (by decide) (hts (.fieldLink RX9 76 "ModulePlayer$Sample" "start" "I") (List.mem_cons_of_mem _ kw_494)) (fun _ h9 => h9) rfl dX9_writeSamples_82 ?_
      refine lv_iconst (v := 2) hx hb dX9_writeSamples_85 (by decide) ?_
      refine lv_idiv hx hb dX9_writeSamples_86 (by decide) ?_
      refine lv_topi (fun ds_ eds_ => ?_)
      refine g_callvQ (X := [(bb, .inl (cB, 4000, .inl f)), (aB, .inr (0, [.ref sa, .ref bb, .int us])), (sa, .inl (cS, 32, .inr (.inr (.inr (.inr g))))), (ta, .inr (7, [.ref tb, .int (nI L1_)])), (tb, .inl (cB, 9000, .inl (fput (fput (fput (fput ft1 L1_ (20 + 30 * (q5 - 1) + 22) (dl_ >>> ((8 : Int32) &&& 31))) L1_ ((20 + 30 * (q5 - 1) + 22) + 1) dl_) L1_ (20 + 30 * (q5 - 1) + 24) dt_) L1_ (20 + 30 * (q5 - 1) + 25) (vo q5))))]) (wr := [(bb, .inl (cB, 4000, .inl f)), (aB, .inr (0, [.ref sa, .ref bb, .int us])), (sa, .inl (cS, 32, .inr (.inr (.inr (.inr g)))))]) (va_runV (As := [.int (nI (20 + 30 * (q5 - 1) + 26)), .int ds_]) (rest := []) ⟨hx, hb, hml, hown, hts⟩ (x_putPair l dC dI H.size ta tb cB (fput (fput (fput (fput ft1 L1_ (20 + 30 * (q5 - 1) + 22) (dl_ >>> ((8 : Int32) &&& 31))) L1_ ((20 + 30 * (q5 - 1) + 22) + 1) dl_) L1_ (20 + 30 * (q5 - 1) + 24) dt_) L1_ (20 + 30 * (q5 - 1) + 25) (vo q5)) L1_ (20 + 30 * (q5 - 1) + 26) ds_ (by omega) (by omega)) (cwV 2 hts (gG_V kw_498 kw_499 kw_500 kw_18 kw_501) rfl rfl rfl (by decide +kernel) ⟨Nat.le_of_ble_eq_true rfl, Nat.le_of_ble_eq_true rfl⟩) (g_preV (ws := [(bb, .inl (cB, 4000, .inl f)), (aB, .inr (0, [.ref sa, .ref bb, .int us])), (sa, .inl (cS, 32, .inr (.inr (.inr (.inr g))))), (ta, .inr (7, [.ref tb, .int (nI L1_)])), (tb, .inl (cB, 9000, .inl (fput (fput (fput (fput ft1 L1_ (20 + 30 * (q5 - 1) + 22) (dl_ >>> ((8 : Int32) &&& 31))) L1_ ((20 + 30 * (q5 - 1) + 22) + 1) dl_) L1_ (20 + 30 * (q5 - 1) + 24) dt_) L1_ (20 + 30 * (q5 - 1) + 25) (vo q5))))]) (C := RX7) (T := TX7) (N := 2) hP.left hD.left hK hS hA hN hZ (q0 := 3) rfl rfl [3, 4] (by decide +kernel) rfl [0] rfl) rfl rfl hl.1 rfl (lv_room (Nat.le_of_ble_eq_true rfl)) dX9_writeSamples_87 ⟨Nat.le_of_ble_eq_true rfl, Nat.le_of_ble_eq_true rfl⟩) hP hD hK hS hA [3, 4] [0, 1, 2] rfl rfl (by decide +kernel) (by decide +kernel) (fun w ty1 H locs hw_87 hP hD _ hS => ?_)
      have hu := hw_87
      cases hu
      have hP : va_P (dC, dI) vwCl ([(bb, .inl (cB, 4000, .inl f)), (aB, .inr (0, [.ref sa, .ref bb, .int us])), (sa, .inl (cS, 32, .inr (.inr (.inr (.inr g))))), (ta, .inr (7, [.ref tb, .int (nI L1_)])), (tb, .inl (cB, 9000, .inl (fput (fput (fput (fput (fput (fput ft1 L1_ (20 + 30 * (q5 - 1) + 22) (dl_ >>> ((8 : Int32) &&& 31))) L1_ ((20 + 30 * (q5 - 1) + 22) + 1) dl_) L1_ (20 + 30 * (q5 - 1) + 24) dt_) L1_ (20 + 30 * (q5 - 1) + 25) (vo q5)) L1_ (20 + 30 * (q5 - 1) + 26) (ds_ >>> ((8 : Int32) &&& 31))) L1_ ((20 + 30 * (q5 - 1) + 26) + 1) ds_)))] ++ famN 32 ad le tu vo sr lo fr) H := hP
      have hD : va_D A ([(bb, .inl (cB, 4000, .inl f)), (aB, .inr (0, [.ref sa, .ref bb, .int us])), (sa, .inl (cS, 32, .inr (.inr (.inr (.inr g))))), (ta, .inr (7, [.ref tb, .int (nI L1_)])), (tb, .inl (cB, 9000, .inl (fput (fput (fput (fput (fput (fput ft1 L1_ (20 + 30 * (q5 - 1) + 22) (dl_ >>> ((8 : Int32) &&& 31))) L1_ ((20 + 30 * (q5 - 1) + 22) + 1) dl_) L1_ (20 + 30 * (q5 - 1) + 24) dt_) L1_ (20 + 30 * (q5 - 1) + 25) (vo q5)) L1_ (20 + 30 * (q5 - 1) + 26) (ds_ >>> ((8 : Int32) &&& 31))) L1_ ((20 + 30 * (q5 - 1) + 26) + 1) ds_)))] ++ famN 32 ad le tu vo sr lo fr) := hD
      have s5 := tp_set s4 (by omega) (show (ds_ >>> ((8 : Int32) &&& 31)).toInt8.toInt32 = SS (20 + 30 * (q5 - 1) + 26) from by rw [hsh q5 26 hq5a hq3 (by decide), eds_]; rfl)
      have s6 := tp_set s5 (by omega) (show ds_.toInt8.toInt32 = SS (20 + 30 * (q5 - 1) + 27) from by rw [hsh q5 27 hq5a hq3 (by decide), eds_]; rfl)
      refine lv_aload_n hx hb dX9_writeSamples_90 rfl (lv_at hl 4 rfl) ?_
      refine lv_iload hx hb dX9_writeSamples_91 (lv_at hl 1 rfl) ?_
      refine lv_bipush (v := 28) hx hb dX9_writeSamples_93 (by decide) ?_
      refine lv_iadd hx hb dX9_writeSamples_95 ?_
      refine g_topi (y := nI (20 + 30 * (q5 - 1) + 28)) (nI_add _ 28) ?_
      refine lv_aload hx hb dX9_writeSamples_96 (lv_at hl 0 rfl) ?_
      refine va_get (D := (dC, dI)) (ci := 5) (v := .int (lo q5)) (C := RX5) (T := TX5) (N := 6) hx hb hts iwX5 hown hK hP _ (fam_at (k := q5) (hq3)) rfl 4 (by decide) (hts (.fieldLink RX9 79 "ModulePlayer$Sample" "loop" "I") (List.mem_cons_of_mem _ kw_495)) (fun _ h9 => h9) rfl dX9_writeSamples_98 ?_
      refine lv_iconst (v := 2) hx hb dX9_writeSamples_101 (by decide) ?_
      refine lv_idiv hx hb dX9_writeSamples_102 (by decide) ?_
      refine lv_topi (fun do_ edo_ => ?_)
      refine g_callvQ (X := [(bb, .inl (cB, 4000, .inl f)), (aB, .inr (0, [.ref sa, .ref bb, .int us])), (sa, .inl (cS, 32, .inr (.inr (.inr (.inr g))))), (ta, .inr (7, [.ref tb, .int (nI L1_)])), (tb, .inl (cB, 9000, .inl (fput (fput (fput (fput (fput (fput ft1 L1_ (20 + 30 * (q5 - 1) + 22) (dl_ >>> ((8 : Int32) &&& 31))) L1_ ((20 + 30 * (q5 - 1) + 22) + 1) dl_) L1_ (20 + 30 * (q5 - 1) + 24) dt_) L1_ (20 + 30 * (q5 - 1) + 25) (vo q5)) L1_ (20 + 30 * (q5 - 1) + 26) (ds_ >>> ((8 : Int32) &&& 31))) L1_ ((20 + 30 * (q5 - 1) + 26) + 1) ds_)))]) (wr := [(bb, .inl (cB, 4000, .inl f)), (aB, .inr (0, [.ref sa, .ref bb, .int us])), (sa, .inl (cS, 32, .inr (.inr (.inr (.inr g)))))]) (va_runV (As := [.int (nI (20 + 30 * (q5 - 1) + 28)), .int do_]) (rest := []) ⟨hx, hb, hml, hown, hts⟩ (x_putPair l dC dI H.size ta tb cB (fput (fput (fput (fput (fput (fput ft1 L1_ (20 + 30 * (q5 - 1) + 22) (dl_ >>> ((8 : Int32) &&& 31))) L1_ ((20 + 30 * (q5 - 1) + 22) + 1) dl_) L1_ (20 + 30 * (q5 - 1) + 24) dt_) L1_ (20 + 30 * (q5 - 1) + 25) (vo q5)) L1_ (20 + 30 * (q5 - 1) + 26) (ds_ >>> ((8 : Int32) &&& 31))) L1_ ((20 + 30 * (q5 - 1) + 26) + 1) ds_) L1_ (20 + 30 * (q5 - 1) + 28) do_ (by omega) (by omega)) (cwV 2 hts (gG_V kw_498 kw_499 kw_500 kw_18 kw_501) rfl rfl rfl (by decide +kernel) ⟨Nat.le_of_ble_eq_true rfl, Nat.le_of_ble_eq_true rfl⟩) (g_preV (ws := [(bb, .inl (cB, 4000, .inl f)), (aB, .inr (0, [.ref sa, .ref bb, .int us])), (sa, .inl (cS, 32, .inr (.inr (.inr (.inr g))))), (ta, .inr (7, [.ref tb, .int (nI L1_)])), (tb, .inl (cB, 9000, .inl (fput (fput (fput (fput (fput (fput ft1 L1_ (20 + 30 * (q5 - 1) + 22) (dl_ >>> ((8 : Int32) &&& 31))) L1_ ((20 + 30 * (q5 - 1) + 22) + 1) dl_) L1_ (20 + 30 * (q5 - 1) + 24) dt_) L1_ (20 + 30 * (q5 - 1) + 25) (vo q5)) L1_ (20 + 30 * (q5 - 1) + 26) (ds_ >>> ((8 : Int32) &&& 31))) L1_ ((20 + 30 * (q5 - 1) + 26) + 1) ds_)))]) (C := RX7) (T := TX7) (N := 2) hP.left hD.left hK hS hA hN hZ (q0 := 3) rfl rfl [3, 4] (by decide +kernel) rfl [0] rfl) rfl rfl hl.1 rfl (lv_room (Nat.le_of_ble_eq_true rfl)) dX9_writeSamples_103 ⟨Nat.le_of_ble_eq_true rfl, Nat.le_of_ble_eq_true rfl⟩) hP hD hK hS hA [3, 4] [0, 1, 2] rfl rfl (by decide +kernel) (by decide +kernel) (fun w ty1 H locs hw_103 hP hD _ hS => ?_)
      have hu := hw_103
      cases hu
      have hP : va_P (dC, dI) vwCl ([(bb, .inl (cB, 4000, .inl f)), (aB, .inr (0, [.ref sa, .ref bb, .int us])), (sa, .inl (cS, 32, .inr (.inr (.inr (.inr g))))), (ta, .inr (7, [.ref tb, .int (nI L1_)])), (tb, .inl (cB, 9000, .inl (fput (fput (fput (fput (fput (fput (fput (fput ft1 L1_ (20 + 30 * (q5 - 1) + 22) (dl_ >>> ((8 : Int32) &&& 31))) L1_ ((20 + 30 * (q5 - 1) + 22) + 1) dl_) L1_ (20 + 30 * (q5 - 1) + 24) dt_) L1_ (20 + 30 * (q5 - 1) + 25) (vo q5)) L1_ (20 + 30 * (q5 - 1) + 26) (ds_ >>> ((8 : Int32) &&& 31))) L1_ ((20 + 30 * (q5 - 1) + 26) + 1) ds_) L1_ (20 + 30 * (q5 - 1) + 28) (do_ >>> ((8 : Int32) &&& 31))) L1_ ((20 + 30 * (q5 - 1) + 28) + 1) do_)))] ++ famN 32 ad le tu vo sr lo fr) H := hP
      have hD : va_D A ([(bb, .inl (cB, 4000, .inl f)), (aB, .inr (0, [.ref sa, .ref bb, .int us])), (sa, .inl (cS, 32, .inr (.inr (.inr (.inr g))))), (ta, .inr (7, [.ref tb, .int (nI L1_)])), (tb, .inl (cB, 9000, .inl (fput (fput (fput (fput (fput (fput (fput (fput ft1 L1_ (20 + 30 * (q5 - 1) + 22) (dl_ >>> ((8 : Int32) &&& 31))) L1_ ((20 + 30 * (q5 - 1) + 22) + 1) dl_) L1_ (20 + 30 * (q5 - 1) + 24) dt_) L1_ (20 + 30 * (q5 - 1) + 25) (vo q5)) L1_ (20 + 30 * (q5 - 1) + 26) (ds_ >>> ((8 : Int32) &&& 31))) L1_ ((20 + 30 * (q5 - 1) + 26) + 1) ds_) L1_ (20 + 30 * (q5 - 1) + 28) (do_ >>> ((8 : Int32) &&& 31))) L1_ ((20 + 30 * (q5 - 1) + 28) + 1) do_)))] ++ famN 32 ad le tu vo sr lo fr) := hD
      have s7 := tp_set s6 (by omega) (show (do_ >>> ((8 : Int32) &&& 31)).toInt8.toInt32 = SS (20 + 30 * (q5 - 1) + 28) from by rw [hsh q5 28 hq5a hq3 (by decide), edo_]; rfl)
      have s8 := tp_set s7 (by omega) (show do_.toInt8.toInt32 = SS (20 + 30 * (q5 - 1) + 29) from by rw [hsh q5 29 hq5a hq3 (by decide), edo_]; rfl)
      refine lv_iconst (v := 0) hx hb dX9_writeSamples_106 (by decide) ?_
      refine lv_istore (lv' := [(7, .int 0), (6, .ref (ad q5)), (5, .int (nI (20 + 30 * (q5 - 1)))), (4, .int (nI q5)), (3, .int (nI nx_)), (0, .ref ta), (1, .ref aB)]) hx hb dX9_writeSamples_107 hl (by decide) rfl (fun ls hl => ?_)
      have hP := va_P.part (X := [(bb, .inl (cB, 4000, .inl f)), (aB, .inr (0, [.ref sa, .ref bb, .int us])), (sa, .inl (cS, 32, .inr (.inr (.inr (.inr g))))), (ta, .inr (7, [.ref tb, .int (nI L1_)])), (tb, .inl (cB, 9000, .inl (fput (fput (fput (fput (fput (fput (fput (fput ft1 L1_ (20 + 30 * (q5 - 1) + 22) (dl_ >>> ((8 : Int32) &&& 31))) L1_ ((20 + 30 * (q5 - 1) + 22) + 1) dl_) L1_ (20 + 30 * (q5 - 1) + 24) dt_) L1_ (20 + 30 * (q5 - 1) + 25) (vo q5)) L1_ (20 + 30 * (q5 - 1) + 26) (ds_ >>> ((8 : Int32) &&& 31))) L1_ ((20 + 30 * (q5 - 1) + 26) + 1) ds_) L1_ (20 + 30 * (q5 - 1) + 28) (do_ >>> ((8 : Int32) &&& 31))) L1_ ((20 + 30 * (q5 - 1) + 28) + 1) do_)))]) (cx := [(ta, .inr (7, [.ref tb, .int (nI L1_)])), (tb, .inl (cB, 9000, .inl (fput (fput (fput (fput (fput (fput (fput (fput ft1 L1_ (20 + 30 * (q5 - 1) + 22) (dl_ >>> ((8 : Int32) &&& 31))) L1_ ((20 + 30 * (q5 - 1) + 22) + 1) dl_) L1_ (20 + 30 * (q5 - 1) + 24) dt_) L1_ (20 + 30 * (q5 - 1) + 25) (vo q5)) L1_ (20 + 30 * (q5 - 1) + 26) (ds_ >>> ((8 : Int32) &&& 31))) L1_ ((20 + 30 * (q5 - 1) + 26) + 1) ds_) L1_ (20 + 30 * (q5 - 1) + 28) (do_ >>> ((8 : Int32) &&& 31))) L1_ ((20 + 30 * (q5 - 1) + 28) + 1) do_))), (aB, .inr (0, [.ref sa, .ref bb, .int us])), (sa, .inl (cS, 32, .inr (.inr (.inr (.inr g))))), (bb, .inl (cB, 4000, .inl f))]) hP [3, 4, 1, 2, 0] rfl
      have hD := va_D.part (X := [(bb, .inl (cB, 4000, .inl f)), (aB, .inr (0, [.ref sa, .ref bb, .int us])), (sa, .inl (cS, 32, .inr (.inr (.inr (.inr g))))), (ta, .inr (7, [.ref tb, .int (nI L1_)])), (tb, .inl (cB, 9000, .inl (fput (fput (fput (fput (fput (fput (fput (fput ft1 L1_ (20 + 30 * (q5 - 1) + 22) (dl_ >>> ((8 : Int32) &&& 31))) L1_ ((20 + 30 * (q5 - 1) + 22) + 1) dl_) L1_ (20 + 30 * (q5 - 1) + 24) dt_) L1_ (20 + 30 * (q5 - 1) + 25) (vo q5)) L1_ (20 + 30 * (q5 - 1) + 26) (ds_ >>> ((8 : Int32) &&& 31))) L1_ ((20 + 30 * (q5 - 1) + 26) + 1) ds_) L1_ (20 + 30 * (q5 - 1) + 28) (do_ >>> ((8 : Int32) &&& 31))) L1_ ((20 + 30 * (q5 - 1) + 28) + 1) do_)))]) (cx := [(ta, .inr (7, [.ref tb, .int (nI L1_)])), (tb, .inl (cB, 9000, .inl (fput (fput (fput (fput (fput (fput (fput (fput ft1 L1_ (20 + 30 * (q5 - 1) + 22) (dl_ >>> ((8 : Int32) &&& 31))) L1_ ((20 + 30 * (q5 - 1) + 22) + 1) dl_) L1_ (20 + 30 * (q5 - 1) + 24) dt_) L1_ (20 + 30 * (q5 - 1) + 25) (vo q5)) L1_ (20 + 30 * (q5 - 1) + 26) (ds_ >>> ((8 : Int32) &&& 31))) L1_ ((20 + 30 * (q5 - 1) + 26) + 1) ds_) L1_ (20 + 30 * (q5 - 1) + 28) (do_ >>> ((8 : Int32) &&& 31))) L1_ ((20 + 30 * (q5 - 1) + 28) + 1) do_))), (aB, .inr (0, [.ref sa, .ref bb, .int us])), (sa, .inl (cS, 32, .inr (.inr (.inr (.inr g))))), (bb, .inl (cB, 4000, .inl f))]) hD [3, 4, 1, 2, 0] (by decide +kernel) rfl
      have hP : va_P (dC, dI) vwCl ([(ta, .inr (7, [.ref tb, .int (nI L1_)])), (tb, .inl (cB, 9000, .inl (fput (fput (fput (fput (fput (fput (fput (fput ft1 L1_ (20 + 30 * (q5 - 1) + 22) (dl_ >>> ((8 : Int32) &&& 31))) L1_ ((20 + 30 * (q5 - 1) + 22) + 1) dl_) L1_ (20 + 30 * (q5 - 1) + 24) dt_) L1_ (20 + 30 * (q5 - 1) + 25) (vo q5)) L1_ (20 + 30 * (q5 - 1) + 26) (ds_ >>> ((8 : Int32) &&& 31))) L1_ ((20 + 30 * (q5 - 1) + 26) + 1) ds_) L1_ (20 + 30 * (q5 - 1) + 28) (do_ >>> ((8 : Int32) &&& 31))) L1_ ((20 + 30 * (q5 - 1) + 28) + 1) do_))), (aB, .inr (0, [.ref sa, .ref bb, .int us])), (sa, .inl (cS, 32, .inr (.inr (.inr (.inr g))))), (bb, .inl (cB, 4000, .inl f))] ++ famN 32 ad le tu vo sr lo fr) H := hP
      have hD : va_D A ([(ta, .inr (7, [.ref tb, .int (nI L1_)])), (tb, .inl (cB, 9000, .inl (fput (fput (fput (fput (fput (fput (fput (fput ft1 L1_ (20 + 30 * (q5 - 1) + 22) (dl_ >>> ((8 : Int32) &&& 31))) L1_ ((20 + 30 * (q5 - 1) + 22) + 1) dl_) L1_ (20 + 30 * (q5 - 1) + 24) dt_) L1_ (20 + 30 * (q5 - 1) + 25) (vo q5)) L1_ (20 + 30 * (q5 - 1) + 26) (ds_ >>> ((8 : Int32) &&& 31))) L1_ ((20 + 30 * (q5 - 1) + 26) + 1) ds_) L1_ (20 + 30 * (q5 - 1) + 28) (do_ >>> ((8 : Int32) &&& 31))) L1_ ((20 + 30 * (q5 - 1) + 28) + 1) do_))), (aB, .inr (0, [.ref sa, .ref bb, .int us])), (sa, .inl (cS, 32, .inr (.inr (.inr (.inr g))))), (bb, .inl (cB, 4000, .inl f))] ++ famN 32 ad le tu vo sr lo fr) := hD
      have LP109 : ∀ (fu109 : Nat) (q109 : Nat) (L2_ : Nat) (ft2 : Nat → Int32) (hq109 : q109 ≤ ln q5) (eL2_ : L2_ = kz + sumTo ln q5 + q109) (ht2 : tpP SS (20 + 30 * (q5 - 1) + 30) L2_ ft2) (hm109 : ln q5 - q109 < fu109) (H : Heap) (locs : List Loc), va_P (dC, dI) vwCl ([(ta, .inr (7, [.ref tb, .int (nI L2_)])), (tb, .inl (cB, 9000, .inl ft2)), (aB, .inr (0, [.ref sa, .ref bb, .int us])), (sa, .inl (cS, 32, .inr (.inr (.inr (.inr g))))), (bb, .inl (cB, 4000, .inl f))] ++ famN 32 ad le tu vo sr lo fr) H → va_D A ([(ta, .inr (7, [.ref tb, .int (nI L2_)])), (tb, .inl (cB, 9000, .inl ft2)), (aB, .inr (0, [.ref sa, .ref bb, .int us])), (sa, .inl (cS, 32, .inr (.inr (.inr (.inr g))))), (bb, .inl (cB, 4000, .inl f))] ++ famN 32 ad le tu vo sr lo fr) → va_S A s.heap H locs → ∀ ls : Array Slot, lv_has ls 8 [(7, .int (nI q109)), (6, .ref (ad q5)), (4, .int (nI q5)), (3, .int (nI nx_)), (0, .ref ta), (1, .ref aB)] → W p l e ({ frames := 3, cells := 0, slots := 0, locals := 66 }) s m ([.ref ta, .ref aB, .int (nI kz)] : List Value).toArray below meth c H locs (0) (0) (MQ below (va_Qv (fun u : va_W × gT => ∃ (f2 : Nat → Int32), u = (([(ta, .inr (7, [.ref tb, .int (nI (kz + sumTo ln 32))])), (tb, .inl (cB, 9000, .inl f2)), (aB, .inr (0, [.ref sa, .ref bb, .int us])), (sa, .inl (cS, 32, .inr (.inr (.inr (.inr g))))), (bb, .inl (cB, 4000, .inl f))] ++ famN 32 ad le tu vo sr lo fr), []) ∧ (∀ kx, kx < kz + sumTo ln 32 → f2 kx = SS kx)) (gB (dC, dI) A) A) ([.ref ta, .ref aB, .int (nI kz)] : List Value).toArray s 0 0 A) (F0 m 109 ls []) := by
        intro fu109
        induction fu109 with
        | zero => intro q109 L2_ ft2 hq109 eL2_ ht2 hm109; exact absurd hm109 (Nat.not_lt_zero _)
        | succ fu109 ih109 =>
          intro q109 L2_ ft2 hq109 eL2_ ht2 hm109 H locs hP hD hS ls hl
          refine lv_iload hx hb dX9_writeSamples_109 (lv_at hl 0 rfl) ?_
          refine lv_aload hx hb dX9_writeSamples_111 (lv_at hl 1 rfl) ?_
          refine va_get (D := (dC, dI)) (ci := 5) (v := .int (le q5)) (C := RX5) (T := TX5) (N := 6) hx hb hts iwX5 hown hK hP _ (fam_at (k := q5) (hq3)) rfl 0 (by decide) (hts (.fieldLink RX9 64 "ModulePlayer$Sample" "length" "I") (List.mem_cons_of_mem _ kw_491)) (fun _ h9 => h9) rfl dX9_writeSamples_113 ?_
          refine lv_icmp_ge (tgt := 141) hx hb dX9_writeSamples_116 (by decide) (fun c_116 => ?_) (fun c_116 => ?_)
          · have hqj : q109 = ln q5 := by have := nI_le' (elq ▸ c_116) (by omega) (by omega); omega
            refine lv_iload_n hx hb dX9_writeSamples_141 rfl (lv_at hl 3 rfl) ?_
            refine lv_aload hx hb dX9_writeSamples_142 (lv_at hl 1 rfl) ?_
            refine va_get (D := (dC, dI)) (ci := 5) (v := .int (le q5)) (C := RX5) (T := TX5) (N := 6) hx hb hts iwX5 hown hK hP _ (fam_at (k := q5) (hq3)) rfl 0 (by decide) (hts (.fieldLink RX9 64 "ModulePlayer$Sample" "length" "I") (List.mem_cons_of_mem _ kw_491)) (fun _ h9 => h9) rfl dX9_writeSamples_144 ?_
            refine lv_iadd hx hb dX9_writeSamples_147 ?_
            refine g_topi (y := nI (nx_ + ln q5)) (by rw [elq]; exact nI_add _ _) ?_
            refine lv_istore_n (lv' := [(3, .int (nI (nx_ + ln q5))), (7, .int (nI q109)), (6, .ref (ad q5)), (4, .int (nI q5)), (0, .ref ta), (1, .ref aB)]) hx hb dX9_writeSamples_148 rfl hl (by decide) rfl (fun ls hl => ?_)
            refine lv_iinc (v := nI (q5 + 1)) (lv' := [(4, .int (nI (q5 + 1))), (3, .int (nI (nx_ + ln q5))), (7, .int (nI q109)), (6, .ref (ad q5)), (0, .ref ta), (1, .ref aB)]) hx hb dX9_writeSamples_149 hl (k := 3) rfl (nI_1 q5) (by decide) rfl (fun ls hl => ?_)
            refine lv_goto (tgt := 5) hx hb dX9_writeSamples_152 (by decide) ?_
            have hP : va_P (dC, dI) vwCl ([(ta, .inr (7, [.ref tb, .int (nI L2_)])), (tb, .inl (cB, 9000, .inl ft2)), (aB, .inr (0, [.ref sa, .ref bb, .int us])), (sa, .inl (cS, 32, .inr (.inr (.inr (.inr g))))), (bb, .inl (cB, 4000, .inl f))] ++ famN 32 ad le tu vo sr lo fr) H := hP
            have hD : va_D A ([(ta, .inr (7, [.ref tb, .int (nI L2_)])), (tb, .inl (cB, 9000, .inl ft2)), (aB, .inr (0, [.ref sa, .ref bb, .int us])), (sa, .inl (cS, 32, .inr (.inr (.inr (.inr g))))), (bb, .inl (cB, 4000, .inl f))] ++ famN 32 ad le tu vo sr lo fr) := hD
            exact ih5 (q5 + 1) L2_ ft2 (nx_ + ln q5) (by omega) (by omega) (by omega) (by omega) (tp_e ht2 (by omega) rfl) (by omega) _ _ hP hD hS _ (lv_sub hl [0, 1, 4, 5] rfl)
          refine lv_aload_n hx hb dX9_writeSamples_119 rfl (lv_at hl 4 rfl) ?_
          refine lv_iload_n hx hb dX9_writeSamples_120 rfl (lv_at hl 3 rfl) ?_
          refine lv_iload hx hb dX9_writeSamples_121 (lv_at hl 0 rfl) ?_
          refine lv_iadd hx hb dX9_writeSamples_123 ?_
          refine g_topi (y := nI (nx_ + q109)) (nI_add _ _) ?_
          refine lv_aload_n hx hb dX9_writeSamples_124 rfl (lv_at hl 5 rfl) ?_
          refine lv_aload hx hb dX9_writeSamples_125 (lv_at hl 1 rfl) ?_
          refine lv_iload hx hb dX9_writeSamples_127 (lv_at hl 0 rfl) ?_
          refine g_calliP (X := [(ta, .inr (7, [.ref tb, .int (nI L2_)])), (tb, .inl (cB, 9000, .inl ft2)), (aB, .inr (0, [.ref sa, .ref bb, .int us])), (sa, .inl (cS, 32, .inr (.inr (.inr (.inr g))))), (bb, .inl (cB, 4000, .inl f))]) (wr := [(ta, .inr (7, [.ref tb, .int (nI L2_)])), (tb, .inl (cB, 9000, .inl ft2)), (sa, .inl (cS, 32, .inr (.inr (.inr (.inr g)))))]) (va_runV (As := [.ref (ad q5), .int (nI q109)]) (rest := [.int (nI (nx_ + q109)), .ref ta]) ⟨hx, hb, hml, hown, hts⟩ (x_getByte l dC dI H.size aB sa bb us ad cB f le tu vo sr lo fr q5 (sumTo ln q5 + q109) (nI q109) (hq3) (by have := nI_nle' (elq ▸ c_116) (by omega); omega) (by rw [bk_fr hB hq3]; exact nI_add _ _)) (cwV 2 hts (gG_V kw_502 kw_503 kw_504 kw_22 kw_505) rfl rfl rfl (by decide +kernel) ⟨Nat.le_of_ble_eq_true rfl, Nat.le_of_ble_eq_true rfl⟩) (g_preVP (X := [(ta, .inr (7, [.ref tb, .int (nI L2_)])), (tb, .inl (cB, 9000, .inl ft2)), (aB, .inr (0, [.ref sa, .ref bb, .int us])), (sa, .inl (cS, 32, .inr (.inr (.inr (.inr g))))), (bb, .inl (cB, 4000, .inl f))]) (C := RX0) (T := TX0) (N := 3) hP hD hK hS hA hN hZ (q0 := 2) rfl rfl [2, 4] (by decide +kernel) rfl [0] rfl) rfl rfl hl.1 rfl (lv_room (Nat.le_of_ble_eq_true rfl)) dX9_writeSamples_129 ⟨Nat.le_of_ble_eq_true rfl, Nat.le_of_ble_eq_true rfl⟩) hP hD hK hS hA [2, 4] [0, 1, 3] rfl rfl (by decide +kernel) (by decide +kernel) (fun r_129 w ty1 H locs hw_129 hJ _ hS => ?_)
          rcases hw_129 with ⟨hu, hr_129⟩
          cases hu
          obtain ⟨hP, hD⟩ := hJ _ _ rfl
          have hP : va_P (dC, dI) vwCl ([(ta, .inr (7, [.ref tb, .int (nI L2_)])), (tb, .inl (cB, 9000, .inl ft2)), (sa, .inl (cS, 32, .inr (.inr (.inr (.inr g))))), (aB, .inr (0, [.ref sa, .ref bb, .int us])), (bb, .inl (cB, 4000, .inl f))] ++ famN 32 ad le tu vo sr lo fr) H := hP
          have hD : va_D A ([(ta, .inr (7, [.ref tb, .int (nI L2_)])), (tb, .inl (cB, 9000, .inl ft2)), (sa, .inl (cS, 32, .inr (.inr (.inr (.inr g))))), (aB, .inr (0, [.ref sa, .ref bb, .int us])), (bb, .inl (cB, 4000, .inl f))] ++ famN 32 ad le tu vo sr lo fr) := hD
          refine g_topi (y := f (sumTo ln q5 + q109)) hr_129 ?_
          refine g_callvQ (X := [(ta, .inr (7, [.ref tb, .int (nI L2_)])), (tb, .inl (cB, 9000, .inl ft2)), (sa, .inl (cS, 32, .inr (.inr (.inr (.inr g))))), (aB, .inr (0, [.ref sa, .ref bb, .int us])), (bb, .inl (cB, 4000, .inl f))]) (wr := [(sa, .inl (cS, 32, .inr (.inr (.inr (.inr g))))), (aB, .inr (0, [.ref sa, .ref bb, .int us])), (bb, .inl (cB, 4000, .inl f))]) (va_runV (As := [.int (nI (nx_ + q109)), .int (f (sumTo ln q5 + q109))]) (rest := []) ⟨hx, hb, hml, hown, hts⟩ (c_put l dC dI H.size ta tb cB ft2 L2_ (nx_ + q109) (f (sumTo ln q5 + q109)) (L2_ + 1) (by omega) (by have := nI_nle' (elq ▸ c_116) (by omega); omega) (by omega)) (cwV 2 hts (gG_V kw_474 kw_243 kw_244 kw_18 kw_245) rfl rfl rfl (by decide +kernel) ⟨Nat.le_of_ble_eq_true rfl, Nat.le_of_ble_eq_true rfl⟩) (g_preV (ws := [(ta, .inr (7, [.ref tb, .int (nI L2_)])), (tb, .inl (cB, 9000, .inl ft2)), (sa, .inl (cS, 32, .inr (.inr (.inr (.inr g))))), (aB, .inr (0, [.ref sa, .ref bb, .int us])), (bb, .inl (cB, 4000, .inl f))]) (C := RX7) (T := TX7) (N := 2) hP.left hD.left hK hS hA hN hZ (q0 := 0) rfl rfl [0, 1] (by decide +kernel) rfl [0] rfl) rfl rfl hl.1 rfl (lv_room (Nat.le_of_ble_eq_true rfl)) dX9_writeSamples_132 ⟨Nat.le_of_ble_eq_true rfl, Nat.le_of_ble_eq_true rfl⟩) hP hD hK hS hA [0, 1] [2, 3, 4] rfl rfl (by decide +kernel) (by decide +kernel) (fun w ty1 H locs hw_132 hP hD _ hS => ?_)
          have hu := hw_132
          cases hu
          have hP : va_P (dC, dI) vwCl ([(sa, .inl (cS, 32, .inr (.inr (.inr (.inr g))))), (aB, .inr (0, [.ref sa, .ref bb, .int us])), (bb, .inl (cB, 4000, .inl f)), (ta, .inr (7, [.ref tb, .int (nI (L2_ + 1))])), (tb, .inl (cB, 9000, .inl (fput ft2 L2_ (nx_ + q109) (f (sumTo ln q5 + q109)))))] ++ famN 32 ad le tu vo sr lo fr) H := hP
          have hD : va_D A ([(sa, .inl (cS, 32, .inr (.inr (.inr (.inr g))))), (aB, .inr (0, [.ref sa, .ref bb, .int us])), (bb, .inl (cB, 4000, .inl f)), (ta, .inr (7, [.ref tb, .int (nI (L2_ + 1))])), (tb, .inl (cB, 9000, .inl (fput ft2 L2_ (nx_ + q109) (f (sumTo ln q5 + q109)))))] ++ famN 32 ad le tu vo sr lo fr) := hD
          refine lv_iinc (v := nI (q109 + 1)) (lv' := [(7, .int (nI (q109 + 1))), (6, .ref (ad q5)), (4, .int (nI q5)), (3, .int (nI nx_)), (0, .ref ta), (1, .ref aB)]) hx hb dX9_writeSamples_135 hl (k := 0) rfl (nI_1 q109) (by decide) rfl (fun ls hl => ?_)
          refine lv_goto (tgt := 109) hx hb dX9_writeSamples_138 (by decide) ?_
          have hP := va_P.part (X := [(sa, .inl (cS, 32, .inr (.inr (.inr (.inr g))))), (aB, .inr (0, [.ref sa, .ref bb, .int us])), (bb, .inl (cB, 4000, .inl f)), (ta, .inr (7, [.ref tb, .int (nI (L2_ + 1))])), (tb, .inl (cB, 9000, .inl (fput ft2 L2_ (nx_ + q109) (f (sumTo ln q5 + q109)))))]) (cx := [(ta, .inr (7, [.ref tb, .int (nI (L2_ + 1))])), (tb, .inl (cB, 9000, .inl (fput ft2 L2_ (nx_ + q109) (f (sumTo ln q5 + q109))))), (aB, .inr (0, [.ref sa, .ref bb, .int us])), (sa, .inl (cS, 32, .inr (.inr (.inr (.inr g))))), (bb, .inl (cB, 4000, .inl f))]) hP [3, 4, 1, 0, 2] rfl
          have hD := va_D.part (X := [(sa, .inl (cS, 32, .inr (.inr (.inr (.inr g))))), (aB, .inr (0, [.ref sa, .ref bb, .int us])), (bb, .inl (cB, 4000, .inl f)), (ta, .inr (7, [.ref tb, .int (nI (L2_ + 1))])), (tb, .inl (cB, 9000, .inl (fput ft2 L2_ (nx_ + q109) (f (sumTo ln q5 + q109)))))]) (cx := [(ta, .inr (7, [.ref tb, .int (nI (L2_ + 1))])), (tb, .inl (cB, 9000, .inl (fput ft2 L2_ (nx_ + q109) (f (sumTo ln q5 + q109))))), (aB, .inr (0, [.ref sa, .ref bb, .int us])), (sa, .inl (cS, 32, .inr (.inr (.inr (.inr g))))), (bb, .inl (cB, 4000, .inl f))]) hD [3, 4, 1, 0, 2] (by decide +kernel) rfl
          have hP : va_P (dC, dI) vwCl ([(ta, .inr (7, [.ref tb, .int (nI (L2_ + 1))])), (tb, .inl (cB, 9000, .inl (fput ft2 L2_ (nx_ + q109) (f (sumTo ln q5 + q109))))), (aB, .inr (0, [.ref sa, .ref bb, .int us])), (sa, .inl (cS, 32, .inr (.inr (.inr (.inr g))))), (bb, .inl (cB, 4000, .inl f))] ++ famN 32 ad le tu vo sr lo fr) H := hP
          have hD : va_D A ([(ta, .inr (7, [.ref tb, .int (nI (L2_ + 1))])), (tb, .inl (cB, 9000, .inl (fput ft2 L2_ (nx_ + q109) (f (sumTo ln q5 + q109))))), (aB, .inr (0, [.ref sa, .ref bb, .int us])), (sa, .inl (cS, 32, .inr (.inr (.inr (.inr g))))), (bb, .inl (cB, 4000, .inl f))] ++ famN 32 ad le tu vo sr lo fr) := hD
          exact ih109 (q109 + 1) (L2_ + 1) (fput ft2 L2_ (nx_ + q109) (f (sumTo ln q5 + q109))) (by have := nI_nle' (elq ▸ c_116) (by omega); omega) (by omega) (by rw [show nx_ + q109 = L2_ by omega]; exact tp_app ht2 (by omega) ((fit_b hfit _).trans (by rw [eL2_]; exact (hsw q5 hq5a hq3 q109 (by have := nI_nle' (elq ▸ c_116) (by omega); omega)).symm))) (by have := nI_nle' (elq ▸ c_116) (by omega); omega) _ _ hP hD hS _ (lv_sub hl [0, 1, 2, 3, 4, 5] rfl)
      exact LP109 _ 0 L1_ (fput (fput (fput (fput (fput (fput (fput (fput ft1 L1_ (20 + 30 * (q5 - 1) + 22) (dl_ >>> ((8 : Int32) &&& 31))) L1_ ((20 + 30 * (q5 - 1) + 22) + 1) dl_) L1_ (20 + 30 * (q5 - 1) + 24) dt_) L1_ (20 + 30 * (q5 - 1) + 25) (vo q5)) L1_ (20 + 30 * (q5 - 1) + 26) (ds_ >>> ((8 : Int32) &&& 31))) L1_ ((20 + 30 * (q5 - 1) + 26) + 1) ds_) L1_ (20 + 30 * (q5 - 1) + 28) (do_ >>> ((8 : Int32) &&& 31))) L1_ ((20 + 30 * (q5 - 1) + 28) + 1) do_) (Nat.zero_le _) (by omega) (s8) (Nat.lt_succ_self _) _ _ hP hD hS _ (lv_sub hl [0, 1, 3, 4, 5, 6] rfl)
  exact LP5 _ 1 kz ft kz (by decide) (by decide) (by rw [show sumTo ln 1 = ln 0 from Nat.zero_add _, hB.2.1]; rfl) (by rw [show sumTo ln 1 = ln 0 from Nat.zero_add _, hB.2.1]; rfl) (htp) (Nat.lt_succ_self _) _ _ hP hD hS _ (lv_sub hl [0, 1, 2, 3] rfl)

