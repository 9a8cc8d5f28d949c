set_option maxHeartbeats 400000 in
set_option maxRecDepth 100000 in
theorem x_writeCell (l : Launch) (dC : Nat → ClassId) (dI : Nat → Nat → Nat) (sz : Nat) (ta tb : Nat) (cB : ClassId) (f SS : Nat → Int32) (j TT : Nat) (v : Int32) (hj : j + 4 ≤ 9000) (h95 : 950 ≤ j) (htp : tpP SS TT j f) (hc : ∀ oo, oo < 4 → SS (j + oo) = ceB v oo) : Met l yX9_writeCell (wsG (.code yX9_writeCell cX9_writeCell 5 none)) ({ frames := 2, cells := 0, slots := 0, locals := 44 }) (va_Pc [.ref ta, .int (nI j), .int v] (gP (dC, dI) [(cB, .byte)] [(ta, .inr (7, [.ref tb, .int (nI j)])), (tb, .inl (cB, 9000, .inl f))] sz)) (va_Qv (fun u : va_W × gT => ∃ (f2 : Nat → Int32), u = ([(ta, .inr (7, [.ref tb, .int (nI (j + 4))])), (tb, .inl (cB, 9000, .inl f2))], []) ∧ tpP SS TT (j + 4) f2) (gB (dC, dI) (va_A [(ta, .inr (7, [.ref tb, .int (nI j)])), (tb, .inl (cB, 9000, .inl f))] sz)) (va_A [(ta, .inr (7, [.ref tb, .int (nI j)])), (tb, .inl (cB, 9000, .inl f))] sz)) 0 0 (va_A [(ta, .inr (7, [.ref tb, .int (nI j)])), (tb, .inl (cB, 9000, .inl f))] sz) := by
  refine Met.ofW (cc := cX9_writeCell) (maxL := 5) (ret := none) (by decide) rfl ?_
  intro p e s m args below meth c s₁ B hml hv
  obtain ⟨rfl, hsz, hP, hK, hD0, hN, hZ⟩ := hv
  have hx := B.exec
  have hb := B.bytes
  have hr := B.returns
  have hts := atoms_spec (ws := (wsG (.code yX9_writeCell cX9_writeCell 5 none))) B.pre
  have hown : s.vm.findClass RX9 = some m.cls := findClass_of_methodNamed B.named
  have hlocks := B.notSynchronized
  subst hsz
  have hD := hD0.self (sz := s.heap.size)
  generalize hAe : va_A [(ta, .inr (7, [.ref tb, .int (nI j)])), (tb, .inl (cB, 9000, .inl f))] s.heap.size = A at hD hZ ⊢
  have hA : ∀ q : Nat, s.heap.size ≤ q → A q := fun q h => by rw [← hAe]; exact Or.inr h
  have hl := lv_entry ([.ref ta, .int (nI j), .int v]) (n := 5) (Nat.le_of_ble_eq_true rfl)
  rw [lg_entry_eq]
  generalize (lg_sl ([.ref ta, .int (nI j), .int v]) ++ List.replicate (5 - (lg_sl ([.ref ta, .int (nI j), .int v])).length) Slot.unset).toArray = ls at hl ⊢
  have hl : lv_has ls 5 [(0, .ref ta), (1, .int (nI j)), (2, .int v)] := hl
  refine g_start (A := A) hP (fun H locs hP hS => ?_)
  refine lv_iload_n hx hb dX9_writeCell_0 rfl (lv_at hl 2 rfl) ?_
  refine lv_bipush (v := 17) hx hb dX9_writeCell_1 (by decide) ?_
  refine lv_ishr hx hb dX9_writeCell_3 ?_
  refine lv_topi (fun pd_ epd_ => ?_)
  refine lv_istore_n (lv' := [(3, .int pd_), (0, .ref ta), (1, .int (nI j)), (2, .int v)]) hx hb dX9_writeCell_4 rfl hl (by decide) rfl (fun ls hl => ?_)
  refine lv_iload_n hx hb dX9_writeCell_5 rfl (lv_at hl 3 rfl) ?_
  refine lv_bipush (v := 12) hx hb dX9_writeCell_6 (by decide) ?_
  refine lv_ishr hx hb dX9_writeCell_8 ?_
  refine lv_topi (fun sa_ esa_ => ?_)
  refine lv_bipush (v := 31) hx hb dX9_writeCell_9 (by decide) ?_
  refine lv_iand hx hb dX9_writeCell_11 ?_
  refine lv_topi (fun sb_ esb_ => ?_)
  refine lv_istore (lv' := [(4, .int sb_), (3, .int pd_), (0, .ref ta), (1, .int (nI j)), (2, .int v)]) hx hb dX9_writeCell_12 hl (by decide) rfl (fun ls hl => ?_)
  refine lv_aload_n hx hb dX9_writeCell_14 rfl (lv_at hl 2 rfl) ?_
  refine lv_iload_n hx hb dX9_writeCell_15 rfl (lv_at hl 3 rfl) ?_
  refine lv_iload hx hb dX9_writeCell_16 (lv_at hl 0 rfl) ?_
  refine lv_bipush (v := 16) hx hb dX9_writeCell_18 (by decide) ?_
  refine lv_iand hx hb dX9_writeCell_20 ?_
  refine lv_topi (fun sc_ esc_ => ?_)
  refine lv_iload_n hx hb dX9_writeCell_21 rfl (lv_at hl 1 rfl) ?_
  refine lv_bipush (v := 8) hx hb dX9_writeCell_22 (by decide) ?_
  refine lv_ishr hx hb dX9_writeCell_24 ?_
  refine lv_topi (fun sd_ esd_ => ?_)
  refine lv_ior hx hb dX9_writeCell_25 ?_
  refine lv_topi (fun se_ ese_ => ?_)
  refine g_callv (wr := []) (va_runV (As := [.int (nI j), .int se_]) (rest := []) ⟨hx, hb, hml, hown, hts⟩ (c_put l dC dI H.size ta tb cB f j j se_ (j + 1) (by omega) (by omega) (by omega)) (cwV 2 hts (gG_V kw_474 kw_243 kw_244 kw_18 kw_245) rfl rfl rfl (by decide +kernel) ⟨Nat.le_of_ble_eq_true rfl, Nat.le_of_ble_eq_true rfl⟩) (g_preV (C := RX7) (T := TX7) (N := 2) hP hD hK hS hA hN hZ (q0 := 0) rfl rfl [0, 1] (by decide +kernel) rfl [0] rfl) rfl rfl hl.1 rfl (lv_room (Nat.le_of_ble_eq_true rfl)) dX9_writeCell_26 ⟨Nat.le_of_ble_eq_true rfl, Nat.le_of_ble_eq_true rfl⟩) hP hD hK hS hA [0, 1] [] rfl rfl (by decide +kernel) (by decide +kernel) (fun w ty1 H locs hw_26 hP hD _ hS => ?_)
  have hu := hw_26
  cases hu
  have hP : va_P (dC, dI) vwCl [(ta, .inr (7, [.ref tb, .int (nI (j + 1))])), (tb, .inl (cB, 9000, .inl (fput f j j se_)))] H := hP
  have hD : va_D A [(ta, .inr (7, [.ref tb, .int (nI (j + 1))])), (tb, .inl (cB, 9000, .inl (fput f j j se_)))] := hD
  have t1 := tp_app htp h95 (show se_.toInt8.toInt32 = SS j from by rw [ese_, esc_, esd_, esb_, esa_, epd_]; exact (hc 0 (by decide)).symm)
  refine lv_aload_n hx hb dX9_writeCell_29 rfl (lv_at hl 2 rfl) ?_
  refine lv_iload_n hx hb dX9_writeCell_30 rfl (lv_at hl 3 rfl) ?_
  refine lv_iconst (v := 1) hx hb dX9_writeCell_31 (by decide) ?_
  refine lv_iadd hx hb dX9_writeCell_32 ?_
  refine g_topi (y := nI (j + 1)) (nI_1 j) ?_
  refine lv_iload_n hx hb dX9_writeCell_33 rfl (lv_at hl 1 rfl) ?_
  refine lv_sipush (v := 255) hx hb dX9_writeCell_34 (by decide) ?_
  refine lv_iand hx hb dX9_writeCell_37 ?_
  refine lv_topi (fun sf_ esf_ => ?_)
  refine g_callv (wr := []) (va_runV (As := [.int (nI (j + 1)), .int sf_]) (rest := []) ⟨hx, hb, hml, hown, hts⟩ (c_put l dC dI H.size ta tb cB (fput f j j se_) (j + 1) (j + 1) sf_ (j + 2) (by omega) (by omega) (by omega)) (cwV 2 hts (gG_V kw_474 kw_243 kw_244 kw_18 kw_245) rfl rfl rfl (by decide +kernel) ⟨Nat.le_of_ble_eq_true rfl, Nat.le_of_ble_eq_true rfl⟩) (g_preV (C := RX7) (T := TX7) (N := 2) hP hD hK hS hA hN hZ (q0 := 0) rfl rfl [0, 1] (by decide +kernel) rfl [0] rfl) rfl rfl hl.1 rfl (lv_room (Nat.le_of_ble_eq_true rfl)) dX9_writeCell_38 ⟨Nat.le_of_ble_eq_true rfl, Nat.le_of_ble_eq_true rfl⟩) hP hD hK hS hA [0, 1] [] rfl rfl (by decide +kernel) (by decide +kernel) (fun w ty1 H locs hw_38 hP hD _ hS => ?_)
  have hu := hw_38
  cases hu
  have hP : va_P (dC, dI) vwCl [(ta, .inr (7, [.ref tb, .int (nI (j + 2))])), (tb, .inl (cB, 9000, .inl (fput (fput f j j se_) (j + 1) (j + 1) sf_)))] H := hP
  have hD : va_D A [(ta, .inr (7, [.ref tb, .int (nI (j + 2))])), (tb, .inl (cB, 9000, .inl (fput (fput f j j se_) (j + 1) (j + 1) sf_)))] := hD
  have t2 := tp_app t1 (by omega) (show sf_.toInt8.toInt32 = SS (j + 1) from by rw [esf_, epd_, fa_byte_low]; exact (hc 1 (by decide)).symm)
  refine lv_aload_n hx hb dX9_writeCell_41 rfl (lv_at hl 2 rfl) ?_
  refine lv_iload_n hx hb dX9_writeCell_42 rfl (lv_at hl 3 rfl) ?_
  refine lv_iconst (v := 2) hx hb dX9_writeCell_43 (by decide) ?_
  refine lv_iadd hx hb dX9_writeCell_44 ?_
  refine g_topi (y := nI (j + 2)) (nI_add j 2) ?_
  refine lv_iload hx hb dX9_writeCell_45 (lv_at hl 0 rfl) ?_
  refine lv_bipush (v := 15) hx hb dX9_writeCell_47 (by decide) ?_
  refine lv_iand hx hb dX9_writeCell_49 ?_
  refine lv_topi (fun sg_ esg_ => ?_)
  refine lv_iconst (v := 4) hx hb dX9_writeCell_50 (by decide) ?_
  refine lv_ishl hx hb dX9_writeCell_51 ?_
  refine lv_topi (fun sh_ esh_ => ?_)
  refine lv_iload_n hx hb dX9_writeCell_52 rfl (lv_at hl 4 rfl) ?_
  refine lv_bipush (v := 8) hx hb dX9_writeCell_53 (by decide) ?_
  refine lv_ishr hx hb dX9_writeCell_55 ?_
  refine lv_topi (fun si_ esi_ => ?_)
  refine lv_bipush (v := 15) hx hb dX9_writeCell_56 (by decide) ?_
  refine lv_iand hx hb dX9_writeCell_58 ?_
  refine lv_topi (fun sj_ esj_ => ?_)
  refine lv_ior hx hb dX9_writeCell_59 ?_
  refine lv_topi (fun sk_ esk_ => ?_)
  refine g_callv (wr := []) (va_runV (As := [.int (nI (j + 2)), .int sk_]) (rest := []) ⟨hx, hb, hml, hown, hts⟩ (c_put l dC dI H.size ta tb cB (fput (fput f j j se_) (j + 1) (j + 1) sf_) (j + 2) (j + 2) sk_ (j + 3) (by omega) (by omega) (by omega)) (cwV 2 hts (gG_V kw_474 kw_243 kw_244 kw_18 kw_245) rfl rfl rfl (by decide +kernel) ⟨Nat.le_of_ble_eq_true rfl, Nat.le_of_ble_eq_true rfl⟩) (g_preV (C := RX7) (T := TX7) (N := 2) hP hD hK hS hA hN hZ (q0 := 0) rfl rfl [0, 1] (by decide +kernel) rfl [0] rfl) rfl rfl hl.1 rfl (lv_room (Nat.le_of_ble_eq_true rfl)) dX9_writeCell_60 ⟨Nat.le_of_ble_eq_true rfl, Nat.le_of_ble_eq_true rfl⟩) hP hD hK hS hA [0, 1] [] rfl rfl (by decide +kernel) (by decide +kernel) (fun w ty1 H locs hw_60 hP hD _ hS => ?_)
  have hu := hw_60
  cases hu
  have hP : va_P (dC, dI) vwCl [(ta, .inr (7, [.ref tb, .int (nI (j + 3))])), (tb, .inl (cB, 9000, .inl (fput (fput (fput f j j se_) (j + 1) (j + 1) sf_) (j + 2) (j + 2) sk_)))] H := hP
  have hD : va_D A [(ta, .inr (7, [.ref tb, .int (nI (j + 3))])), (tb, .inl (cB, 9000, .inl (fput (fput (fput f j j se_) (j + 1) (j + 1) sf_) (j + 2) (j + 2) sk_)))] := hD
  have t3 := tp_app t2 (by omega) (show sk_.toInt8.toInt32 = SS (j + 2) from by rw [esk_, esh_, esg_, esj_, esi_, esb_, esa_]; exact (hc 2 (by decide)).symm)
  refine lv_aload_n hx hb dX9_writeCell_63 rfl (lv_at hl 2 rfl) ?_
  refine lv_iload_n hx hb dX9_writeCell_64 rfl (lv_at hl 3 rfl) ?_
  refine lv_iconst (v := 3) hx hb dX9_writeCell_65 (by decide) ?_
  refine lv_iadd hx hb dX9_writeCell_66 ?_
  refine g_topi (y := nI (j + 3)) (nI_add j 3) ?_
  refine lv_iload_n hx hb dX9_writeCell_67 rfl (lv_at hl 4 rfl) ?_
  refine lv_sipush (v := 255) hx hb dX9_writeCell_68 (by decide) ?_
  refine lv_iand hx hb dX9_writeCell_71 ?_
  refine lv_topi (fun sl_ esl_ => ?_)
  refine g_callv (wr := []) (va_runV (As := [.int (nI (j + 3)), .int sl_]) (rest := []) ⟨hx, hb, hml, hown, hts⟩ (c_put l dC dI H.size ta tb cB (fput (fput (fput f j j se_) (j + 1) (j + 1) sf_) (j + 2) (j + 2) sk_) (j + 3) (j + 3) sl_ (j + 4) (by omega) (by omega) (by omega)) (cwV 2 hts (gG_V kw_474 kw_243 kw_244 kw_18 kw_245) rfl rfl rfl (by decide +kernel) ⟨Nat.le_of_ble_eq_true rfl, Nat.le_of_ble_eq_true rfl⟩) (g_preV (C := RX7) (T := TX7) (N := 2) hP hD hK hS hA hN hZ (q0 := 0) rfl rfl [0, 1] (by decide +kernel) rfl [0] rfl) rfl rfl hl.1 rfl (lv_room (Nat.le_of_ble_eq_true rfl)) dX9_writeCell_72 ⟨Nat.le_of_ble_eq_true rfl, Nat.le_of_ble_eq_true rfl⟩) hP hD hK hS hA [0, 1] [] rfl rfl (by decide +kernel) (by decide +kernel) (fun w ty1 H locs hw_72 hP hD _ hS => ?_)
  have hu := hw_72
  cases hu
  have hP : va_P (dC, dI) vwCl [(ta, .inr (7, [.ref tb, .int (nI (j + 4))])), (tb, .inl (cB, 9000, .inl (fput (fput (fput (fput f j j se_) (j + 1) (j + 1) sf_) (j + 2) (j + 2) sk_) (j + 3) (j + 3) sl_)))] H := hP
  have hD : va_D A [(ta, .inr (7, [.ref tb, .int (nI (j + 4))])), (tb, .inl (cB, 9000, .inl (fput (fput (fput (fput f j j se_) (j + 1) (j + 1) sf_) (j + 2) (j + 2) sk_) (j + 3) (j + 3) sl_)))] := hD
  have t4 := tp_app t3 (by omega) (show sl_.toInt8.toInt32 = SS (j + 3) from by rw [esl_, fa_byte_low]; exact (hc 3 (by decide)).symm)
  have hP9 := hP
  have hD9 := hD
  have hK9 := hK.sub (tys' := []) [] rfl
  exact W.vret hx hb hr (fun t ht hW => ⟨⟨_, rfl, ⟨(fput (fput (fput (fput f j j se_) (j + 1) (j + 1) sf_) (j + 2) (j + 2) sk_) (j + 3) (j + 3) sl_), rfl, t4⟩, by rw [ht]; exact hP9, va_K.moved hW.alike hK9, hD9⟩, hS.F ht⟩) hS.2.2 dX9_writeCell_75

set_option maxHeartbeats 400000 in
set_option maxRecDepth 100000 in
theorem x_writePattern (l : Launch) (dC : Nat → ClassId) (dI : Nat → Nat → Nat) (sz : Nat) (ta tb aS ce pl : Nat) (cB cI : ClassId) (f fc SS : Nat → Int32) (x2 x3 : Int32) (a L TT : Nat) (ha : a < 8) (hL : L = 1084 + 1024 * a) (hL9 : L + 1024 ≤ 9000) (htp : tpP SS TT L f) (hcc : ∀ cc oo, cc < 256 * (a + 1) → oo < 4 → SS (1084 + 4 * cc + oo) = ceB (fc cc) oo) : Met l yX9_writePattern (wsG (.code yX9_writePattern cX9_writePattern 6 none)) ({ frames := 3, cells := 0, slots := 0, locals := 68 }) (va_Pc [.ref ta, .ref aS, .int (nI a)] (gP (dC, dI) [(cB, .byte), (cI, .int)] [(ta, .inr (7, [.ref tb, .int (nI L)])), (tb, .inl (cB, 9000, .inl f)), (aS, .inr (6, [.ref ce, .ref pl, .int x2, .int x3])), (ce, .inl (cI, 2048, .inl fc))] sz)) (va_Qv (fun u : va_W × gT => ∃ (f2 : Nat → Int32), u = ([(ta, .inr (7, [.ref tb, .int (nI (L + 1024))])), (tb, .inl (cB, 9000, .inl f2)), (aS, .inr (6, [.ref ce, .ref pl, .int x2, .int x3])), (ce, .inl (cI, 2048, .inl fc))], []) ∧ tpP SS TT (L + 1024) f2) (gB (dC, dI) (va_A [(ta, .inr (7, [.ref tb, .int (nI L)])), (tb, .inl (cB, 9000, .inl f)), (aS, .inr (6, [.ref ce, .ref pl, .int x2, .int x3])), (ce, .inl (cI, 2048, .inl fc))] sz)) (va_A [(ta, .inr (7, [.ref tb, .int (nI L)])), (tb, .inl (cB, 9000, .inl f)), (aS, .inr (6, [.ref ce, .ref pl, .int x2, .int x3])), (ce, .inl (cI, 2048, .inl fc))] sz)) 0 0 (va_A [(ta, .inr (7, [.ref tb, .int (nI L)])), (tb, .inl (cB, 9000, .inl f)), (aS, .inr (6, [.ref ce, .ref pl, .int x2, .int x3])), (ce, .inl (cI, 2048, .inl fc))] sz) := by
  refine Met.ofW (cc := cX9_writePattern) (maxL := 6) (ret := none) (by decide) rfl ?_
  intro p e s m args below meth c s₁ B hml hv
  obtain ⟨rfl, hsz, hP, hK, hD0, hN, hZ⟩ := hv
  have hx := B.exec
  have hb := B.bytes
  have hr := B.returns
  have hts := atoms_spec (ws := (wsG (.code yX9_writePattern cX9_writePattern 6 none))) B.pre
  have hown : s.vm.findClass RX9 = some m.cls := findClass_of_methodNamed B.named
  have hlocks := B.notSynchronized
  subst hsz
  have hD := hD0.self (sz := s.heap.size)
  generalize hAe : va_A [(ta, .inr (7, [.ref tb, .int (nI L)])), (tb, .inl (cB, 9000, .inl f)), (aS, .inr (6, [.ref ce, .ref pl, .int x2, .int x3])), (ce, .inl (cI, 2048, .inl fc))] s.heap.size = A at hD hZ ⊢
  have hA : ∀ q : Nat, s.heap.size ≤ q → A q := fun q h => by rw [← hAe]; exact Or.inr h
  have hl := lv_entry ([.ref ta, .ref aS, .int (nI a)]) (n := 6) (Nat.le_of_ble_eq_true rfl)
  rw [lg_entry_eq]
  generalize (lg_sl ([.ref ta, .ref aS, .int (nI a)]) ++ List.replicate (6 - (lg_sl ([.ref ta, .ref aS, .int (nI a)])).length) Slot.unset).toArray = ls at hl ⊢
  have hl : lv_has ls 6 [(0, .ref ta), (1, .ref aS), (2, .int (nI a))] := hl
  refine g_start (A := A) hP (fun H locs hP hS => ?_)
  refine lv_iconst (v := 0) hx hb dX9_writePattern_0 (by decide) ?_
  refine lv_istore_n (lv' := [(3, .int 0), (0, .ref ta), (1, .ref aS), (2, .int (nI a))]) hx hb dX9_writePattern_1 rfl hl (by decide) rfl (fun ls hl => ?_)
  have LP2 : ∀ (fu2 : Nat) (q2 : Nat) (L1_ : Nat) (ft1 : Nat → Int32) (hq2 : q2 ≤ 64) (eL1_ : L1_ = L + 16 * q2) (htp1 : tpP SS TT L1_ ft1) (hm2 : 64 - q2 < fu2) (H : Heap) (locs : List Loc), va_P (dC, dI) vwCl [(ta, .inr (7, [.ref tb, .int (nI L1_)])), (tb, .inl (cB, 9000, .inl ft1)), (aS, .inr (6, [.ref ce, .ref pl, .int x2, .int x3])), (ce, .inl (cI, 2048, .inl fc))] H → va_D A [(ta, .inr (7, [.ref tb, .int (nI L1_)])), (tb, .inl (cB, 9000, .inl ft1)), (aS, .inr (6, [.ref ce, .ref pl, .int x2, .int x3])), (ce, .inl (cI, 2048, .inl fc))] → va_S A s.heap H locs → ∀ ls : Array Slot, lv_has ls 6 [(3, .int (nI q2)), (0, .ref ta), (1, .ref aS), (2, .int (nI a))] → W p l e ({ frames := 3, cells := 0, slots := 0, locals := 68 }) s m ([.ref ta, .ref aS, .int (nI a)] : List Value).toArray below meth c H locs (0) (0) (MQ below (va_Qv (fun u : va_W × gT => ∃ (f2 : Nat → Int32), u = ([(ta, .inr (7, [.ref tb, .int (nI (L + 1024))])), (tb, .inl (cB, 9000, .inl f2)), (aS, .inr (6, [.ref ce, .ref pl, .int x2, .int x3])), (ce, .inl (cI, 2048, .inl fc))], []) ∧ tpP SS TT (L + 1024) f2) (gB (dC, dI) A) A) ([.ref ta, .ref aS, .int (nI a)] : List Value).toArray s 0 0 A) (F0 m 2 ls []) := by
    intro fu2
    induction fu2 with
    | zero => intro q2 L1_ ft1 hq2 eL1_ htp1 hm2; exact absurd hm2 (Nat.not_lt_zero _)
    | succ fu2 ih2 =>
      intro q2 L1_ ft1 hq2 eL1_ htp1 hm2 H locs hP hD hS ls hl
      refine lv_iload_n hx hb dX9_writePattern_2 rfl (lv_at hl 0 rfl) ?_
      refine lv_bipush (v := 64) hx hb dX9_writePattern_3 (by decide) ?_
      refine lv_icmp_ge (tgt := 52) hx hb dX9_writePattern_5 (by decide) (fun c_5 => ?_) (fun c_5 => ?_)
      · have hqe : q2 = 64 := by have := nI_le' (a := 64) c_5 (by decide) (by omega); omega
        rw [show L1_ = L + 1024 by omega] at hP hD
        have hP9 := hP
        have hD9 := hD
        have hK9 := hK.sub (tys' := []) [] rfl
        exact W.vret hx hb hr (fun t ht hW => ⟨⟨_, rfl, ⟨ft1, rfl, (tp_e htp1 rfl (by omega))⟩, by rw [ht]; exact hP9, va_K.moved hW.alike hK9, hD9⟩, hS.F ht⟩) hS.2.2 dX9_writePattern_52
      have hr3 : q2 < 64 := by have := nI_nle' (a := 64) c_5 (by omega); omega
      refine lv_iconst (v := 0) hx hb dX9_writePattern_8 (by decide) ?_
      refine lv_istore (lv' := [(4, .int 0), (3, .int (nI q2)), (0, .ref ta), (1, .ref aS), (2, .int (nI a))]) hx hb dX9_writePattern_9 hl (by decide) rfl (fun ls hl => ?_)
      refine lv_iload hx hb dX9_writePattern_11 (lv_at hl 0 rfl) ?_
      refine lv_iconst (v := 4) hx hb dX9_writePattern_13 (by decide) ?_
      refine lv_icmp_ge (tgt := 46) hx hb dX9_writePattern_14 (by decide) (fun c_14 => absurd c_14 (by decide)) (fun c_14 => ?_)
      refine lv_iload_n hx hb dX9_writePattern_17 rfl (lv_at hl 4 rfl) ?_
      refine lv_iload_n hx hb dX9_writePattern_18 rfl (lv_at hl 1 rfl) ?_
      refine lv_iload hx hb dX9_writePattern_19 (lv_at hl 0 rfl) ?_
      refine g_calli (wr := [(ta, .inr (7, [.ref tb, .int (nI L1_)])), (tb, .inl (cB, 9000, .inl ft1)), (aS, .inr (6, [.ref ce, .ref pl, .int x2, .int x3])), (ce, .inl (cI, 2048, .inl fc))]) (va_runS (As := [.int (nI a), .int (nI q2), .int 0]) (rest := []) ⟨hx, hb, hml, hown, hts⟩ (x_cellAt l dC dI H.size a q2 0 ) (va_cwS 3 hts (gG_S kw_480 kw_355 kw_30 kw_356) rfl rfl rfl (by decide +kernel) ⟨Nat.le_of_ble_eq_true rfl, Nat.le_of_ble_eq_true rfl⟩) (g_preS hP hD hK hS hA hN hZ [] (by decide) rfl [] rfl) rfl rfl hl.1 rfl (lv_room (Nat.le_of_ble_eq_true rfl)) dX9_writePattern_21 ⟨Nat.le_of_ble_eq_true rfl, Nat.le_of_ble_eq_true rfl⟩) hP hD hK hS hA [] [0, 1, 2, 3] rfl rfl (by decide +kernel) (by decide +kernel) (fun r_21 w ty1 H locs hw_21 hP hD _ hS => ?_)
      rcases hw_21 with ⟨hu, hr_21⟩
      cases hu
      have hP : va_P (dC, dI) vwCl [(ta, .inr (7, [.ref tb, .int (nI L1_)])), (tb, .inl (cB, 9000, .inl ft1)), (aS, .inr (6, [.ref ce, .ref pl, .int x2, .int x3])), (ce, .inl (cI, 2048, .inl fc))] H := hP
      have hD : va_D A [(ta, .inr (7, [.ref tb, .int (nI L1_)])), (tb, .inl (cB, 9000, .inl ft1)), (aS, .inr (6, [.ref ce, .ref pl, .int x2, .int x3])), (ce, .inl (cI, 2048, .inl fc))] := hD
      refine g_topi (y := nI (1084 + 4 * (256 * a + 4 * q2 + 0))) hr_21 ?_
      rw [show L1_ = 1084 + 4 * (256 * a + 4 * q2 + 0) by omega] at hP hD
      refine lv_istore (lv' := [(5, .int (nI (1084 + 4 * (256 * a + 4 * q2 + 0)))), (4, .int 0), (3, .int (nI q2)), (0, .ref ta), (1, .ref aS), (2, .int (nI a))]) hx hb dX9_writePattern_24 hl (by decide) rfl (fun ls hl => ?_)
      refine lv_aload_n hx hb dX9_writePattern_26 rfl (lv_at hl 3 rfl) ?_
      refine lv_iload hx hb dX9_writePattern_27 (lv_at hl 0 rfl) ?_
      refine lv_aload_n hx hb dX9_writePattern_29 rfl (lv_at hl 4 rfl) ?_
      refine lv_iload_n hx hb dX9_writePattern_30 rfl (lv_at hl 5 rfl) ?_
      refine lv_iload_n hx hb dX9_writePattern_31 rfl (lv_at hl 2 rfl) ?_
      refine lv_iload hx hb dX9_writePattern_32 (lv_at hl 1 rfl) ?_
      refine g_calli (wr := [(ta, .inr (7, [.ref tb, .int (nI (1084 + 4 * (256 * a + 4 * q2 + 0)))])), (tb, .inl (cB, 9000, .inl ft1))]) (va_runV (As := [.int (nI a), .int (nI q2), .int 0]) (rest := [.int (nI (1084 + 4 * (256 * a + 4 * q2 + 0))), .ref ta]) ⟨hx, hb, hml, hown, hts⟩ (c_getCell l dC dI H.size aS ce pl x2 x3 cI fc a q2 0 (ha) (hr3) (by decide)) (cwV 3 hts (gG_V kw_481 kw_482 kw_483 kw_26 kw_484) rfl rfl rfl (by decide +kernel) ⟨Nat.le_of_ble_eq_true rfl, Nat.le_of_ble_eq_true rfl⟩) (g_preV (C := RX6) (T := TX6) (N := 4) hP hD hK hS hA hN hZ (q0 := 2) rfl rfl [2, 3] (by decide +kernel) rfl [1] rfl) rfl rfl hl.1 rfl (lv_room (Nat.le_of_ble_eq_true rfl)) dX9_writePattern_34 ⟨Nat.le_of_ble_eq_true rfl, Nat.le_of_ble_eq_true rfl⟩) hP hD hK hS hA [2, 3] [0, 1] rfl rfl (by decide +kernel) (by decide +kernel) (fun r_34 w ty1 H locs hw_34 hP hD _ hS => ?_)
      rcases hw_34 with ⟨hu, hr_34⟩
      cases hu
      have hP : va_P (dC, dI) vwCl [(ta, .inr (7, [.ref tb, .int (nI (1084 + 4 * (256 * a + 4 * q2 + 0)))])), (tb, .inl (cB, 9000, .inl ft1)), (aS, .inr (6, [.ref ce, .ref pl, .int x2, .int x3])), (ce, .inl (cI, 2048, .inl fc))] H := hP
      have hD : va_D A [(ta, .inr (7, [.ref tb, .int (nI (1084 + 4 * (256 * a + 4 * q2 + 0)))])), (tb, .inl (cB, 9000, .inl ft1)), (aS, .inr (6, [.ref ce, .ref pl, .int x2, .int x3])), (ce, .inl (cI, 2048, .inl fc))] := hD
      refine g_topi (y := fc ((a * 64 + q2) * 4 + 0)) hr_34 ?_
      refine g_callv (wr := [(aS, .inr (6, [.ref ce, .ref pl, .int x2, .int x3])), (ce, .inl (cI, 2048, .inl fc))]) (va_runS (As := [.ref ta, .int (nI (1084 + 4 * (256 * a + 4 * q2 + 0))), .int (fc ((a * 64 + q2) * 4 + 0))]) (rest := []) ⟨hx, hb, hml, hown, hts⟩ (x_writeCell l dC dI H.size ta tb cB ft1 SS (1084 + 4 * (256 * a + 4 * q2 + 0)) TT (fc ((a * 64 + q2) * 4 + 0)) (by omega) (by omega) (tp_e htp1 rfl (by omega)) (fun oo ho => by rw [show 1084 + 4 * (256 * a + 4 * q2 + 0) + oo = 1084 + 4 * ((a * 64 + q2) * 4 + 0) + oo by omega]; exact hcc ((a * 64 + q2) * 4 + 0) oo (by omega) ho)) (va_cwS 3 hts (gG_S kw_485 kw_486 kw_469 kw_487) rfl rfl rfl (by decide +kernel) ⟨Nat.le_of_ble_eq_true rfl, Nat.le_of_ble_eq_true rfl⟩) (g_preS hP hD hK hS hA hN hZ [0, 1] (by decide +kernel) rfl [0] rfl) rfl rfl hl.1 rfl (lv_room (Nat.le_of_ble_eq_true rfl)) dX9_writePattern_37 ⟨Nat.le_of_ble_eq_true rfl, Nat.le_of_ble_eq_true rfl⟩) hP hD hK hS hA [0, 1] [2, 3] rfl rfl (by decide +kernel) (by decide +kernel) (fun w ty1 H locs hw_37 hP hD _ hS => ?_)
      rcases hw_37 with ⟨f2_37, hu, htp2_37⟩
      cases hu
      have hP : va_P (dC, dI) vwCl [(aS, .inr (6, [.ref ce, .ref pl, .int x2, .int x3])), (ce, .inl (cI, 2048, .inl fc)), (ta, .inr (7, [.ref tb, .int (nI ((1084 + 4 * (256 * a + 4 * q2 + 0)) + 4))])), (tb, .inl (cB, 9000, .inl f2_37))] H := hP
      have hD : va_D A [(aS, .inr (6, [.ref ce, .ref pl, .int x2, .int x3])), (ce, .inl (cI, 2048, .inl fc)), (ta, .inr (7, [.ref tb, .int (nI ((1084 + 4 * (256 * a + 4 * q2 + 0)) + 4))])), (tb, .inl (cB, 9000, .inl f2_37))] := hD
      refine lv_iinc (v := 1) (lv' := [(4, .int 1), (5, .int (nI (1084 + 4 * (256 * a + 4 * q2 + 0)))), (3, .int (nI q2)), (0, .ref ta), (1, .ref aS), (2, .int (nI a))]) hx hb dX9_writePattern_40 hl (k := 1) rfl (by decide) (by decide) rfl (fun ls hl => ?_)
      refine lv_goto (tgt := 11) hx hb dX9_writePattern_43 (by decide) ?_
      refine lv_iload hx hb dX9_writePattern_11 (lv_at hl 0 rfl) ?_
      refine lv_iconst (v := 4) hx hb dX9_writePattern_13 (by decide) ?_
      refine lv_icmp_ge (tgt := 46) hx hb dX9_writePattern_14 (by decide) (fun c_14_2 => absurd c_14_2 (by decide)) (fun c_14_2 => ?_)
      refine lv_iload_n hx hb dX9_writePattern_17 rfl (lv_at hl 5 rfl) ?_
      refine lv_iload_n hx hb dX9_writePattern_18 rfl (lv_at hl 2 rfl) ?_
      refine lv_iload hx hb dX9_writePattern_19 (lv_at hl 0 rfl) ?_
      refine g_calli (wr := [(aS, .inr (6, [.ref ce, .ref pl, .int x2, .int x3])), (ce, .inl (cI, 2048, .inl fc)), (ta, .inr (7, [.ref tb, .int (nI ((1084 + 4 * (256 * a + 4 * q2 + 0)) + 4))])), (tb, .inl (cB, 9000, .inl f2_37))]) (va_runS (As := [.int (nI a), .int (nI q2), .int 1]) (rest := []) ⟨hx, hb, hml, hown, hts⟩ (x_cellAt l dC dI H.size a q2 1 ) (va_cwS 3 hts (gG_S kw_480 kw_355 kw_30 kw_356) rfl rfl rfl (by decide +kernel) ⟨Nat.le_of_ble_eq_true rfl, Nat.le_of_ble_eq_true rfl⟩) (g_preS hP hD hK hS hA hN hZ [] (by decide) rfl [] rfl) rfl rfl hl.1 rfl (lv_room (Nat.le_of_ble_eq_true rfl)) dX9_writePattern_21 ⟨Nat.le_of_ble_eq_true rfl, Nat.le_of_ble_eq_true rfl⟩) hP hD hK hS hA [] [0, 1, 2, 3] rfl rfl (by decide +kernel) (by decide +kernel) (fun r_21_2 w ty1 H locs hw_21 hP hD _ hS => ?_)
      rcases hw_21 with ⟨hu, hr_21⟩
      cases hu
      have hP : va_P (dC, dI) vwCl [(aS, .inr (6, [.ref ce, .ref pl, .int x2, .int x3])), (ce, .inl (cI, 2048, .inl fc)), (ta, .inr (7, [.ref tb, .int (nI ((1084 + 4 * (256 * a + 4 * q2 + 0)) + 4))])), (tb, .inl (cB, 9000, .inl f2_37))] H := hP
      have hD : va_D A [(aS, .inr (6, [.ref ce, .ref pl, .int x2, .int x3])), (ce, .inl (cI, 2048, .inl fc)), (ta, .inr (7, [.ref tb, .int (nI ((1084 + 4 * (256 * a + 4 * q2 + 0)) + 4))])), (tb, .inl (cB, 9000, .inl f2_37))] := hD
      refine g_topi (y := nI (1084 + 4 * (256 * a + 4 * q2 + 1))) hr_21 ?_
      rw [show (1084 + 4 * (256 * a + 4 * q2 + 0)) + 4 = 1084 + 4 * (256 * a + 4 * q2 + 1) by omega] at hP hD
      refine lv_istore (lv' := [(5, .int (nI (1084 + 4 * (256 * a + 4 * q2 + 1)))), (4, .int 1), (3, .int (nI q2)), (0, .ref ta), (1, .ref aS), (2, .int (nI a))]) hx hb dX9_writePattern_24 hl (by decide) rfl (fun ls hl => ?_)
      refine lv_aload_n hx hb dX9_writePattern_26 rfl (lv_at hl 3 rfl) ?_
      refine lv_iload hx hb dX9_writePattern_27 (lv_at hl 0 rfl) ?_
      refine lv_aload_n hx hb dX9_writePattern_29 rfl (lv_at hl 4 rfl) ?_
      refine lv_iload_n hx hb dX9_writePattern_30 rfl (lv_at hl 5 rfl) ?_
      refine lv_iload_n hx hb dX9_writePattern_31 rfl (lv_at hl 2 rfl) ?_
      refine lv_iload hx hb dX9_writePattern_32 (lv_at hl 1 rfl) ?_
      refine g_calli (wr := [(ta, .inr (7, [.ref tb, .int (nI (1084 + 4 * (256 * a + 4 * q2 + 1)))])), (tb, .inl (cB, 9000, .inl f2_37))]) (va_runV (As := [.int (nI a), .int (nI q2), .int 1]) (rest := [.int (nI (1084 + 4 * (256 * a + 4 * q2 + 1))), .ref ta]) ⟨hx, hb, hml, hown, hts⟩ (c_getCell l dC dI H.size aS ce pl x2 x3 cI fc a q2 1 (ha) (hr3) (by decide)) (cwV 3 hts (gG_V kw_481 kw_482 kw_483 kw_26 kw_484) rfl rfl rfl (by decide +kernel) ⟨Nat.le_of_ble_eq_true rfl, Nat.le_of_ble_eq_true rfl⟩) (g_preV (C := RX6) (T := TX6) (N := 4) hP hD hK hS hA hN hZ (q0 := 0) rfl rfl [0, 1] (by decide +kernel) rfl [1] rfl) rfl rfl hl.1 rfl (lv_room (Nat.le_of_ble_eq_true rfl)) dX9_writePattern_34 ⟨Nat.le_of_ble_eq_true rfl, Nat.le_of_ble_eq_true rfl⟩) hP hD hK hS hA [0, 1] [2, 3] rfl rfl (by decide +kernel) (by decide +kernel) (fun r_34_2 w ty1 H locs hw_34 hP hD _ hS => ?_)
      rcases hw_34 with ⟨hu, hr_34⟩
      cases hu
      have hP : va_P (dC, dI) vwCl [(ta, .inr (7, [.ref tb, .int (nI (1084 + 4 * (256 * a + 4 * q2 + 1)))])), (tb, .inl (cB, 9000, .inl f2_37)), (aS, .inr (6, [.ref ce, .ref pl, .int x2, .int x3])), (ce, .inl (cI, 2048, .inl fc))] H := hP
      have hD : va_D A [(ta, .inr (7, [.ref tb, .int (nI (1084 + 4 * (256 * a + 4 * q2 + 1)))])), (tb, .inl (cB, 9000, .inl f2_37)), (aS, .inr (6, [.ref ce, .ref pl, .int x2, .int x3])), (ce, .inl (cI, 2048, .inl fc))] := hD
      refine g_topi (y := fc ((a * 64 + q2) * 4 + 1)) hr_34 ?_
      refine g_callv (wr := [(aS, .inr (6, [.ref ce, .ref pl, .int x2, .int x3])), (ce, .inl (cI, 2048, .inl fc))]) (va_runS (As := [.ref ta, .int (nI (1084 + 4 * (256 * a + 4 * q2 + 1))), .int (fc ((a * 64 + q2) * 4 + 1))]) (rest := []) ⟨hx, hb, hml, hown, hts⟩ (x_writeCell l dC dI H.size ta tb cB f2_37 SS (1084 + 4 * (256 * a + 4 * q2 + 1)) TT (fc ((a * 64 + q2) * 4 + 1)) (by omega) (by omega) (tp_e htp2_37 rfl (by omega)) (fun oo ho => by rw [show 1084 + 4 * (256 * a + 4 * q2 + 1) + oo = 1084 + 4 * ((a * 64 + q2) * 4 + 1) + oo by omega]; exact hcc ((a * 64 + q2) * 4 + 1) oo (by omega) ho)) (va_cwS 3 hts (gG_S kw_485 kw_486 kw_469 kw_487) rfl rfl rfl (by decide +kernel) ⟨Nat.le_of_ble_eq_true rfl, Nat.le_of_ble_eq_true rfl⟩) (g_preS hP hD hK hS hA hN hZ [0, 1] (by decide +kernel) rfl [0] rfl) rfl rfl hl.1 rfl (lv_room (Nat.le_of_ble_eq_true rfl)) dX9_writePattern_37 ⟨Nat.le_of_ble_eq_true rfl, Nat.le_of_ble_eq_true rfl⟩) hP hD hK hS hA [0, 1] [2, 3] rfl rfl (by decide +kernel) (by decide +kernel) (fun w ty1 H locs hw_37 hP hD _ hS => ?_)
      rcases hw_37 with ⟨f2_37_2, hu, htp2_37_2⟩
      cases hu
      have hP : va_P (dC, dI) vwCl [(aS, .inr (6, [.ref ce, .ref pl, .int x2, .int x3])), (ce, .inl (cI, 2048, .inl fc)), (ta, .inr (7, [.ref tb, .int (nI ((1084 + 4 * (256 * a + 4 * q2 + 1)) + 4))])), (tb, .inl (cB, 9000, .inl f2_37_2))] H := hP
      have hD : va_D A [(aS, .inr (6, [.ref ce, .ref pl, .int x2, .int x3])), (ce, .inl (cI, 2048, .inl fc)), (ta, .inr (7, [.ref tb, .int (nI ((1084 + 4 * (256 * a + 4 * q2 + 1)) + 4))])), (tb, .inl (cB, 9000, .inl f2_37_2))] := hD
      refine lv_iinc (v := 2) (lv' := [(4, .int 2), (5, .int (nI (1084 + 4 * (256 * a + 4 * q2 + 1)))), (3, .int (nI q2)), (0, .ref ta), (1, .ref aS), (2, .int (nI a))]) hx hb dX9_writePattern_40 hl (k := 1) rfl (by decide) (by decide) rfl (fun ls hl => ?_)
      refine lv_goto (tgt := 11) hx hb dX9_writePattern_43 (by decide) ?_
      refine lv_iload hx hb dX9_writePattern_11 (lv_at hl 0 rfl) ?_
      refine lv_iconst (v := 4) hx hb dX9_writePattern_13 (by decide) ?_
      refine lv_icmp_ge (tgt := 46) hx hb dX9_writePattern_14 (by decide) (fun c_14_3 => absurd c_14_3 (by decide)) (fun c_14_3 => ?_)
      refine lv_iload_n hx hb dX9_writePattern_17 rfl (lv_at hl 5 rfl) ?_
      refine lv_iload_n hx hb dX9_writePattern_18 rfl (lv_at hl 2 rfl) ?_
      refine lv_iload hx hb dX9_writePattern_19 (lv_at hl 0 rfl) ?_
      refine g_calli (wr := [(aS, .inr (6, [.ref ce, .ref pl, .int x2, .int x3])), (ce, .inl (cI, 2048, .inl fc)), (ta, .inr (7, [.ref tb, .int (nI ((1084 + 4 * (256 * a + 4 * q2 + 1)) + 4))])), (tb, .inl (cB, 9000, .inl f2_37_2))]) (va_runS (As := [.int (nI a), .int (nI q2), .int 2]) (rest := []) ⟨hx, hb, hml, hown, hts⟩ (x_cellAt l dC dI H.size a q2 2 ) (va_cwS 3 hts (gG_S kw_480 kw_355 kw_30 kw_356) rfl rfl rfl (by decide +kernel) ⟨Nat.le_of_ble_eq_true rfl, Nat.le_of_ble_eq_true rfl⟩) (g_preS hP hD hK hS hA hN hZ [] (by decide) rfl [] rfl) rfl rfl hl.1 rfl (lv_room (Nat.le_of_ble_eq_true rfl)) dX9_writePattern_21 ⟨Nat.le_of_ble_eq_true rfl, Nat.le_of_ble_eq_true rfl⟩) hP hD hK hS hA [] [0, 1, 2, 3] rfl rfl (by decide +kernel) (by decide +kernel) (fun r_21_3 w ty1 H locs hw_21 hP hD _ hS => ?_)
      rcases hw_21 with ⟨hu, hr_21⟩
      cases hu
      have hP : va_P (dC, dI) vwCl [(aS, .inr (6, [.ref ce, .ref pl, .int x2, .int x3])), (ce, .inl (cI, 2048, .inl fc)), (ta, .inr (7, [.ref tb, .int (nI ((1084 + 4 * (256 * a + 4 * q2 + 1)) + 4))])), (tb, .inl (cB, 9000, .inl f2_37_2))] H := hP
      have hD : va_D A [(aS, .inr (6, [.ref ce, .ref pl, .int x2, .int x3])), (ce, .inl (cI, 2048, .inl fc)), (ta, .inr (7, [.ref tb, .int (nI ((1084 + 4 * (256 * a + 4 * q2 + 1)) + 4))])), (tb, .inl (cB, 9000, .inl f2_37_2))] := hD
      refine g_topi (y := nI (1084 + 4 * (256 * a + 4 * q2 + 2))) hr_21 ?_
      rw [show (1084 + 4 * (256 * a + 4 * q2 + 1)) + 4 = 1084 + 4 * (256 * a + 4 * q2 + 2) by omega] at hP hD
      refine lv_istore (lv' := [(5, .int (nI (1084 + 4 * (256 * a + 4 * q2 + 2)))), (4, .int 2), (3, .int (nI q2)), (0, .ref ta), (1, .ref aS), (2, .int (nI a))]) hx hb dX9_writePattern_24 hl (by decide) rfl (fun ls hl => ?_)
      refine lv_aload_n hx hb dX9_writePattern_26 rfl (lv_at hl 3 rfl) ?_
      refine lv_iload hx hb dX9_writePattern_27 (lv_at hl 0 rfl) ?_
      refine lv_aload_n hx hb dX9_writePattern_29 rfl (lv_at hl 4 rfl) ?_
      refine lv_iload_n hx hb dX9_writePattern_30 rfl (lv_at hl 5 rfl) ?_
      refine lv_iload_n hx hb dX9_writePattern_31 rfl (lv_at hl 2 rfl) ?_
      refine lv_iload hx hb dX9_writePattern_32 (lv_at hl 1 rfl) ?_
      refine g_calli (wr := [(ta, .inr (7, [.ref tb, .int (nI (1084 + 4 * (256 * a + 4 * q2 + 2)))])), (tb, .inl (cB, 9000, .inl f2_37_2))]) (va_runV (As := [.int (nI a), .int (nI q2), .int 2]) (rest := [.int (nI (1084 + 4 * (256 * a + 4 * q2 + 2))), .ref ta]) ⟨hx, hb, hml, hown, hts⟩ (c_getCell l dC dI H.size aS ce pl x2 x3 cI fc a q2 2 (ha) (hr3) (by decide)) (cwV 3 hts (gG_V kw_481 kw_482 kw_483 kw_26 kw_484) rfl rfl rfl (by decide +kernel) ⟨Nat.le_of_ble_eq_true rfl, Nat.le_of_ble_eq_true rfl⟩) (g_preV (C := RX6) (T := TX6) (N := 4) hP hD hK hS hA hN hZ (q0 := 0) rfl rfl [0, 1] (by decide +kernel) rfl [1] rfl) rfl rfl hl.1 rfl (lv_room (Nat.le_of_ble_eq_true rfl)) dX9_writePattern_34 ⟨Nat.le_of_ble_eq_true rfl, Nat.le_of_ble_eq_true rfl⟩) hP hD hK hS hA [0, 1] [2, 3] rfl rfl (by decide +kernel) (by decide +kernel) (fun r_34_3 w ty1 H locs hw_34 hP hD _ hS => ?_)
      rcases hw_34 with ⟨hu, hr_34⟩
      cases hu
      have hP : va_P (dC, dI) vwCl [(ta, .inr (7, [.ref tb, .int (nI (1084 + 4 * (256 * a + 4 * q2 + 2)))])), (tb, .inl (cB, 9000, .inl f2_37_2)), (aS, .inr (6, [.ref ce, .ref pl, .int x2, .int x3])), (ce, .inl (cI, 2048, .inl fc))] H := hP
      have hD : va_D A [(ta, .inr (7, [.ref tb, .int (nI (1084 + 4 * (256 * a + 4 * q2 + 2)))])), (tb, .inl (cB, 9000, .inl f2_37_2)), (aS, .inr (6, [.ref ce, .ref pl, .int x2, .int x3])), (ce, .inl (cI, 2048, .inl fc))] := hD
      refine g_topi (y := fc ((a * 64 + q2) * 4 + 2)) hr_34 ?_
      refine g_callv (wr := [(aS, .inr (6, [.ref ce, .ref pl, .int x2, .int x3])), (ce, .inl (cI, 2048, .inl fc))]) (va_runS (As := [.ref ta, .int (nI (1084 + 4 * (256 * a + 4 * q2 + 2))), .int (fc ((a * 64 + q2) * 4 + 2))]) (rest := []) ⟨hx, hb, hml, hown, hts⟩ (x_writeCell l dC dI H.size ta tb cB f2_37_2 SS (1084 + 4 * (256 * a + 4 * q2 + 2)) TT (fc ((a * 64 + q2) * 4 + 2)) (by omega) (by omega) (tp_e htp2_37_2 rfl (by omega)) (fun oo ho => by rw [show 1084 + 4 * (256 * a + 4 * q2 + 2) + oo = 1084 + 4 * ((a * 64 + q2) * 4 + 2) + oo by omega]; exact hcc ((a * 64 + q2) * 4 + 2) oo (by omega) ho)) (va_cwS 3 hts (gG_S kw_485 kw_486 kw_469 kw_487) rfl rfl rfl (by decide +kernel) ⟨Nat.le_of_ble_eq_true rfl, Nat.le_of_ble_eq_true rfl⟩) (g_preS hP hD hK hS hA hN hZ [0, 1] (by decide +kernel) rfl [0] rfl) rfl rfl hl.1 rfl (lv_room (Nat.le_of_ble_eq_true rfl)) dX9_writePattern_37 ⟨Nat.le_of_ble_eq_true rfl, Nat.le_of_ble_eq_true rfl⟩) hP hD hK hS hA [0, 1] [2, 3] rfl rfl (by decide +kernel) (by decide +kernel) (fun w ty1 H locs hw_37 hP hD _ hS => ?_)
      rcases hw_37 with ⟨f2_37_3, hu, htp2_37_3⟩
      cases hu
      have hP : va_P (dC, dI) vwCl [(aS, .inr (6, [.ref ce, .ref pl, .int x2, .int x3])), (ce, .inl (cI, 2048, .inl fc)), (ta, .inr (7, [.ref tb, .int (nI ((1084 + 4 * (256 * a + 4 * q2 + 2)) + 4))])), (tb, .inl (cB, 9000, .inl f2_37_3))] H := hP
      have hD : va_D A [(aS, .inr (6, [.ref ce, .ref pl, .int x2, .int x3])), (ce, .inl (cI, 2048, .inl fc)), (ta, .inr (7, [.ref tb, .int (nI ((1084 + 4 * (256 * a + 4 * q2 + 2)) + 4))])), (tb, .inl (cB, 9000, .inl f2_37_3))] := hD
      refine lv_iinc (v := 3) (lv' := [(4, .int 3), (5, .int (nI (1084 + 4 * (256 * a + 4 * q2 + 2)))), (3, .int (nI q2)), (0, .ref ta), (1, .ref aS), (2, .int (nI a))]) hx hb dX9_writePattern_40 hl (k := 1) rfl (by decide) (by decide) rfl (fun ls hl => ?_)
      refine lv_goto (tgt := 11) hx hb dX9_writePattern_43 (by decide) ?_
      refine lv_iload hx hb dX9_writePattern_11 (lv_at hl 0 rfl) ?_
      refine lv_iconst (v := 4) hx hb dX9_writePattern_13 (by decide) ?_
      refine lv_icmp_ge (tgt := 46) hx hb dX9_writePattern_14 (by decide) (fun c_14_4 => absurd c_14_4 (by decide)) (fun c_14_4 => ?_)
      refine lv_iload_n hx hb dX9_writePattern_17 rfl (lv_at hl 5 rfl) ?_
      refine lv_iload_n hx hb dX9_writePattern_18 rfl (lv_at hl 2 rfl) ?_
      refine lv_iload hx hb dX9_writePattern_19 (lv_at hl 0 rfl) ?_
      refine g_calli (wr := [(aS, .inr (6, [.ref ce, .ref pl, .int x2, .int x3])), (ce, .inl (cI, 2048, .inl fc)), (ta, .inr (7, [.ref tb, .int (nI ((1084 + 4 * (256 * a + 4 * q2 + 2)) + 4))])), (tb, .inl (cB, 9000, .inl f2_37_3))]) (va_runS (As := [.int (nI a), .int (nI q2), .int 3]) (rest := []) ⟨hx, hb, hml, hown, hts⟩ (x_cellAt l dC dI H.size a q2 3 ) (va_cwS 3 hts (gG_S kw_480 kw_355 kw_30 kw_356) rfl rfl rfl (by decide +kernel) ⟨Nat.le_of_ble_eq_true rfl, Nat.le_of_ble_eq_true rfl⟩) (g_preS hP hD hK hS hA hN hZ [] (by decide) rfl [] rfl) rfl rfl hl.1 rfl (lv_room (Nat.le_of_ble_eq_true rfl)) dX9_writePattern_21 ⟨Nat.le_of_ble_eq_true rfl, Nat.le_of_ble_eq_true rfl⟩) hP hD hK hS hA [] [0, 1, 2, 3] rfl rfl (by decide +kernel) (by decide +kernel) (fun r_21_4 w ty1 H locs hw_21 hP hD _ hS => ?_)
      rcases hw_21 with ⟨hu, hr_21⟩
      cases hu
      have hP : va_P (dC, dI) vwCl [(aS, .inr (6, [.ref ce, .ref pl, .int x2, .int x3])), (ce, .inl (cI, 2048, .inl fc)), (ta, .inr (7, [.ref tb, .int (nI ((1084 + 4 * (256 * a + 4 * q2 + 2)) + 4))])), (tb, .inl (cB, 9000, .inl f2_37_3))] H := hP
      have hD : va_D A [(aS, .inr (6, [.ref ce, .ref pl, .int x2, .int x3])), (ce, .inl (cI, 2048, .inl fc)), (ta, .inr (7, [.ref tb, .int (nI ((1084 + 4 * (256 * a + 4 * q2 + 2)) + 4))])), (tb, .inl (cB, 9000, .inl f2_37_3))] := hD
      refine g_topi (y := nI (1084 + 4 * (256 * a + 4 * q2 + 3))) hr_21 ?_
      rw [show (1084 + 4 * (256 * a + 4 * q2 + 2)) + 4 = 1084 + 4 * (256 * a + 4 * q2 + 3) by omega] at hP hD
      refine lv_istore (lv' := [(5, .int (nI (1084 + 4 * (256 * a + 4 * q2 + 3)))), (4, .int 3), (3, .int (nI q2)), (0, .ref ta), (1, .ref aS), (2, .int (nI a))]) hx hb dX9_writePattern_24 hl (by decide) rfl (fun ls hl => ?_)
      refine lv_aload_n hx hb dX9_writePattern_26 rfl (lv_at hl 3 rfl) ?_
      refine lv_iload hx hb dX9_writePattern_27 (lv_at hl 0 rfl) ?_
      refine lv_aload_n hx hb dX9_writePattern_29 rfl (lv_at hl 4 rfl) ?_
      refine lv_iload_n hx hb dX9_writePattern_30 rfl (lv_at hl 5 rfl) ?_
      refine lv_iload_n hx hb dX9_writePattern_31 rfl (lv_at hl 2 rfl) ?_
      refine lv_iload hx hb dX9_writePattern_32 (lv_at hl 1 rfl) ?_
      refine g_calli (wr := [(ta, .inr (7, [.ref tb, .int (nI (1084 + 4 * (256 * a + 4 * q2 + 3)))])), (tb, .inl (cB, 9000, .inl f2_37_3))]) (va_runV (As := [.int (nI a), .int (nI q2), .int 3]) (rest := [.int (nI (1084 + 4 * (256 * a + 4 * q2 + 3))), .ref ta]) ⟨hx, hb, hml, hown, hts⟩ (c_getCell l dC dI H.size aS ce pl x2 x3 cI fc a q2 3 (ha) (hr3) (by decide)) (cwV 3 hts (gG_V kw_481 kw_482 kw_483 kw_26 kw_484) rfl rfl rfl (by decide +kernel) ⟨Nat.le_of_ble_eq_true rfl, Nat.le_of_ble_eq_true rfl⟩) (g_preV (C := RX6) (T := TX6) (N := 4) hP hD hK hS hA hN hZ (q0 := 0) rfl rfl [0, 1] (by decide +kernel) rfl [1] rfl) rfl rfl hl.1 rfl (lv_room (Nat.le_of_ble_eq_true rfl)) dX9_writePattern_34 ⟨Nat.le_of_ble_eq_true rfl, Nat.le_of_ble_eq_true rfl⟩) hP hD hK hS hA [0, 1] [2, 3] rfl rfl (by decide +kernel) (by decide +kernel) (fun r_34_4 w ty1 H locs hw_34 hP hD _ hS => ?_)
      rcases hw_34 with ⟨hu, hr_34⟩
      cases hu
      have hP : va_P (dC, dI) vwCl [(ta, .inr (7, [.ref tb, .int (nI (1084 + 4 * (256 * a + 4 * q2 + 3)))])), (tb, .inl (cB, 9000, .inl f2_37_3)), (aS, .inr (6, [.ref ce, .ref pl, .int x2, .int x3])), (ce, .inl (cI, 2048, .inl fc))] H := hP
      have hD : va_D A [(ta, .inr (7, [.ref tb, .int (nI (1084 + 4 * (256 * a + 4 * q2 + 3)))])), (tb, .inl (cB, 9000, .inl f2_37_3)), (aS, .inr (6, [.ref ce, .ref pl, .int x2, .int x3])), (ce, .inl (cI, 2048, .inl fc))] := hD
      refine g_topi (y := fc ((a * 64 + q2) * 4 + 3)) hr_34 ?_
      refine g_callv (wr := [(aS, .inr (6, [.ref ce, .ref pl, .int x2, .int x3])), (ce, .inl (cI, 2048, .inl fc))]) (va_runS (As := [.ref ta, .int (nI (1084 + 4 * (256 * a + 4 * q2 + 3))), .int (fc ((a * 64 + q2) * 4 + 3))]) (rest := []) ⟨hx, hb, hml, hown, hts⟩ (x_writeCell l dC dI H.size ta tb cB f2_37_3 SS (1084 + 4 * (256 * a + 4 * q2 + 3)) TT (fc ((a * 64 + q2) * 4 + 3)) (by omega) (by omega) (tp_e htp2_37_3 rfl (by omega)) (fun oo ho => by rw [show 1084 + 4 * (256 * a + 4 * q2 + 3) + oo = 1084 + 4 * ((a * 64 + q2) * 4 + 3) + oo by omega]; exact hcc ((a * 64 + q2) * 4 + 3) oo (by omega) ho)) (va_cwS 3 hts (gG_S kw_485 kw_486 kw_469 kw_487) rfl rfl rfl (by decide +kernel) ⟨Nat.le_of_ble_eq_true rfl, Nat.le_of_ble_eq_true rfl⟩) (g_preS hP hD hK hS hA hN hZ [0, 1] (by decide +kernel) rfl [0] rfl) rfl rfl hl.1 rfl (lv_room (Nat.le_of_ble_eq_true rfl)) dX9_writePattern_37 ⟨Nat.le_of_ble_eq_true rfl, Nat.le_of_ble_eq_true rfl⟩) hP hD hK hS hA [0, 1] [2, 3] rfl rfl (by decide +kernel) (by decide +kernel) (fun w ty1 H locs hw_37 hP hD _ hS => ?_)
      rcases hw_37 with ⟨f2_37_4, hu, htp2_37_4⟩
      cases hu
      have hP : va_P (dC, dI) vwCl [(aS, .inr (6, [.ref ce, .ref pl, .int x2, .int x3])), (ce, .inl (cI, 2048, .inl fc)), (ta, .inr (7, [.ref tb, .int (nI ((1084 + 4 * (256 * a + 4 * q2 + 3)) + 4))])), (tb, .inl (cB, 9000, .inl f2_37_4))] H := hP
      have hD : va_D A [(aS, .inr (6, [.ref ce, .ref pl, .int x2, .int x3])), (ce, .inl (cI, 2048, .inl fc)), (ta, .inr (7, [.ref tb, .int (nI ((1084 + 4 * (256 * a + 4 * q2 + 3)) + 4))])), (tb, .inl (cB, 9000, .inl f2_37_4))] := hD
      refine lv_iinc (v := 4) (lv' := [(4, .int 4), (5, .int (nI (1084 + 4 * (256 * a + 4 * q2 + 3)))), (3, .int (nI q2)), (0, .ref ta), (1, .ref aS), (2, .int (nI a))]) hx hb dX9_writePattern_40 hl (k := 1) rfl (by decide) (by decide) rfl (fun ls hl => ?_)
      refine lv_goto (tgt := 11) hx hb dX9_writePattern_43 (by decide) ?_
      refine lv_iload hx hb dX9_writePattern_11 (lv_at hl 0 rfl) ?_
      refine lv_iconst (v := 4) hx hb dX9_writePattern_13 (by decide) ?_
      refine lv_icmp_ge (tgt := 46) hx hb dX9_writePattern_14 (by decide) (fun c_14_5 => ?_) (fun c_14_5 => absurd c_14_5 (by decide))
      refine lv_iinc (v := nI (q2 + 1)) (lv' := [(3, .int (nI (q2 + 1))), (4, .int 4), (5, .int (nI (1084 + 4 * (256 * a + 4 * q2 + 3)))), (0, .ref ta), (1, .ref aS), (2, .int (nI a))]) hx hb dX9_writePattern_46 hl (k := 2) rfl (nI_1 q2) (by decide) rfl (fun ls hl => ?_)
      refine lv_goto (tgt := 2) hx hb dX9_writePattern_49 (by decide) ?_
      exact ih2 (q2 + 1) ((1084 + 4 * (256 * a + 4 * q2 + 3)) + 4) f2_37_4 (hr3) (by omega) (htp2_37_4) (by omega) _ _ (hP.sub [2, 3, 0, 1] rfl) (hD.sub [2, 3, 0, 1] (by decide +kernel) rfl) hS _ (lv_sub hl [0, 3, 4, 5] rfl)
  exact LP2 _ 0 L f (Nat.zero_le _) (by omega) (htp) (Nat.lt_succ_self _) _ _ hP hD hS _ (lv_sub hl [0, 1, 2, 3] rfl)

set_option maxHeartbeats 400000 in
set_option maxRecDepth 100000 in
theorem x_writeSong (l : Launch) (dC : Nat → ClassId) (dI : Nat → Nat → Nat) (sz : Nat) (ta tb aS ce pl : Nat) (cB cI : ClassId) (f fc fp SS : Nat → Int32) (rs : Int32) (n np : Nat) (pn : Nat → Nat) (hn1 : 1 ≤ n) (hn2 : n ≤ 128) (hpn : ∀ jj, jj < n → fp jj = nI (pn jj)) (hpb : ∀ jj, jj < n → pn jj < 8) (enp : np = pmN pn n) (h9k : 1084 + 1024 * np ≤ 9000) (hs0 : ∀ kx, kx < 20 → SS kx = 0) (hs5 : SS 950 = (nI n).toInt8.toInt32) (hs51 : SS 951 = rs.toInt8.toInt32) (hsp : ∀ ii, ii < 128 → SS (952 + ii) = if ii < n then (fp ii).toInt8.toInt32 else 0) (hsm : ∀ ii, ii < 4 → SS (1080 + ii) = (mkv ii).toInt8.toInt32) (hcc : ∀ cc oo, cc < 256 * np → oo < 4 → SS (1084 + 4 * cc + oo) = ceB (fc cc) oo) : Met l yX9_writeSong (wsG (.code yX9_writeSong cX9_writeSong 4 none)) ({ frames := 4, cells := 0, slots := 0, locals := 93 }) (va_Pc [.ref ta, .ref aS] (gP (dC, dI) [(cB, .byte), (cI, .int)] [(ta, .inr (7, [.ref tb, .int 0])), (tb, .inl (cB, 9000, .inl f)), (aS, .inr (6, [.ref ce, .ref pl, .int (nI n), .int rs])), (ce, .inl (cI, 2048, .inl fc)), (pl, .inl (cI, 128, .inl fp))] sz)) (va_Qv (fun u : va_W × gT => ∃ (f2 : Nat → Int32), u = ([(ta, .inr (7, [.ref tb, .int (nI (1084 + 1024 * np))])), (tb, .inl (cB, 9000, .inl f2)), (aS, .inr (6, [.ref ce, .ref pl, .int (nI n), .int rs])), (ce, .inl (cI, 2048, .inl fc)), (pl, .inl (cI, 128, .inl fp))], []) ∧ tpP SS 20 (1084 + 1024 * np) f2) (gB (dC, dI) (va_A [(ta, .inr (7, [.ref tb, .int 0])), (tb, .inl (cB, 9000, .inl f)), (aS, .inr (6, [.ref ce, .ref pl, .int (nI n), .int rs])), (ce, .inl (cI, 2048, .inl fc)), (pl, .inl (cI, 128, .inl fp))] sz)) (va_A [(ta, .inr (7, [.ref tb, .int 0])), (tb, .inl (cB, 9000, .inl f)), (aS, .inr (6, [.ref ce, .ref pl, .int (nI n), .int rs])), (ce, .inl (cI, 2048, .inl fc)), (pl, .inl (cI, 128, .inl fp))] sz)) 0 0 (va_A [(ta, .inr (7, [.ref tb, .int 0])), (tb, .inl (cB, 9000, .inl f)), (aS, .inr (6, [.ref ce, .ref pl, .int (nI n), .int rs])), (ce, .inl (cI, 2048, .inl fc)), (pl, .inl (cI, 128, .inl fp))] sz) := by
  refine Met.ofW (cc := cX9_writeSong) (maxL := 4) (ret := none) (by decide) rfl ?_
  intro p e s m args below meth c s₁ B hml hv
  obtain ⟨rfl, hsz, hP, hK, hD0, hN, hZ⟩ := hv
  have hx := B.exec
  have hb := B.bytes
  have hr := B.returns
  have hts := atoms_spec (ws := (wsG (.code yX9_writeSong cX9_writeSong 4 none))) B.pre
  have hown : s.vm.findClass RX9 = some m.cls := findClass_of_methodNamed B.named
  have hlocks := B.notSynchronized
  subst hsz
  have hD := hD0.self (sz := s.heap.size)
  generalize hAe : va_A [(ta, .inr (7, [.ref tb, .int 0])), (tb, .inl (cB, 9000, .inl f)), (aS, .inr (6, [.ref ce, .ref pl, .int (nI n), .int rs])), (ce, .inl (cI, 2048, .inl fc)), (pl, .inl (cI, 128, .inl fp))] s.heap.size = A at hD hZ ⊢
  have hA : ∀ q : Nat, s.heap.size ≤ q → A q := fun q h => by rw [← hAe]; exact Or.inr h
  have hl := lv_entry ([.ref ta, .ref aS]) (n := 4) (Nat.le_of_ble_eq_true rfl)
  rw [lg_entry_eq]
  generalize (lg_sl ([.ref ta, .ref aS]) ++ List.replicate (4 - (lg_sl ([.ref ta, .ref aS])).length) Slot.unset).toArray = ls at hl ⊢
  have hl : lv_has ls 4 [(0, .ref ta), (1, .ref aS)] := hl
  refine g_start (A := A) hP (fun H locs hP hS => ?_)
  refine lv_aload_n hx hb dX9_writeSong_0 rfl (lv_at hl 0 rfl) ?_
  refine lv_sipush (v := 950) hx hb dX9_writeSong_1 (by decide) ?_
  refine lv_aload_n hx hb dX9_writeSong_4 rfl (lv_at hl 1 rfl) ?_
  refine va_get (D := (dC, dI)) (ci := 6) (v := .int (nI n)) (C := RX6) (T := TX6) (N := 4) hx hb hts iwX6 hown hK hP 2 rfl rfl 2 (by decide) (hts (.fieldLink RX9 11 "ModulePlayer$Score" "length" "I") (List.mem_cons_of_mem _ kw_471)) (fun _ h9 => h9) rfl dX9_writeSong_5 ?_
  refine g_callv (wr := [(aS, .inr (6, [.ref ce, .ref pl, .int (nI n), .int rs])), (ce, .inl (cI, 2048, .inl fc)), (pl, .inl (cI, 128, .inl fp))]) (va_runV (As := [.int 950, .int (nI n)]) (rest := []) ⟨hx, hb, hml, hown, hts⟩ (c_put l dC dI H.size ta tb cB f 0 950 (nI n) 951 (by omega) (by omega) (by omega)) (cwV 2 hts (gG_V kw_474 kw_243 kw_244 kw_18 kw_245) rfl rfl rfl (by decide +kernel) ⟨Nat.le_of_ble_eq_true rfl, Nat.le_of_ble_eq_true rfl⟩) (g_preV (C := RX7) (T := TX7) (N := 2) hP hD hK hS hA hN hZ (q0 := 0) rfl rfl [0, 1] (by decide +kernel) rfl [0] rfl) rfl rfl hl.1 rfl (lv_room (Nat.le_of_ble_eq_true rfl)) dX9_writeSong_8 ⟨Nat.le_of_ble_eq_true rfl, Nat.le_of_ble_eq_true rfl⟩) hP hD hK hS hA [0, 1] [2, 3, 4] rfl rfl (by decide +kernel) (by decide +kernel) (fun w ty1 H locs hw_8 hP hD _ hS => ?_)
  have hu := hw_8
  cases hu
  have hP : va_P (dC, dI) vwCl [(aS, .inr (6, [.ref ce, .ref pl, .int (nI n), .int rs])), (ce, .inl (cI, 2048, .inl fc)), (pl, .inl (cI, 128, .inl fp)), (ta, .inr (7, [.ref tb, .int (nI 951)])), (tb, .inl (cB, 9000, .inl (fput f 0 950 (nI n))))] H := hP
  have hD : va_D A [(aS, .inr (6, [.ref ce, .ref pl, .int (nI n), .int rs])), (ce, .inl (cI, 2048, .inl fc)), (pl, .inl (cI, 128, .inl fp)), (ta, .inr (7, [.ref tb, .int (nI 951)])), (tb, .inl (cB, 9000, .inl (fput f 0 950 (nI n))))] := hD
  have t1 := tp_gap (SS := SS) (TT := 20) (L := 0) (jj := 950) (ff := f) (fun kx hk => absurd hk (Nat.not_lt_zero _)) (by decide) (by decide) (fun kx h1 h2 h3 => hs0 kx (by omega)) hs5.symm
  refine lv_aload_n hx hb dX9_writeSong_11 rfl (lv_at hl 0 rfl) ?_
  refine lv_sipush (v := 951) hx hb dX9_writeSong_12 (by decide) ?_
  refine lv_aload_n hx hb dX9_writeSong_15 rfl (lv_at hl 1 rfl) ?_
  refine va_get (D := (dC, dI)) (ci := 6) (v := .int rs) (C := RX6) (T := TX6) (N := 4) hx hb hts iwX6 hown hK hP 0 rfl rfl 3 (by decide) (hts (.fieldLink RX9 23 "ModulePlayer$Score" "restart" "I") (List.mem_cons_of_mem _ kw_472)) (fun _ h9 => h9) rfl dX9_writeSong_16 ?_
  refine g_callv (wr := [(aS, .inr (6, [.ref ce, .ref pl, .int (nI n), .int rs])), (ce, .inl (cI, 2048, .inl fc)), (pl, .inl (cI, 128, .inl fp))]) (va_runV (As := [.int 951, .int rs]) (rest := []) ⟨hx, hb, hml, hown, hts⟩ (c_put l dC dI H.size ta tb cB (fput f 0 950 (nI n)) 951 951 rs 952 (by omega) (by omega) (by omega)) (cwV 2 hts (gG_V kw_474 kw_243 kw_244 kw_18 kw_245) rfl rfl rfl (by decide +kernel) ⟨Nat.le_of_ble_eq_true rfl, Nat.le_of_ble_eq_true rfl⟩) (g_preV (C := RX7) (T := TX7) (N := 2) hP hD hK hS hA hN hZ (q0 := 3) rfl rfl [3, 4] (by decide +kernel) rfl [0] rfl) rfl rfl hl.1 rfl (lv_room (Nat.le_of_ble_eq_true rfl)) dX9_writeSong_19 ⟨Nat.le_of_ble_eq_true rfl, Nat.le_of_ble_eq_true rfl⟩) hP hD hK hS hA [3, 4] [0, 1, 2] rfl rfl (by decide +kernel) (by decide +kernel) (fun w ty1 H locs hw_19 hP hD _ hS => ?_)
  have hu := hw_19
  cases hu
  have hP : va_P (dC, dI) vwCl [(aS, .inr (6, [.ref ce, .ref pl, .int (nI n), .int rs])), (ce, .inl (cI, 2048, .inl fc)), (pl, .inl (cI, 128, .inl fp)), (ta, .inr (7, [.ref tb, .int (nI 952)])), (tb, .inl (cB, 9000, .inl (fput (fput f 0 950 (nI n)) 951 951 rs)))] H := hP
  have hD : va_D A [(aS, .inr (6, [.ref ce, .ref pl, .int (nI n), .int rs])), (ce, .inl (cI, 2048, .inl fc)), (pl, .inl (cI, 128, .inl fp)), (ta, .inr (7, [.ref tb, .int (nI 952)])), (tb, .inl (cB, 9000, .inl (fput (fput f 0 950 (nI n)) 951 951 rs)))] := hD
  have t2 := tp_app t1 (by decide) hs51.symm
  refine lv_iconst (v := 0) hx hb dX9_writeSong_22 (by decide) ?_
  refine lv_istore_n (lv' := [(2, .int 0), (0, .ref ta), (1, .ref aS)]) hx hb dX9_writeSong_23 rfl hl (by decide) rfl (fun ls hl => ?_)
  have LP24 : ∀ (fu24 : Nat) (q24 : Nat) (La : Nat) (fta : Nat → Int32) (hq24 : q24 ≤ n) (eLa : La = 952 + q24) (hta : tpP SS 20 La fta) (hm24 : n - q24 < fu24) (H : Heap) (locs : List Loc), va_P (dC, dI) vwCl [(aS, .inr (6, [.ref ce, .ref pl, .int (nI n), .int rs])), (ce, .inl (cI, 2048, .inl fc)), (pl, .inl (cI, 128, .inl fp)), (ta, .inr (7, [.ref tb, .int (nI La)])), (tb, .inl (cB, 9000, .inl fta))] H → va_D A [(aS, .inr (6, [.ref ce, .ref pl, .int (nI n), .int rs])), (ce, .inl (cI, 2048, .inl fc)), (pl, .inl (cI, 128, .inl fp)), (ta, .inr (7, [.ref tb, .int (nI La)])), (tb, .inl (cB, 9000, .inl fta))] → va_S A s.heap H locs → ∀ ls : Array Slot, lv_has ls 4 [(2, .int (nI q24)), (0, .ref ta), (1, .ref aS)] → W p l e ({ frames := 4, cells := 0, slots := 0, locals := 93 }) s m ([.ref ta, .ref aS] : List Value).toArray below meth c H locs (0) (0) (MQ below (va_Qv (fun u : va_W × gT => ∃ (f2 : Nat → Int32), u = ([(ta, .inr (7, [.ref tb, .int (nI (1084 + 1024 * np))])), (tb, .inl (cB, 9000, .inl f2)), (aS, .inr (6, [.ref ce, .ref pl, .int (nI n), .int rs])), (ce, .inl (cI, 2048, .inl fc)), (pl, .inl (cI, 128, .inl fp))], []) ∧ tpP SS 20 (1084 + 1024 * np) f2) (gB (dC, dI) A) A) ([.ref ta, .ref aS] : List Value).toArray s 0 0 A) (F0 m 24 ls []) := by
    intro fu24
    induction fu24 with
    | zero => intro q24 La fta hq24 eLa hta hm24; exact absurd hm24 (Nat.not_lt_zero _)
    | succ fu24 ih24 =>
      intro q24 La fta hq24 eLa hta hm24 H locs hP hD hS ls hl
      refine lv_iload_n hx hb dX9_writeSong_24 rfl (lv_at hl 0 rfl) ?_
      refine lv_aload_n hx hb dX9_writeSong_25 rfl (lv_at hl 2 rfl) ?_
      refine va_get (D := (dC, dI)) (ci := 6) (v := .int (nI n)) (C := RX6) (T := TX6) (N := 4) hx hb hts iwX6 hown hK hP 0 rfl rfl 2 (by decide) (hts (.fieldLink RX9 11 "ModulePlayer$Score" "length" "I") (List.mem_cons_of_mem _ kw_471)) (fun _ h9 => h9) rfl dX9_writeSong_26 ?_
      refine lv_icmp_ge (tgt := 60) hx hb dX9_writeSong_29 (by decide) (fun c_29 => ?_) (fun c_29 => ?_)
      · have hqe : q24 = n := by have := nI_le' c_29 (by omega) (by omega); omega
        refine lv_iconst (v := 0) hx hb dX9_writeSong_60 (by decide) ?_
        refine lv_istore_n (lv' := [(2, .int 0), (0, .ref ta), (1, .ref aS)]) hx hb dX9_writeSong_61 rfl hl (by decide) rfl (fun ls hl => ?_)
        refine lv_iload_n hx hb dX9_writeSong_62 rfl (lv_at hl 0 rfl) ?_
        refine lv_iconst (v := 4) hx hb dX9_writeSong_63 (by decide) ?_
        refine lv_icmp_ge (tgt := 86) hx hb dX9_writeSong_64 (by decide) (fun c_64 => absurd c_64 (by decide)) (fun c_64 => ?_)
        refine lv_aload_n hx hb dX9_writeSong_67 rfl (lv_at hl 1 rfl) ?_
        refine lv_sipush (v := 1080) hx hb dX9_writeSong_68 (by decide) ?_
        refine lv_iload_n hx hb dX9_writeSong_71 rfl (lv_at hl 0 rfl) ?_
        refine lv_iadd hx hb dX9_writeSong_72 ?_
        refine g_topi (y := 1080) (by decide) ?_
        refine lv_iload_n hx hb dX9_writeSong_73 rfl (lv_at hl 0 rfl) ?_
        refine g_calli (wr := [(aS, .inr (6, [.ref ce, .ref pl, .int (nI n), .int rs])), (ce, .inl (cI, 2048, .inl fc)), (pl, .inl (cI, 128, .inl fp)), (ta, .inr (7, [.ref tb, .int (nI La)])), (tb, .inl (cB, 9000, .inl fta))]) (va_runS (As := [.int 0]) (rest := [.int 1080, .ref ta]) ⟨hx, hb, hml, hown, hts⟩ (c_mark l dC dI H.size 0 (by decide)) (va_cwS 1 hts (gG_S kw_475 kw_300 kw_30 kw_301) rfl rfl rfl (by decide +kernel) ⟨Nat.le_of_ble_eq_true rfl, Nat.le_of_ble_eq_true rfl⟩) (g_preS hP hD hK hS hA hN hZ [] (by decide) rfl [] rfl) rfl rfl hl.1 rfl (lv_room (Nat.le_of_ble_eq_true rfl)) dX9_writeSong_74 ⟨Nat.le_of_ble_eq_true rfl, Nat.le_of_ble_eq_true rfl⟩) hP hD hK hS hA [] [0, 1, 2, 3, 4] rfl rfl (by decide +kernel) (by decide +kernel) (fun r_74 w ty1 H locs hw_74 hP hD _ hS => ?_)
        rcases hw_74 with ⟨hu, hr_74⟩
        cases hu
        have hP : va_P (dC, dI) vwCl [(aS, .inr (6, [.ref ce, .ref pl, .int (nI n), .int rs])), (ce, .inl (cI, 2048, .inl fc)), (pl, .inl (cI, 128, .inl fp)), (ta, .inr (7, [.ref tb, .int (nI La)])), (tb, .inl (cB, 9000, .inl fta))] H := hP
        have hD : va_D A [(aS, .inr (6, [.ref ce, .ref pl, .int (nI n), .int rs])), (ce, .inl (cI, 2048, .inl fc)), (pl, .inl (cI, 128, .inl fp)), (ta, .inr (7, [.ref tb, .int (nI La)])), (tb, .inl (cB, 9000, .inl fta))] := hD
        refine g_topi (y := mkv 0) hr_74 ?_
        refine g_callv (wr := [(aS, .inr (6, [.ref ce, .ref pl, .int (nI n), .int rs])), (ce, .inl (cI, 2048, .inl fc)), (pl, .inl (cI, 128, .inl fp))]) (va_runV (As := [.int 1080, .int (mkv 0)]) (rest := []) ⟨hx, hb, hml, hown, hts⟩ (c_put l dC dI H.size ta tb cB fta La 1080 (mkv 0) 1081 (by omega) (by omega) (by omega)) (cwV 2 hts (gG_V kw_474 kw_243 kw_244 kw_18 kw_245) rfl rfl rfl (by decide +kernel) ⟨Nat.le_of_ble_eq_true rfl, Nat.le_of_ble_eq_true rfl⟩) (g_preV (C := RX7) (T := TX7) (N := 2) hP hD hK hS hA hN hZ (q0 := 3) rfl rfl [3, 4] (by decide +kernel) rfl [0] rfl) rfl rfl hl.1 rfl (lv_room (Nat.le_of_ble_eq_true rfl)) dX9_writeSong_77 ⟨Nat.le_of_ble_eq_true rfl, Nat.le_of_ble_eq_true rfl⟩) hP hD hK hS hA [3, 4] [0, 1, 2] rfl rfl (by decide +kernel) (by decide +kernel) (fun w ty1 H locs hw_77 hP hD _ hS => ?_)
        have hu := hw_77
        cases hu
        have hP : va_P (dC, dI) vwCl [(aS, .inr (6, [.ref ce, .ref pl, .int (nI n), .int rs])), (ce, .inl (cI, 2048, .inl fc)), (pl, .inl (cI, 128, .inl fp)), (ta, .inr (7, [.ref tb, .int (nI 1081)])), (tb, .inl (cB, 9000, .inl (fput fta La 1080 (mkv 0))))] H := hP
        have hD : va_D A [(aS, .inr (6, [.ref ce, .ref pl, .int (nI n), .int rs])), (ce, .inl (cI, 2048, .inl fc)), (pl, .inl (cI, 128, .inl fp)), (ta, .inr (7, [.ref tb, .int (nI 1081)])), (tb, .inl (cB, 9000, .inl (fput fta La 1080 (mkv 0))))] := hD
        have m0 := tp_gap (jj := 1080) hta (by omega) (by decide) (fun kx h1 h2 _ => by have h3 := hsp (kx - 952) (by omega); rw [show 952 + (kx - 952) = kx by omega, if_neg (by omega)] at h3; exact h3) (hsm 0 (by decide)).symm
        refine lv_iinc (v := 1) (lv' := [(2, .int 1), (0, .ref ta), (1, .ref aS)]) hx hb dX9_writeSong_80 hl (k := 0) rfl (by decide) (by decide) rfl (fun ls hl => ?_)
        refine lv_goto (tgt := 62) hx hb dX9_writeSong_83 (by decide) ?_
        refine lv_iload_n hx hb dX9_writeSong_62 rfl (lv_at hl 0 rfl) ?_
        refine lv_iconst (v := 4) hx hb dX9_writeSong_63 (by decide) ?_
        refine lv_icmp_ge (tgt := 86) hx hb dX9_writeSong_64 (by decide) (fun c_64_2 => absurd c_64_2 (by decide)) (fun c_64_2 => ?_)
        refine lv_aload_n hx hb dX9_writeSong_67 rfl (lv_at hl 1 rfl) ?_
        refine lv_sipush (v := 1080) hx hb dX9_writeSong_68 (by decide) ?_
        refine lv_iload_n hx hb dX9_writeSong_71 rfl (lv_at hl 0 rfl) ?_
        refine lv_iadd hx hb dX9_writeSong_72 ?_
        refine g_topi (y := 1081) (by decide) ?_
        refine lv_iload_n hx hb dX9_writeSong_73 rfl (lv_at hl 0 rfl) ?_
        refine g_calli (wr := [(aS, .inr (6, [.ref ce, .ref pl, .int (nI n), .int rs])), (ce, .inl (cI, 2048, .inl fc)), (pl, .inl (cI, 128, .inl fp)), (ta, .inr (7, [.ref tb, .int (nI 1081)])), (tb, .inl (cB, 9000, .inl (fput fta La 1080 (mkv 0))))]) (va_runS (As := [.int 1]) (rest := [.int 1081, .ref ta]) ⟨hx, hb, hml, hown, hts⟩ (c_mark l dC dI H.size 1 (by decide)) (va_cwS 1 hts (gG_S kw_475 kw_300 kw_30 kw_301) rfl rfl rfl (by decide +kernel) ⟨Nat.le_of_ble_eq_true rfl, Nat.le_of_ble_eq_true rfl⟩) (g_preS hP hD hK hS hA hN hZ [] (by decide) rfl [] rfl) rfl rfl hl.1 rfl (lv_room (Nat.le_of_ble_eq_true rfl)) dX9_writeSong_74 ⟨Nat.le_of_ble_eq_true rfl, Nat.le_of_ble_eq_true rfl⟩) hP hD hK hS hA [] [0, 1, 2, 3, 4] rfl rfl (by decide +kernel) (by decide +kernel) (fun r_74_2 w ty1 H locs hw_74 hP hD _ hS => ?_)
        rcases hw_74 with ⟨hu, hr_74⟩
        cases hu
        have hP : va_P (dC, dI) vwCl [(aS, .inr (6, [.ref ce, .ref pl, .int (nI n), .int rs])), (ce, .inl (cI, 2048, .inl fc)), (pl, .inl (cI, 128, .inl fp)), (ta, .inr (7, [.ref tb, .int (nI 1081)])), (tb, .inl (cB, 9000, .inl (fput fta La 1080 (mkv 0))))] H := hP
        have hD : va_D A [(aS, .inr (6, [.ref ce, .ref pl, .int (nI n), .int rs])), (ce, .inl (cI, 2048, .inl fc)), (pl, .inl (cI, 128, .inl fp)), (ta, .inr (7, [.ref tb, .int (nI 1081)])), (tb, .inl (cB, 9000, .inl (fput fta La 1080 (mkv 0))))] := hD
        refine g_topi (y := mkv 1) hr_74 ?_
        refine g_callv (wr := [(aS, .inr (6, [.ref ce, .ref pl, .int (nI n), .int rs])), (ce, .inl (cI, 2048, .inl fc)), (pl, .inl (cI, 128, .inl fp))]) (va_runV (As := [.int 1081, .int (mkv 1)]) (rest := []) ⟨hx, hb, hml, hown, hts⟩ (c_put l dC dI H.size ta tb cB (fput fta La 1080 (mkv 0)) 1081 1081 (mkv 1) 1082 (by omega) (by omega) (by omega)) (cwV 2 hts (gG_V kw_474 kw_243 kw_244 kw_18 kw_245) rfl rfl rfl (by decide +kernel) ⟨Nat.le_of_ble_eq_true rfl, Nat.le_of_ble_eq_true rfl⟩) (g_preV (C := RX7) (T := TX7) (N := 2) hP hD hK hS hA hN hZ (q0 := 3) rfl rfl [3, 4] (by decide +kernel) rfl [0] rfl) rfl rfl hl.1 rfl (lv_room (Nat.le_of_ble_eq_true rfl)) dX9_writeSong_77 ⟨Nat.le_of_ble_eq_true rfl, Nat.le_of_ble_eq_true rfl⟩) hP hD hK hS hA [3, 4] [0, 1, 2] rfl rfl (by decide +kernel) (by decide +kernel) (fun w ty1 H locs hw_77 hP hD _ hS => ?_)
        have hu := hw_77
        cases hu
        have hP : va_P (dC, dI) vwCl [(aS, .inr (6, [.ref ce, .ref pl, .int (nI n), .int rs])), (ce, .inl (cI, 2048, .inl fc)), (pl, .inl (cI, 128, .inl fp)), (ta, .inr (7, [.ref tb, .int (nI 1082)])), (tb, .inl (cB, 9000, .inl (fput (fput fta La 1080 (mkv 0)) 1081 1081 (mkv 1))))] H := hP
        have hD : va_D A [(aS, .inr (6, [.ref ce, .ref pl, .int (nI n), .int rs])), (ce, .inl (cI, 2048, .inl fc)), (pl, .inl (cI, 128, .inl fp)), (ta, .inr (7, [.ref tb, .int (nI 1082)])), (tb, .inl (cB, 9000, .inl (fput (fput fta La 1080 (mkv 0)) 1081 1081 (mkv 1))))] := hD
        have m1 := tp_app m0 (by decide) (hsm 1 (by decide)).symm
        refine lv_iinc (v := 2) (lv' := [(2, .int 2), (0, .ref ta), (1, .ref aS)]) hx hb dX9_writeSong_80 hl (k := 0) rfl (by decide) (by decide) rfl (fun ls hl => ?_)
        refine lv_goto (tgt := 62) hx hb dX9_writeSong_83 (by decide) ?_
        refine lv_iload_n hx hb dX9_writeSong_62 rfl (lv_at hl 0 rfl) ?_
        refine lv_iconst (v := 4) hx hb dX9_writeSong_63 (by decide) ?_
        refine lv_icmp_ge (tgt := 86) hx hb dX9_writeSong_64 (by decide) (fun c_64_3 => absurd c_64_3 (by decide)) (fun c_64_3 => ?_)
        refine lv_aload_n hx hb dX9_writeSong_67 rfl (lv_at hl 1 rfl) ?_
        refine lv_sipush (v := 1080) hx hb dX9_writeSong_68 (by decide) ?_
        refine lv_iload_n hx hb dX9_writeSong_71 rfl (lv_at hl 0 rfl) ?_
        refine lv_iadd hx hb dX9_writeSong_72 ?_
        refine g_topi (y := 1082) (by decide) ?_
        refine lv_iload_n hx hb dX9_writeSong_73 rfl (lv_at hl 0 rfl) ?_
        refine g_calli (wr := [(aS, .inr (6, [.ref ce, .ref pl, .int (nI n), .int rs])), (ce, .inl (cI, 2048, .inl fc)), (pl, .inl (cI, 128, .inl fp)), (ta, .inr (7, [.ref tb, .int (nI 1082)])), (tb, .inl (cB, 9000, .inl (fput (fput fta La 1080 (mkv 0)) 1081 1081 (mkv 1))))]) (va_runS (As := [.int 2]) (rest := [.int 1082, .ref ta]) ⟨hx, hb, hml, hown, hts⟩ (c_mark l dC dI H.size 2 (by decide)) (va_cwS 1 hts (gG_S kw_475 kw_300 kw_30 kw_301) rfl rfl rfl (by decide +kernel) ⟨Nat.le_of_ble_eq_true rfl, Nat.le_of_ble_eq_true rfl⟩) (g_preS hP hD hK hS hA hN hZ [] (by decide) rfl [] rfl) rfl rfl hl.1 rfl (lv_room (Nat.le_of_ble_eq_true rfl)) dX9_writeSong_74 ⟨Nat.le_of_ble_eq_true rfl, Nat.le_of_ble_eq_true rfl⟩) hP hD hK hS hA [] [0, 1, 2, 3, 4] rfl rfl (by decide +kernel) (by decide +kernel) (fun r_74_3 w ty1 H locs hw_74 hP hD _ hS => ?_)
        rcases hw_74 with ⟨hu, hr_74⟩
        cases hu
        have hP : va_P (dC, dI) vwCl [(aS, .inr (6, [.ref ce, .ref pl, .int (nI n), .int rs])), (ce, .inl (cI, 2048, .inl fc)), (pl, .inl (cI, 128, .inl fp)), (ta, .inr (7, [.ref tb, .int (nI 1082)])), (tb, .inl (cB, 9000, .inl (fput (fput fta La 1080 (mkv 0)) 1081 1081 (mkv 1))))] H := hP
        have hD : va_D A [(aS, .inr (6, [.ref ce, .ref pl, .int (nI n), .int rs])), (ce, .inl (cI, 2048, .inl fc)), (pl, .inl (cI, 128, .inl fp)), (ta, .inr (7, [.ref tb, .int (nI 1082)])), (tb, .inl (cB, 9000, .inl (fput (fput fta La 1080 (mkv 0)) 1081 1081 (mkv 1))))] := hD
        refine g_topi (y := mkv 2) hr_74 ?_
        refine g_callv (wr := [(aS, .inr (6, [.ref ce, .ref pl, .int (nI n), .int rs])), (ce, .inl (cI, 2048, .inl fc)), (pl, .inl (cI, 128, .inl fp))]) (va_runV (As := [.int 1082, .int (mkv 2)]) (rest := []) ⟨hx, hb, hml, hown, hts⟩ (c_put l dC dI H.size ta tb cB (fput (fput fta La 1080 (mkv 0)) 1081 1081 (mkv 1)) 1082 1082 (mkv 2) 1083 (by omega) (by omega) (by omega)) (cwV 2 hts (gG_V kw_474 kw_243 kw_244 kw_18 kw_245) rfl rfl rfl (by decide +kernel) ⟨Nat.le_of_ble_eq_true rfl, Nat.le_of_ble_eq_true rfl⟩) (g_preV (C := RX7) (T := TX7) (N := 2) hP hD hK hS hA hN hZ (q0 := 3) rfl rfl [3, 4] (by decide +kernel) rfl [0] rfl) rfl rfl hl.1 rfl (lv_room (Nat.le_of_ble_eq_true rfl)) dX9_writeSong_77 ⟨Nat.le_of_ble_eq_true rfl, Nat.le_of_ble_eq_true rfl⟩) hP hD hK hS hA [3, 4] [0, 1, 2] rfl rfl (by decide +kernel) (by decide +kernel) (fun w ty1 H locs hw_77 hP hD _ hS => ?_)
        have hu := hw_77
        cases hu
        have hP : va_P (dC, dI) vwCl [(aS, .inr (6, [.ref ce, .ref pl, .int (nI n), .int rs])), (ce, .inl (cI, 2048, .inl fc)), (pl, .inl (cI, 128, .inl fp)), (ta, .inr (7, [.ref tb, .int (nI 1083)])), (tb, .inl (cB, 9000, .inl (fput (fput (fput fta La 1080 (mkv 0)) 1081 1081 (mkv 1)) 1082 1082 (mkv 2))))] H := hP
        have hD : va_D A [(aS, .inr (6, [.ref ce, .ref pl, .int (nI n), .int rs])), (ce, .inl (cI, 2048, .inl fc)), (pl, .inl (cI, 128, .inl fp)), (ta, .inr (7, [.ref tb, .int (nI 1083)])), (tb, .inl (cB, 9000, .inl (fput (fput (fput fta La 1080 (mkv 0)) 1081 1081 (mkv 1)) 1082 1082 (mkv 2))))] := hD
        have m2 := tp_app m1 (by decide) (hsm 2 (by decide)).symm
        refine lv_iinc (v := 3) (lv' := [(2, .int 3), (0, .ref ta), (1, .ref aS)]) hx hb dX9_writeSong_80 hl (k := 0) rfl (by decide) (by decide) rfl (fun ls hl => ?_)
        refine lv_goto (tgt := 62) hx hb dX9_writeSong_83 (by decide) ?_
        refine lv_iload_n hx hb dX9_writeSong_62 rfl (lv_at hl 0 rfl) ?_
        refine lv_iconst (v := 4) hx hb dX9_writeSong_63 (by decide) ?_
        refine lv_icmp_ge (tgt := 86) hx hb dX9_writeSong_64 (by decide) (fun c_64_4 => absurd c_64_4 (by decide)) (fun c_64_4 => ?_)
        refine lv_aload_n hx hb dX9_writeSong_67 rfl (lv_at hl 1 rfl) ?_
        refine lv_sipush (v := 1080) hx hb dX9_writeSong_68 (by decide) ?_
        refine lv_iload_n hx hb dX9_writeSong_71 rfl (lv_at hl 0 rfl) ?_
        refine lv_iadd hx hb dX9_writeSong_72 ?_
        refine g_topi (y := 1083) (by decide) ?_
        refine lv_iload_n hx hb dX9_writeSong_73 rfl (lv_at hl 0 rfl) ?_
        refine g_calli (wr := [(aS, .inr (6, [.ref ce, .ref pl, .int (nI n), .int rs])), (ce, .inl (cI, 2048, .inl fc)), (pl, .inl (cI, 128, .inl fp)), (ta, .inr (7, [.ref tb, .int (nI 1083)])), (tb, .inl (cB, 9000, .inl (fput (fput (fput fta La 1080 (mkv 0)) 1081 1081 (mkv 1)) 1082 1082 (mkv 2))))]) (va_runS (As := [.int 3]) (rest := [.int 1083, .ref ta]) ⟨hx, hb, hml, hown, hts⟩ (c_mark l dC dI H.size 3 (by decide)) (va_cwS 1 hts (gG_S kw_475 kw_300 kw_30 kw_301) rfl rfl rfl (by decide +kernel) ⟨Nat.le_of_ble_eq_true rfl, Nat.le_of_ble_eq_true rfl⟩) (g_preS hP hD hK hS hA hN hZ [] (by decide) rfl [] rfl) rfl rfl hl.1 rfl (lv_room (Nat.le_of_ble_eq_true rfl)) dX9_writeSong_74 ⟨Nat.le_of_ble_eq_true rfl, Nat.le_of_ble_eq_true rfl⟩) hP hD hK hS hA [] [0, 1, 2, 3, 4] rfl rfl (by decide +kernel) (by decide +kernel) (fun r_74_4 w ty1 H locs hw_74 hP hD _ hS => ?_)
        rcases hw_74 with ⟨hu, hr_74⟩
        cases hu
        have hP : va_P (dC, dI) vwCl [(aS, .inr (6, [.ref ce, .ref pl, .int (nI n), .int rs])), (ce, .inl (cI, 2048, .inl fc)), (pl, .inl (cI, 128, .inl fp)), (ta, .inr (7, [.ref tb, .int (nI 1083)])), (tb, .inl (cB, 9000, .inl (fput (fput (fput fta La 1080 (mkv 0)) 1081 1081 (mkv 1)) 1082 1082 (mkv 2))))] H := hP
        have hD : va_D A [(aS, .inr (6, [.ref ce, .ref pl, .int (nI n), .int rs])), (ce, .inl (cI, 2048, .inl fc)), (pl, .inl (cI, 128, .inl fp)), (ta, .inr (7, [.ref tb, .int (nI 1083)])), (tb, .inl (cB, 9000, .inl (fput (fput (fput fta La 1080 (mkv 0)) 1081 1081 (mkv 1)) 1082 1082 (mkv 2))))] := hD
        refine g_topi (y := mkv 3) hr_74 ?_
        refine g_callv (wr := [(aS, .inr (6, [.ref ce, .ref pl, .int (nI n), .int rs])), (ce, .inl (cI, 2048, .inl fc)), (pl, .inl (cI, 128, .inl fp))]) (va_runV (As := [.int 1083, .int (mkv 3)]) (rest := []) ⟨hx, hb, hml, hown, hts⟩ (c_put l dC dI H.size ta tb cB (fput (fput (fput fta La 1080 (mkv 0)) 1081 1081 (mkv 1)) 1082 1082 (mkv 2)) 1083 1083 (mkv 3) 1084 (by omega) (by omega) (by omega)) (cwV 2 hts (gG_V kw_474 kw_243 kw_244 kw_18 kw_245) rfl rfl rfl (by decide +kernel) ⟨Nat.le_of_ble_eq_true rfl, Nat.le_of_ble_eq_true rfl⟩) (g_preV (C := RX7) (T := TX7) (N := 2) hP hD hK hS hA hN hZ (q0 := 3) rfl rfl [3, 4] (by decide +kernel) rfl [0] rfl) rfl rfl hl.1 rfl (lv_room (Nat.le_of_ble_eq_true rfl)) dX9_writeSong_77 ⟨Nat.le_of_ble_eq_true rfl, Nat.le_of_ble_eq_true rfl⟩) hP hD hK hS hA [3, 4] [0, 1, 2] rfl rfl (by decide +kernel) (by decide +kernel) (fun w ty1 H locs hw_77 hP hD _ hS => ?_)
        have hu := hw_77
        cases hu
        have hP : va_P (dC, dI) vwCl [(aS, .inr (6, [.ref ce, .ref pl, .int (nI n), .int rs])), (ce, .inl (cI, 2048, .inl fc)), (pl, .inl (cI, 128, .inl fp)), (ta, .inr (7, [.ref tb, .int (nI 1084)])), (tb, .inl (cB, 9000, .inl (fput (fput (fput (fput fta La 1080 (mkv 0)) 1081 1081 (mkv 1)) 1082 1082 (mkv 2)) 1083 1083 (mkv 3))))] H := hP
        have hD : va_D A [(aS, .inr (6, [.ref ce, .ref pl, .int (nI n), .int rs])), (ce, .inl (cI, 2048, .inl fc)), (pl, .inl (cI, 128, .inl fp)), (ta, .inr (7, [.ref tb, .int (nI 1084)])), (tb, .inl (cB, 9000, .inl (fput (fput (fput (fput fta La 1080 (mkv 0)) 1081 1081 (mkv 1)) 1082 1082 (mkv 2)) 1083 1083 (mkv 3))))] := hD
        have m3 := tp_app m2 (by decide) (hsm 3 (by decide)).symm
        refine lv_iinc (v := 4) (lv' := [(2, .int 4), (0, .ref ta), (1, .ref aS)]) hx hb dX9_writeSong_80 hl (k := 0) rfl (by decide) (by decide) rfl (fun ls hl => ?_)
        refine lv_goto (tgt := 62) hx hb dX9_writeSong_83 (by decide) ?_
        refine lv_iload_n hx hb dX9_writeSong_62 rfl (lv_at hl 0 rfl) ?_
        refine lv_iconst (v := 4) hx hb dX9_writeSong_63 (by decide) ?_
        refine lv_icmp_ge (tgt := 86) hx hb dX9_writeSong_64 (by decide) (fun c_64_5 => ?_) (fun c_64_5 => absurd c_64_5 (by decide))
        refine lv_aload_n hx hb dX9_writeSong_86 rfl (lv_at hl 2 rfl) ?_
        refine g_calli (wr := [(ce, .inl (cI, 2048, .inl fc)), (ta, .inr (7, [.ref tb, .int (nI 1084)])), (tb, .inl (cB, 9000, .inl (fput (fput (fput (fput fta La 1080 (mkv 0)) 1081 1081 (mkv 1)) 1082 1082 (mkv 2)) 1083 1083 (mkv 3))))]) (va_runV (As := []) (rest := []) ⟨hx, hb, hml, hown, hts⟩ (x_count l dC dI H.size aS ce pl rs fp cI n pn (hn1) (hn2) (hpn) (fun jj hj => by have := hpb jj hj; omega)) (cwV 0 hts (gG_V kw_476 kw_347 kw_348 kw_26 kw_349) rfl rfl rfl (by decide +kernel) ⟨Nat.le_of_ble_eq_true rfl, Nat.le_of_ble_eq_true rfl⟩) (g_preV (C := RX6) (T := TX6) (N := 4) hP hD hK hS hA hN hZ (q0 := 0) rfl rfl [0, 2] (by decide +kernel) rfl [1] rfl) rfl rfl hl.1 rfl (lv_room (Nat.le_of_ble_eq_true rfl)) dX9_writeSong_87 ⟨Nat.le_of_ble_eq_true rfl, Nat.le_of_ble_eq_true rfl⟩) hP hD hK hS hA [0, 2] [1, 3, 4] rfl rfl (by decide +kernel) (by decide +kernel) (fun r_87 w ty1 H locs hw_87 hP hD _ hS => ?_)
        rcases hw_87 with ⟨hu, hr_87⟩
        cases hu
        have hP : va_P (dC, dI) vwCl [(ce, .inl (cI, 2048, .inl fc)), (ta, .inr (7, [.ref tb, .int (nI 1084)])), (tb, .inl (cB, 9000, .inl (fput (fput (fput (fput fta La 1080 (mkv 0)) 1081 1081 (mkv 1)) 1082 1082 (mkv 2)) 1083 1083 (mkv 3)))), (aS, .inr (6, [.ref ce, .ref pl, .int (nI n), .int rs])), (pl, .inl (cI, 128, .inl fp))] H := hP
        have hD : va_D A [(ce, .inl (cI, 2048, .inl fc)), (ta, .inr (7, [.ref tb, .int (nI 1084)])), (tb, .inl (cB, 9000, .inl (fput (fput (fput (fput fta La 1080 (mkv 0)) 1081 1081 (mkv 1)) 1082 1082 (mkv 2)) 1083 1083 (mkv 3)))), (aS, .inr (6, [.ref ce, .ref pl, .int (nI n), .int rs])), (pl, .inl (cI, 128, .inl fp))] := hD
        refine g_topi (y := nI (pmN pn n)) hr_87 ?_
        have hn8 : np ≤ 8 := by rw [enp]; exact pmN_le hpb
        refine g_topi (y := nI np) (up_e enp.symm) ?_
        refine lv_istore_n (lv' := [(2, .int (nI np)), (0, .ref ta), (1, .ref aS)]) hx hb dX9_writeSong_90 rfl hl (by decide) rfl (fun ls hl => ?_)
        refine lv_iconst (v := 0) hx hb dX9_writeSong_91 (by decide) ?_
        refine lv_istore_n (lv' := [(3, .int 0), (2, .int (nI np)), (0, .ref ta), (1, .ref aS)]) hx hb dX9_writeSong_92 rfl hl (by decide) rfl (fun ls hl => ?_)
        have LP93 : ∀ (fu93 : Nat) (q93 : Nat) (Lb : Nat) (ftb : Nat → Int32) (hq93a : q93 ≤ np) (eLb : Lb = 1084 + 1024 * q93) (htb : tpP SS 20 Lb ftb) (hm93 : np - q93 < fu93) (H : Heap) (locs : List Loc), va_P (dC, dI) vwCl [(ce, .inl (cI, 2048, .inl fc)), (ta, .inr (7, [.ref tb, .int (nI Lb)])), (tb, .inl (cB, 9000, .inl ftb)), (aS, .inr (6, [.ref ce, .ref pl, .int (nI n), .int rs])), (pl, .inl (cI, 128, .inl fp))] H → va_D A [(ce, .inl (cI, 2048, .inl fc)), (ta, .inr (7, [.ref tb, .int (nI Lb)])), (tb, .inl (cB, 9000, .inl ftb)), (aS, .inr (6, [.ref ce, .ref pl, .int (nI n), .int rs])), (pl, .inl (cI, 128, .inl fp))] → va_S A s.heap H locs → ∀ ls : Array Slot, lv_has ls 4 [(3, .int (nI q93)), (2, .int (nI np)), (0, .ref ta), (1, .ref aS)] → W p l e ({ frames := 4, cells := 0, slots := 0, locals := 93 }) s m ([.ref ta, .ref aS] : List Value).toArray below meth c H locs (0) (0) (MQ below (va_Qv (fun u : va_W × gT => ∃ (f2 : Nat → Int32), u = ([(ta, .inr (7, [.ref tb, .int (nI (1084 + 1024 * np))])), (tb, .inl (cB, 9000, .inl f2)), (aS, .inr (6, [.ref ce, .ref pl, .int (nI n), .int rs])), (ce, .inl (cI, 2048, .inl fc)), (pl, .inl (cI, 128, .inl fp))], []) ∧ tpP SS 20 (1084 + 1024 * np) f2) (gB (dC, dI) A) A) ([.ref ta, .ref aS] : List Value).toArray s 0 0 A) (F0 m 93 ls []) := by
          intro fu93
          induction fu93 with
          | zero => intro q93 Lb ftb hq93a eLb htb hm93; exact absurd hm93 (Nat.not_lt_zero _)
          | succ fu93 ih93 =>
            intro q93 Lb ftb hq93a eLb htb hm93 H locs hP hD hS ls hl
            refine lv_iload_n hx hb dX9_writeSong_93 rfl (lv_at hl 0 rfl) ?_
            refine lv_iload_n hx hb dX9_writeSong_94 rfl (lv_at hl 1 rfl) ?_
            refine lv_icmp_ge (tgt := 110) hx hb dX9_writeSong_95 (by decide) (fun c_95 => ?_) (fun c_95 => ?_)
            · have hqf : q93 = np := by have := nI_le' c_95 (by omega) (by omega); omega
              rw [show Lb = 1084 + 1024 * np by omega] at hP hD
              have hP9 := hP.sub (ws' := [(ta, .inr (7, [.ref tb, .int (nI (1084 + 1024 * np))])), (tb, .inl (cB, 9000, .inl ftb)), (aS, .inr (6, [.ref ce, .ref pl, .int (nI n), .int rs])), (ce, .inl (cI, 2048, .inl fc)), (pl, .inl (cI, 128, .inl fp))]) [1, 2, 3, 0, 4] rfl
              have hD9 := hD.sub (ws' := [(ta, .inr (7, [.ref tb, .int (nI (1084 + 1024 * np))])), (tb, .inl (cB, 9000, .inl ftb)), (aS, .inr (6, [.ref ce, .ref pl, .int (nI n), .int rs])), (ce, .inl (cI, 2048, .inl fc)), (pl, .inl (cI, 128, .inl fp))]) [1, 2, 3, 0, 4] (by decide +kernel) rfl
              have hK9 := hK.sub (tys' := []) [] rfl
              exact W.vret hx hb hr (fun t ht hW => ⟨⟨_, rfl, ⟨ftb, rfl, (tp_e htb rfl (by omega))⟩, by rw [ht]; exact hP9, va_K.moved hW.alike hK9, hD9⟩, hS.F ht⟩) hS.2.2 dX9_writeSong_110
            have hq93 : q93 < np := nI_nle' c_95 (by omega)
            refine lv_aload_n hx hb dX9_writeSong_98 rfl (lv_at hl 2 rfl) ?_
            refine lv_aload_n hx hb dX9_writeSong_99 rfl (lv_at hl 3 rfl) ?_
            refine lv_iload_n hx hb dX9_writeSong_100 rfl (lv_at hl 0 rfl) ?_
            refine g_callv (wr := [(pl, .inl (cI, 128, .inl fp))]) (va_runS (As := [.ref ta, .ref aS, .int (nI q93)]) (rest := []) ⟨hx, hb, hml, hown, hts⟩ (x_writePattern l dC dI H.size ta tb aS ce pl cB cI ftb fc SS (nI n) rs q93 Lb 20 (by omega) (eLb) (by omega) (htb) (fun cc oo h1 h2 => hcc cc oo (by omega) h2)) (va_cwS 3 hts (gG_S kw_477 kw_478 kw_469 kw_479) rfl rfl rfl (by decide +kernel) ⟨Nat.le_of_ble_eq_true rfl, Nat.le_of_ble_eq_true rfl⟩) (g_preS hP hD hK hS hA hN hZ [1, 2, 3, 0] (by decide +kernel) rfl [0, 1] rfl) rfl rfl hl.1 rfl (lv_room (Nat.le_of_ble_eq_true rfl)) dX9_writeSong_101 ⟨Nat.le_of_ble_eq_true rfl, Nat.le_of_ble_eq_true rfl⟩) hP hD hK hS hA [1, 2, 3, 0] [4] rfl rfl (by decide +kernel) (by decide +kernel) (fun w ty1 H locs hw_101 hP hD _ hS => ?_)
            rcases hw_101 with ⟨f2_101, hu, htp2_101⟩
            cases hu
            have hP : va_P (dC, dI) vwCl [(pl, .inl (cI, 128, .inl fp)), (ta, .inr (7, [.ref tb, .int (nI (Lb + 1024))])), (tb, .inl (cB, 9000, .inl f2_101)), (aS, .inr (6, [.ref ce, .ref pl, .int (nI n), .int rs])), (ce, .inl (cI, 2048, .inl fc))] H := hP
            have hD : va_D A [(pl, .inl (cI, 128, .inl fp)), (ta, .inr (7, [.ref tb, .int (nI (Lb + 1024))])), (tb, .inl (cB, 9000, .inl f2_101)), (aS, .inr (6, [.ref ce, .ref pl, .int (nI n), .int rs])), (ce, .inl (cI, 2048, .inl fc))] := hD
            refine lv_iinc (v := nI (q93 + 1)) (lv' := [(3, .int (nI (q93 + 1))), (2, .int (nI np)), (0, .ref ta), (1, .ref aS)]) hx hb dX9_writeSong_104 hl (k := 0) rfl (nI_1 q93) (by decide) rfl (fun ls hl => ?_)
            refine lv_goto (tgt := 93) hx hb dX9_writeSong_107 (by decide) ?_
            exact ih93 (q93 + 1) (Lb + 1024) f2_101 (by omega) (by omega) (htp2_101) (by omega) _ _ (hP.sub [4, 1, 2, 3, 0] rfl) (hD.sub [4, 1, 2, 3, 0] (by decide +kernel) rfl) hS _ (lv_sub hl [0, 1, 2, 3] rfl)
        exact LP93 _ 0 1084 (fput (fput (fput (fput fta La 1080 (mkv 0)) 1081 1081 (mkv 1)) 1082 1082 (mkv 2)) 1083 1083 (mkv 3)) (Nat.zero_le _) (rfl) (m3) (Nat.lt_succ_self _) _ _ hP hD hS _ (lv_sub hl [0, 1, 2, 3] rfl)
      refine lv_iload_n hx hb dX9_writeSong_32 rfl (lv_at hl 0 rfl) ?_
      refine lv_sipush (v := 128) hx hb dX9_writeSong_33 (by decide) ?_
      refine lv_icmp_ge (tgt := 60) hx hb dX9_writeSong_36 (by decide) (fun c_36 => ?_) (fun c_36 => ?_)
      · have hqe : q24 = n := by have := nI_le' (a := 128) c_36 (by decide) (by omega); omega
        refine lv_iconst (v := 0) hx hb dX9_writeSong_60 (by decide) ?_
        refine lv_istore_n (lv' := [(2, .int 0), (0, .ref ta), (1, .ref aS)]) hx hb dX9_writeSong_61 rfl hl (by decide) rfl (fun ls hl => ?_)
        refine lv_iload_n hx hb dX9_writeSong_62 rfl (lv_at hl 0 rfl) ?_
        refine lv_iconst (v := 4) hx hb dX9_writeSong_63 (by decide) ?_
        refine lv_icmp_ge (tgt := 86) hx hb dX9_writeSong_64 (by decide) (fun c_64 => absurd c_64 (by decide)) (fun c_64 => ?_)
        refine lv_aload_n hx hb dX9_writeSong_67 rfl (lv_at hl 1 rfl) ?_
        refine lv_sipush (v := 1080) hx hb dX9_writeSong_68 (by decide) ?_
        refine lv_iload_n hx hb dX9_writeSong_71 rfl (lv_at hl 0 rfl) ?_
        refine lv_iadd hx hb dX9_writeSong_72 ?_
        refine g_topi (y := 1080) (by decide) ?_
        refine lv_iload_n hx hb dX9_writeSong_73 rfl (lv_at hl 0 rfl) ?_
        refine g_calli (wr := [(aS, .inr (6, [.ref ce, .ref pl, .int (nI n), .int rs])), (ce, .inl (cI, 2048, .inl fc)), (pl, .inl (cI, 128, .inl fp)), (ta, .inr (7, [.ref tb, .int (nI La)])), (tb, .inl (cB, 9000, .inl fta))]) (va_runS (As := [.int 0]) (rest := [.int 1080, .ref ta]) ⟨hx, hb, hml, hown, hts⟩ (c_mark l dC dI H.size 0 (by decide)) (va_cwS 1 hts (gG_S kw_475 kw_300 kw_30 kw_301) rfl rfl rfl (by decide +kernel) ⟨Nat.le_of_ble_eq_true rfl, Nat.le_of_ble_eq_true rfl⟩) (g_preS hP hD hK hS hA hN hZ [] (by decide) rfl [] rfl) rfl rfl hl.1 rfl (lv_room (Nat.le_of_ble_eq_true rfl)) dX9_writeSong_74 ⟨Nat.le_of_ble_eq_true rfl, Nat.le_of_ble_eq_true rfl⟩) hP hD hK hS hA [] [0, 1, 2, 3, 4] rfl rfl (by decide +kernel) (by decide +kernel) (fun r_74 w ty1 H locs hw_74 hP hD _ hS => ?_)
        rcases hw_74 with ⟨hu, hr_74⟩
        cases hu
        have hP : va_P (dC, dI) vwCl [(aS, .inr (6, [.ref ce, .ref pl, .int (nI n), .int rs])), (ce, .inl (cI, 2048, .inl fc)), (pl, .inl (cI, 128, .inl fp)), (ta, .inr (7, [.ref tb, .int (nI La)])), (tb, .inl (cB, 9000, .inl fta))] H := hP
        have hD : va_D A [(aS, .inr (6, [.ref ce, .ref pl, .int (nI n), .int rs])), (ce, .inl (cI, 2048, .inl fc)), (pl, .inl (cI, 128, .inl fp)), (ta, .inr (7, [.ref tb, .int (nI La)])), (tb, .inl (cB, 9000, .inl fta))] := hD
        refine g_topi (y := mkv 0) hr_74 ?_
        refine g_callv (wr := [(aS, .inr (6, [.ref ce, .ref pl, .int (nI n), .int rs])), (ce, .inl (cI, 2048, .inl fc)), (pl, .inl (cI, 128, .inl fp))]) (va_runV (As := [.int 1080, .int (mkv 0)]) (rest := []) ⟨hx, hb, hml, hown, hts⟩ (c_put l dC dI H.size ta tb cB fta La 1080 (mkv 0) 1081 (by omega) (by omega) (by omega)) (cwV 2 hts (gG_V kw_474 kw_243 kw_244 kw_18 kw_245) rfl rfl rfl (by decide +kernel) ⟨Nat.le_of_ble_eq_true rfl, Nat.le_of_ble_eq_true rfl⟩) (g_preV (C := RX7) (T := TX7) (N := 2) hP hD hK hS hA hN hZ (q0 := 3) rfl rfl [3, 4] (by decide +kernel) rfl [0] rfl) rfl rfl hl.1 rfl (lv_room (Nat.le_of_ble_eq_true rfl)) dX9_writeSong_77 ⟨Nat.le_of_ble_eq_true rfl, Nat.le_of_ble_eq_true rfl⟩) hP hD hK hS hA [3, 4] [0, 1, 2] rfl rfl (by decide +kernel) (by decide +kernel) (fun w ty1 H locs hw_77 hP hD _ hS => ?_)
        have hu := hw_77
        cases hu
        have hP : va_P (dC, dI) vwCl [(aS, .inr (6, [.ref ce, .ref pl, .int (nI n), .int rs])), (ce, .inl (cI, 2048, .inl fc)), (pl, .inl (cI, 128, .inl fp)), (ta, .inr (7, [.ref tb, .int (nI 1081)])), (tb, .inl (cB, 9000, .inl (fput fta La 1080 (mkv 0))))] H := hP
        have hD : va_D A [(aS, .inr (6, [.ref ce, .ref pl, .int (nI n), .int rs])), (ce, .inl (cI, 2048, .inl fc)), (pl, .inl (cI, 128, .inl fp)), (ta, .inr (7, [.ref tb, .int (nI 1081)])), (tb, .inl (cB, 9000, .inl (fput fta La 1080 (mkv 0))))] := hD
        have m0 := tp_gap (jj := 1080) hta (by omega) (by decide) (fun kx h1 h2 _ => by have h3 := hsp (kx - 952) (by omega); rw [show 952 + (kx - 952) = kx by omega, if_neg (by omega)] at h3; exact h3) (hsm 0 (by decide)).symm
        refine lv_iinc (v := 1) (lv' := [(2, .int 1), (0, .ref ta), (1, .ref aS)]) hx hb dX9_writeSong_80 hl (k := 0) rfl (by decide) (by decide) rfl (fun ls hl => ?_)
        refine lv_goto (tgt := 62) hx hb dX9_writeSong_83 (by decide) ?_
        refine lv_iload_n hx hb dX9_writeSong_62 rfl (lv_at hl 0 rfl) ?_
        refine lv_iconst (v := 4) hx hb dX9_writeSong_63 (by decide) ?_
        refine lv_icmp_ge (tgt := 86) hx hb dX9_writeSong_64 (by decide) (fun c_64_2 => absurd c_64_2 (by decide)) (fun c_64_2 => ?_)
        refine lv_aload_n hx hb dX9_writeSong_67 rfl (lv_at hl 1 rfl) ?_
        refine lv_sipush (v := 1080) hx hb dX9_writeSong_68 (by decide) ?_
        refine lv_iload_n hx hb dX9_writeSong_71 rfl (lv_at hl 0 rfl) ?_
        refine lv_iadd hx hb dX9_writeSong_72 ?_
        refine g_topi (y := 1081) (by decide) ?_
        refine lv_iload_n hx hb dX9_writeSong_73 rfl (lv_at hl 0 rfl) ?_
        refine g_calli (wr := [(aS, .inr (6, [.ref ce, .ref pl, .int (nI n), .int rs])), (ce, .inl (cI, 2048, .inl fc)), (pl, .inl (cI, 128, .inl fp)), (ta, .inr (7, [.ref tb, .int (nI 1081)])), (tb, .inl (cB, 9000, .inl (fput fta La 1080 (mkv 0))))]) (va_runS (As := [.int 1]) (rest := [.int 1081, .ref ta]) ⟨hx, hb, hml, hown, hts⟩ (c_mark l dC dI H.size 1 (by decide)) (va_cwS 1 hts (gG_S kw_475 kw_300 kw_30 kw_301) rfl rfl rfl (by decide +kernel) ⟨Nat.le_of_ble_eq_true rfl, Nat.le_of_ble_eq_true rfl⟩) (g_preS hP hD hK hS hA hN hZ [] (by decide) rfl [] rfl) rfl rfl hl.1 rfl (lv_room (Nat.le_of_ble_eq_true rfl)) dX9_writeSong_74 ⟨Nat.le_of_ble_eq_true rfl, Nat.le_of_ble_eq_true rfl⟩) hP hD hK hS hA [] [0, 1, 2, 3, 4] rfl rfl (by decide +kernel) (by decide +kernel) (fun r_74_2 w ty1 H locs hw_74 hP hD _ hS => ?_)
        rcases hw_74 with ⟨hu, hr_74⟩
        cases hu
        have hP : va_P (dC, dI) vwCl [(aS, .inr (6, [.ref ce, .ref pl, .int (nI n), .int rs])), (ce, .inl (cI, 2048, .inl fc)), (pl, .inl (cI, 128, .inl fp)), (ta, .inr (7, [.ref tb, .int (nI 1081)])), (tb, .inl (cB, 9000, .inl (fput fta La 1080 (mkv 0))))] H := hP
        have hD : va_D A [(aS, .inr (6, [.ref ce, .ref pl, .int (nI n), .int rs])), (ce, .inl (cI, 2048, .inl fc)), (pl, .inl (cI, 128, .inl fp)), (ta, .inr (7, [.ref tb, .int (nI 1081)])), (tb, .inl (cB, 9000, .inl (fput fta La 1080 (mkv 0))))] := hD
        refine g_topi (y := mkv 1) hr_74 ?_
        refine g_callv (wr := [(aS, .inr (6, [.ref ce, .ref pl, .int (nI n), .int rs])), (ce, .inl (cI, 2048, .inl fc)), (pl, .inl (cI, 128, .inl fp))]) (va_runV (As := [.int 1081, .int (mkv 1)]) (rest := []) ⟨hx, hb, hml, hown, hts⟩ (c_put l dC dI H.size ta tb cB (fput fta La 1080 (mkv 0)) 1081 1081 (mkv 1) 1082 (by omega) (by omega) (by omega)) (cwV 2 hts (gG_V kw_474 kw_243 kw_244 kw_18 kw_245) rfl rfl rfl (by decide +kernel) ⟨Nat.le_of_ble_eq_true rfl, Nat.le_of_ble_eq_true rfl⟩) (g_preV (C := RX7) (T := TX7) (N := 2) hP hD hK hS hA hN hZ (q0 := 3) rfl rfl [3, 4] (by decide +kernel) rfl [0] rfl) rfl rfl hl.1 rfl (lv_room (Nat.le_of_ble_eq_true rfl)) dX9_writeSong_77 ⟨Nat.le_of_ble_eq_true rfl, Nat.le_of_ble_eq_true rfl⟩) hP hD hK hS hA [3, 4] [0, 1, 2] rfl rfl (by decide +kernel) (by decide +kernel) (fun w ty1 H locs hw_77 hP hD _ hS => ?_)
        have hu := hw_77
        cases hu
        have hP : va_P (dC, dI) vwCl [(aS, .inr (6, [.ref ce, .ref pl, .int (nI n), .int rs])), (ce, .inl (cI, 2048, .inl fc)), (pl, .inl (cI, 128, .inl fp)), (ta, .inr (7, [.ref tb, .int (nI 1082)])), (tb, .inl (cB, 9000, .inl (fput (fput fta La 1080 (mkv 0)) 1081 1081 (mkv 1))))] H := hP
        have hD : va_D A [(aS, .inr (6, [.ref ce, .ref pl, .int (nI n), .int rs])), (ce, .inl (cI, 2048, .inl fc)), (pl, .inl (cI, 128, .inl fp)), (ta, .inr (7, [.ref tb, .int (nI 1082)])), (tb, .inl (cB, 9000, .inl (fput (fput fta La 1080 (mkv 0)) 1081 1081 (mkv 1))))] := hD
        have m1 := tp_app m0 (by decide) (hsm 1 (by decide)).symm
        refine lv_iinc (v := 2) (lv' := [(2, .int 2), (0, .ref ta), (1, .ref aS)]) hx hb dX9_writeSong_80 hl (k := 0) rfl (by decide) (by decide) rfl (fun ls hl => ?_)
        refine lv_goto (tgt := 62) hx hb dX9_writeSong_83 (by decide) ?_
        refine lv_iload_n hx hb dX9_writeSong_62 rfl (lv_at hl 0 rfl) ?_
        refine lv_iconst (v := 4) hx hb dX9_writeSong_63 (by decide) ?_
        refine lv_icmp_ge (tgt := 86) hx hb dX9_writeSong_64 (by decide) (fun c_64_3 => absurd c_64_3 (by decide)) (fun c_64_3 => ?_)
        refine lv_aload_n hx hb dX9_writeSong_67 rfl (lv_at hl 1 rfl) ?_
        refine lv_sipush (v := 1080) hx hb dX9_writeSong_68 (by decide) ?_
        refine lv_iload_n hx hb dX9_writeSong_71 rfl (lv_at hl 0 rfl) ?_
        refine lv_iadd hx hb dX9_writeSong_72 ?_
        refine g_topi (y := 1082) (by decide) ?_
        refine lv_iload_n hx hb dX9_writeSong_73 rfl (lv_at hl 0 rfl) ?_
        refine g_calli (wr := [(aS, .inr (6, [.ref ce, .ref pl, .int (nI n), .int rs])), (ce, .inl (cI, 2048, .inl fc)), (pl, .inl (cI, 128, .inl fp)), (ta, .inr (7, [.ref tb, .int (nI 1082)])), (tb, .inl (cB, 9000, .inl (fput (fput fta La 1080 (mkv 0)) 1081 1081 (mkv 1))))]) (va_runS (As := [.int 2]) (rest := [.int 1082, .ref ta]) ⟨hx, hb, hml, hown, hts⟩ (c_mark l dC dI H.size 2 (by decide)) (va_cwS 1 hts (gG_S kw_475 kw_300 kw_30 kw_301) rfl rfl rfl (by decide +kernel) ⟨Nat.le_of_ble_eq_true rfl, Nat.le_of_ble_eq_true rfl⟩) (g_preS hP hD hK hS hA hN hZ [] (by decide) rfl [] rfl) rfl rfl hl.1 rfl (lv_room (Nat.le_of_ble_eq_true rfl)) dX9_writeSong_74 ⟨Nat.le_of_ble_eq_true rfl, Nat.le_of_ble_eq_true rfl⟩) hP hD hK hS hA [] [0, 1, 2, 3, 4] rfl rfl (by decide +kernel) (by decide +kernel) (fun r_74_3 w ty1 H locs hw_74 hP hD _ hS => ?_)
        rcases hw_74 with ⟨hu, hr_74⟩
        cases hu
        have hP : va_P (dC, dI) vwCl [(aS, .inr (6, [.ref ce, .ref pl, .int (nI n), .int rs])), (ce, .inl (cI, 2048, .inl fc)), (pl, .inl (cI, 128, .inl fp)), (ta, .inr (7, [.ref tb, .int (nI 1082)])), (tb, .inl (cB, 9000, .inl (fput (fput fta La 1080 (mkv 0)) 1081 1081 (mkv 1))))] H := hP
        have hD : va_D A [(aS, .inr (6, [.ref ce, .ref pl, .int (nI n), .int rs])), (ce, .inl (cI, 2048, .inl fc)), (pl, .inl (cI, 128, .inl fp)), (ta, .inr (7, [.ref tb, .int (nI 1082)])), (tb, .inl (cB, 9000, .inl (fput (fput fta La 1080 (mkv 0)) 1081 1081 (mkv 1))))] := hD
        refine g_topi (y := mkv 2) hr_74 ?_
        refine g_callv (wr := [(aS, .inr (6, [.ref ce, .ref pl, .int (nI n), .int rs])), (ce, .inl (cI, 2048, .inl fc)), (pl, .inl (cI, 128, .inl fp))]) (va_runV (As := [.int 1082, .int (mkv 2)]) (rest := []) ⟨hx, hb, hml, hown, hts⟩ (c_put l dC dI H.size ta tb cB (fput (fput fta La 1080 (mkv 0)) 1081 1081 (mkv 1)) 1082 1082 (mkv 2) 1083 (by omega) (by omega) (by omega)) (cwV 2 hts (gG_V kw_474 kw_243 kw_244 kw_18 kw_245) rfl rfl rfl (by decide +kernel) ⟨Nat.le_of_ble_eq_true rfl, Nat.le_of_ble_eq_true rfl⟩) (g_preV (C := RX7) (T := TX7) (N := 2) hP hD hK hS hA hN hZ (q0 := 3) rfl rfl [3, 4] (by decide +kernel) rfl [0] rfl) rfl rfl hl.1 rfl (lv_room (Nat.le_of_ble_eq_true rfl)) dX9_writeSong_77 ⟨Nat.le_of_ble_eq_true rfl, Nat.le_of_ble_eq_true rfl⟩) hP hD hK hS hA [3, 4] [0, 1, 2] rfl rfl (by decide +kernel) (by decide +kernel) (fun w ty1 H locs hw_77 hP hD _ hS => ?_)
        have hu := hw_77
        cases hu
        have hP : va_P (dC, dI) vwCl [(aS, .inr (6, [.ref ce, .ref pl, .int (nI n), .int rs])), (ce, .inl (cI, 2048, .inl fc)), (pl, .inl (cI, 128, .inl fp)), (ta, .inr (7, [.ref tb, .int (nI 1083)])), (tb, .inl (cB, 9000, .inl (fput (fput (fput fta La 1080 (mkv 0)) 1081 1081 (mkv 1)) 1082 1082 (mkv 2))))] H := hP
        have hD : va_D A [(aS, .inr (6, [.ref ce, .ref pl, .int (nI n), .int rs])), (ce, .inl (cI, 2048, .inl fc)), (pl, .inl (cI, 128, .inl fp)), (ta, .inr (7, [.ref tb, .int (nI 1083)])), (tb, .inl (cB, 9000, .inl (fput (fput (fput fta La 1080 (mkv 0)) 1081 1081 (mkv 1)) 1082 1082 (mkv 2))))] := hD
        have m2 := tp_app m1 (by decide) (hsm 2 (by decide)).symm
        refine lv_iinc (v := 3) (lv' := [(2, .int 3), (0, .ref ta), (1, .ref aS)]) hx hb dX9_writeSong_80 hl (k := 0) rfl (by decide) (by decide) rfl (fun ls hl => ?_)
        refine lv_goto (tgt := 62) hx hb dX9_writeSong_83 (by decide) ?_
        refine lv_iload_n hx hb dX9_writeSong_62 rfl (lv_at hl 0 rfl) ?_
        refine lv_iconst (v := 4) hx hb dX9_writeSong_63 (by decide) ?_
        refine lv_icmp_ge (tgt := 86) hx hb dX9_writeSong_64 (by decide) (fun c_64_4 => absurd c_64_4 (by decide)) (fun c_64_4 => ?_)
        refine lv_aload_n hx hb dX9_writeSong_67 rfl (lv_at hl 1 rfl) ?_
        refine lv_sipush (v := 1080) hx hb dX9_writeSong_68 (by decide) ?_
        refine lv_iload_n hx hb dX9_writeSong_71 rfl (lv_at hl 0 rfl) ?_
        refine lv_iadd hx hb dX9_writeSong_72 ?_
        refine g_topi (y := 1083) (by decide) ?_
        refine lv_iload_n hx hb dX9_writeSong_73 rfl (lv_at hl 0 rfl) ?_
        refine g_calli (wr := [(aS, .inr (6, [.ref ce, .ref pl, .int (nI n), .int rs])), (ce, .inl (cI, 2048, .inl fc)), (pl, .inl (cI, 128, .inl fp)), (ta, .inr (7, [.ref tb, .int (nI 1083)])), (tb, .inl (cB, 9000, .inl (fput (fput (fput fta La 1080 (mkv 0)) 1081 1081 (mkv 1)) 1082 1082 (mkv 2))))]) (va_runS (As := [.int 3]) (rest := [.int 1083, .ref ta]) ⟨hx, hb, hml, hown, hts⟩ (c_mark l dC dI H.size 3 (by decide)) (va_cwS 1 hts (gG_S kw_475 kw_300 kw_30 kw_301) rfl rfl rfl (by decide +kernel) ⟨Nat.le_of_ble_eq_true rfl, Nat.le_of_ble_eq_true rfl⟩) (g_preS hP hD hK hS hA hN hZ [] (by decide) rfl [] rfl) rfl rfl hl.1 rfl (lv_room (Nat.le_of_ble_eq_true rfl)) dX9_writeSong_74 ⟨Nat.le_of_ble_eq_true rfl, Nat.le_of_ble_eq_true rfl⟩) hP hD hK hS hA [] [0, 1, 2, 3, 4] rfl rfl (by decide +kernel) (by decide +kernel) (fun r_74_4 w ty1 H locs hw_74 hP hD _ hS => ?_)
        rcases hw_74 with ⟨hu, hr_74⟩
        cases hu
        have hP : va_P (dC, dI) vwCl [(aS, .inr (6, [.ref ce, .ref pl, .int (nI n), .int rs])), (ce, .inl (cI, 2048, .inl fc)), (pl, .inl (cI, 128, .inl fp)), (ta, .inr (7, [.ref tb, .int (nI 1083)])), (tb, .inl (cB, 9000, .inl (fput (fput (fput fta La 1080 (mkv 0)) 1081 1081 (mkv 1)) 1082 1082 (mkv 2))))] H := hP
        have hD : va_D A [(aS, .inr (6, [.ref ce, .ref pl, .int (nI n), .int rs])), (ce, .inl (cI, 2048, .inl fc)), (pl, .inl (cI, 128, .inl fp)), (ta, .inr (7, [.ref tb, .int (nI 1083)])), (tb, .inl (cB, 9000, .inl (fput (fput (fput fta La 1080 (mkv 0)) 1081 1081 (mkv 1)) 1082 1082 (mkv 2))))] := hD
        refine g_topi (y := mkv 3) hr_74 ?_
        refine g_callv (wr := [(aS, .inr (6, [.ref ce, .ref pl, .int (nI n), .int rs])), (ce, .inl (cI, 2048, .inl fc)), (pl, .inl (cI, 128, .inl fp))]) (va_runV (As := [.int 1083, .int (mkv 3)]) (rest := []) ⟨hx, hb, hml, hown, hts⟩ (c_put l dC dI H.size ta tb cB (fput (fput (fput fta La 1080 (mkv 0)) 1081 1081 (mkv 1)) 1082 1082 (mkv 2)) 1083 1083 (mkv 3) 1084 (by omega) (by omega) (by omega)) (cwV 2 hts (gG_V kw_474 kw_243 kw_244 kw_18 kw_245) rfl rfl rfl (by decide +kernel) ⟨Nat.le_of_ble_eq_true rfl, Nat.le_of_ble_eq_true rfl⟩) (g_preV (C := RX7) (T := TX7) (N := 2) hP hD hK hS hA hN hZ (q0 := 3) rfl rfl [3, 4] (by decide +kernel) rfl [0] rfl) rfl rfl hl.1 rfl (lv_room (Nat.le_of_ble_eq_true rfl)) dX9_writeSong_77 ⟨Nat.le_of_ble_eq_true rfl, Nat.le_of_ble_eq_true rfl⟩) hP hD hK hS hA [3, 4] [0, 1, 2] rfl rfl (by decide +kernel) (by decide +kernel) (fun w ty1 H locs hw_77 hP hD _ hS => ?_)
        have hu := hw_77
        cases hu
        have hP : va_P (dC, dI) vwCl [(aS, .inr (6, [.ref ce, .ref pl, .int (nI n), .int rs])), (ce, .inl (cI, 2048, .inl fc)), (pl, .inl (cI, 128, .inl fp)), (ta, .inr (7, [.ref tb, .int (nI 1084)])), (tb, .inl (cB, 9000, .inl (fput (fput (fput (fput fta La 1080 (mkv 0)) 1081 1081 (mkv 1)) 1082 1082 (mkv 2)) 1083 1083 (mkv 3))))] H := hP
        have hD : va_D A [(aS, .inr (6, [.ref ce, .ref pl, .int (nI n), .int rs])), (ce, .inl (cI, 2048, .inl fc)), (pl, .inl (cI, 128, .inl fp)), (ta, .inr (7, [.ref tb, .int (nI 1084)])), (tb, .inl (cB, 9000, .inl (fput (fput (fput (fput fta La 1080 (mkv 0)) 1081 1081 (mkv 1)) 1082 1082 (mkv 2)) 1083 1083 (mkv 3))))] := hD
        have m3 := tp_app m2 (by decide) (hsm 3 (by decide)).symm
        refine lv_iinc (v := 4) (lv' := [(2, .int 4), (0, .ref ta), (1, .ref aS)]) hx hb dX9_writeSong_80 hl (k := 0) rfl (by decide) (by decide) rfl (fun ls hl => ?_)
        refine lv_goto (tgt := 62) hx hb dX9_writeSong_83 (by decide) ?_
        refine lv_iload_n hx hb dX9_writeSong_62 rfl (lv_at hl 0 rfl) ?_
        refine lv_iconst (v := 4) hx hb dX9_writeSong_63 (by decide) ?_
        refine lv_icmp_ge (tgt := 86) hx hb dX9_writeSong_64 (by decide) (fun c_64_5 => ?_) (fun c_64_5 => absurd c_64_5 (by decide))
        refine lv_aload_n hx hb dX9_writeSong_86 rfl (lv_at hl 2 rfl) ?_
        refine g_calli (wr := [(ce, .inl (cI, 2048, .inl fc)), (ta, .inr (7, [.ref tb, .int (nI 1084)])), (tb, .inl (cB, 9000, .inl (fput (fput (fput (fput fta La 1080 (mkv 0)) 1081 1081 (mkv 1)) 1082 1082 (mkv 2)) 1083 1083 (mkv 3))))]) (va_runV (As := []) (rest := []) ⟨hx, hb, hml, hown, hts⟩ (x_count l dC dI H.size aS ce pl rs fp cI n pn (hn1) (hn2) (hpn) (fun jj hj => by have := hpb jj hj; omega)) (cwV 0 hts (gG_V kw_476 kw_347 kw_348 kw_26 kw_349) rfl rfl rfl (by decide +kernel) ⟨Nat.le_of_ble_eq_true rfl, Nat.le_of_ble_eq_true rfl⟩) (g_preV (C := RX6) (T := TX6) (N := 4) hP hD hK hS hA hN hZ (q0 := 0) rfl rfl [0, 2] (by decide +kernel) rfl [1] rfl) rfl rfl hl.1 rfl (lv_room (Nat.le_of_ble_eq_true rfl)) dX9_writeSong_87 ⟨Nat.le_of_ble_eq_true rfl, Nat.le_of_ble_eq_true rfl⟩) hP hD hK hS hA [0, 2] [1, 3, 4] rfl rfl (by decide +kernel) (by decide +kernel) (fun r_87 w ty1 H locs hw_87 hP hD _ hS => ?_)
        rcases hw_87 with ⟨hu, hr_87⟩
        cases hu
        have hP : va_P (dC, dI) vwCl [(ce, .inl (cI, 2048, .inl fc)), (ta, .inr (7, [.ref tb, .int (nI 1084)])), (tb, .inl (cB, 9000, .inl (fput (fput (fput (fput fta La 1080 (mkv 0)) 1081 1081 (mkv 1)) 1082 1082 (mkv 2)) 1083 1083 (mkv 3)))), (aS, .inr (6, [.ref ce, .ref pl, .int (nI n), .int rs])), (pl, .inl (cI, 128, .inl fp))] H := hP
        have hD : va_D A [(ce, .inl (cI, 2048, .inl fc)), (ta, .inr (7, [.ref tb, .int (nI 1084)])), (tb, .inl (cB, 9000, .inl (fput (fput (fput (fput fta La 1080 (mkv 0)) 1081 1081 (mkv 1)) 1082 1082 (mkv 2)) 1083 1083 (mkv 3)))), (aS, .inr (6, [.ref ce, .ref pl, .int (nI n), .int rs])), (pl, .inl (cI, 128, .inl fp))] := hD
        refine g_topi (y := nI (pmN pn n)) hr_87 ?_
        have hn8 : np ≤ 8 := by rw [enp]; exact pmN_le hpb
        refine g_topi (y := nI np) (up_e enp.symm) ?_
        refine lv_istore_n (lv' := [(2, .int (nI np)), (0, .ref ta), (1, .ref aS)]) hx hb dX9_writeSong_90 rfl hl (by decide) rfl (fun ls hl => ?_)
        refine lv_iconst (v := 0) hx hb dX9_writeSong_91 (by decide) ?_
        refine lv_istore_n (lv' := [(3, .int 0), (2, .int (nI np)), (0, .ref ta), (1, .ref aS)]) hx hb dX9_writeSong_92 rfl hl (by decide) rfl (fun ls hl => ?_)
        have LP93 : ∀ (fu93 : Nat) (q93 : Nat) (Lb : Nat) (ftb : Nat → Int32) (hq93a : q93 ≤ np) (eLb : Lb = 1084 + 1024 * q93) (htb : tpP SS 20 Lb ftb) (hm93 : np - q93 < fu93) (H : Heap) (locs : List Loc), va_P (dC, dI) vwCl [(ce, .inl (cI, 2048, .inl fc)), (ta, .inr (7, [.ref tb, .int (nI Lb)])), (tb, .inl (cB, 9000, .inl ftb)), (aS, .inr (6, [.ref ce, .ref pl, .int (nI n), .int rs])), (pl, .inl (cI, 128, .inl fp))] H → va_D A [(ce, .inl (cI, 2048, .inl fc)), (ta, .inr (7, [.ref tb, .int (nI Lb)])), (tb, .inl (cB, 9000, .inl ftb)), (aS, .inr (6, [.ref ce, .ref pl, .int (nI n), .int rs])), (pl, .inl (cI, 128, .inl fp))] → va_S A s.heap H locs → ∀ ls : Array Slot, lv_has ls 4 [(3, .int (nI q93)), (2, .int (nI np)), (0, .ref ta), (1, .ref aS)] → W p l e ({ frames := 4, cells := 0, slots := 0, locals := 93 }) s m ([.ref ta, .ref aS] : List Value).toArray below meth c H locs (0) (0) (MQ below (va_Qv (fun u : va_W × gT => ∃ (f2 : Nat → Int32), u = ([(ta, .inr (7, [.ref tb, .int (nI (1084 + 1024 * np))])), (tb, .inl (cB, 9000, .inl f2)), (aS, .inr (6, [.ref ce, .ref pl, .int (nI n), .int rs])), (ce, .inl (cI, 2048, .inl fc)), (pl, .inl (cI, 128, .inl fp))], []) ∧ tpP SS 20 (1084 + 1024 * np) f2) (gB (dC, dI) A) A) ([.ref ta, .ref aS] : List Value).toArray s 0 0 A) (F0 m 93 ls []) := by
          intro fu93
          induction fu93 with
          | zero => intro q93 Lb ftb hq93a eLb htb hm93; exact absurd hm93 (Nat.not_lt_zero _)
          | succ fu93 ih93 =>
            intro q93 Lb ftb hq93a eLb htb hm93 H locs hP hD hS ls hl
            refine lv_iload_n hx hb dX9_writeSong_93 rfl (lv_at hl 0 rfl) ?_
            refine lv_iload_n hx hb dX9_writeSong_94 rfl (lv_at hl 1 rfl) ?_
            refine lv_icmp_ge (tgt := 110) hx hb dX9_writeSong_95 (by decide) (fun c_95 => ?_) (fun c_95 => ?_)
            · have hqf : q93 = np := by have := nI_le' c_95 (by omega) (by omega); omega
              rw [show Lb = 1084 + 1024 * np by omega] at hP hD
              have hP9 := hP.sub (ws' := [(ta, .inr (7, [.ref tb, .int (nI (1084 + 1024 * np))])), (tb, .inl (cB, 9000, .inl ftb)), (aS, .inr (6, [.ref ce, .ref pl, .int (nI n), .int rs])), (ce, .inl (cI, 2048, .inl fc)), (pl, .inl (cI, 128, .inl fp))]) [1, 2, 3, 0, 4] rfl
              have hD9 := hD.sub (ws' := [(ta, .inr (7, [.ref tb, .int (nI (1084 + 1024 * np))])), (tb, .inl (cB, 9000, .inl ftb)), (aS, .inr (6, [.ref ce, .ref pl, .int (nI n), .int rs])), (ce, .inl (cI, 2048, .inl fc)), (pl, .inl (cI, 128, .inl fp))]) [1, 2, 3, 0, 4] (by decide +kernel) rfl
              have hK9 := hK.sub (tys' := []) [] rfl
              exact W.vret hx hb hr (fun t ht hW => ⟨⟨_, rfl, ⟨ftb, rfl, (tp_e htb rfl (by omega))⟩, by rw [ht]; exact hP9, va_K.moved hW.alike hK9, hD9⟩, hS.F ht⟩) hS.2.2 dX9_writeSong_110
            have hq93 : q93 < np := nI_nle' c_95 (by omega)
            refine lv_aload_n hx hb dX9_writeSong_98 rfl (lv_at hl 2 rfl) ?_
            refine lv_aload_n hx hb dX9_writeSong_99 rfl (lv_at hl 3 rfl) ?_
            refine lv_iload_n hx hb dX9_writeSong_100 rfl (lv_at hl 0 rfl) ?_
            refine g_callv (wr := [(pl, .inl (cI, 128, .inl fp))]) (va_runS (As := [.ref ta, .ref aS, .int (nI q93)]) (rest := []) ⟨hx, hb, hml, hown, hts⟩ (x_writePattern l dC dI H.size ta tb aS ce pl cB cI ftb fc SS (nI n) rs q93 Lb 20 (by omega) (eLb) (by omega) (htb) (fun cc oo h1 h2 => hcc cc oo (by omega) h2)) (va_cwS 3 hts (gG_S kw_477 kw_478 kw_469 kw_479) rfl rfl rfl (by decide +kernel) ⟨Nat.le_of_ble_eq_true rfl, Nat.le_of_ble_eq_true rfl⟩) (g_preS hP hD hK hS hA hN hZ [1, 2, 3, 0] (by decide +kernel) rfl [0, 1] rfl) rfl rfl hl.1 rfl (lv_room (Nat.le_of_ble_eq_true rfl)) dX9_writeSong_101 ⟨Nat.le_of_ble_eq_true rfl, Nat.le_of_ble_eq_true rfl⟩) hP hD hK hS hA [1, 2, 3, 0] [4] rfl rfl (by decide +kernel) (by decide +kernel) (fun w ty1 H locs hw_101 hP hD _ hS => ?_)
            rcases hw_101 with ⟨f2_101, hu, htp2_101⟩
            cases hu
            have hP : va_P (dC, dI) vwCl [(pl, .inl (cI, 128, .inl fp)), (ta, .inr (7, [.ref tb, .int (nI (Lb + 1024))])), (tb, .inl (cB, 9000, .inl f2_101)), (aS, .inr (6, [.ref ce, .ref pl, .int (nI n), .int rs])), (ce, .inl (cI, 2048, .inl fc))] H := hP
            have hD : va_D A [(pl, .inl (cI, 128, .inl fp)), (ta, .inr (7, [.ref tb, .int (nI (Lb + 1024))])), (tb, .inl (cB, 9000, .inl f2_101)), (aS, .inr (6, [.ref ce, .ref pl, .int (nI n), .int rs])), (ce, .inl (cI, 2048, .inl fc))] := hD
            refine lv_iinc (v := nI (q93 + 1)) (lv' := [(3, .int (nI (q93 + 1))), (2, .int (nI np)), (0, .ref ta), (1, .ref aS)]) hx hb dX9_writeSong_104 hl (k := 0) rfl (nI_1 q93) (by decide) rfl (fun ls hl => ?_)
            refine lv_goto (tgt := 93) hx hb dX9_writeSong_107 (by decide) ?_
            exact ih93 (q93 + 1) (Lb + 1024) f2_101 (by omega) (by omega) (htp2_101) (by omega) _ _ (hP.sub [4, 1, 2, 3, 0] rfl) (hD.sub [4, 1, 2, 3, 0] (by decide +kernel) rfl) hS _ (lv_sub hl [0, 1, 2, 3] rfl)
        exact LP93 _ 0 1084 (fput (fput (fput (fput fta La 1080 (mkv 0)) 1081 1081 (mkv 1)) 1082 1082 (mkv 2)) 1083 1083 (mkv 3)) (Nat.zero_le _) (rfl) (m3) (Nat.lt_succ_self _) _ _ hP hD hS _ (lv_sub hl [0, 1, 2, 3] rfl)
      have hq3 : q24 < n := nI_nle' c_29 (by omega)
      refine lv_aload_n hx hb dX9_writeSong_39 rfl (lv_at hl 1 rfl) ?_
      refine lv_sipush (v := 952) hx hb dX9_writeSong_40 (by decide) ?_
      refine lv_iload_n hx hb dX9_writeSong_43 rfl (lv_at hl 0 rfl) ?_
      refine lv_iadd hx hb dX9_writeSong_44 ?_
      refine g_topi (y := nI (952 + q24)) (nI_add 952 _) ?_
      refine lv_aload_n hx hb dX9_writeSong_45 rfl (lv_at hl 2 rfl) ?_
      refine va_get (D := (dC, dI)) (ci := 6) (v := .ref pl) (C := RX6) (T := TX6) (N := 4) hx hb hts iwX6 hown hK hP 0 rfl rfl 1 (by decide) (hts (.fieldLink RX9 26 "ModulePlayer$Score" "places" "[I") (List.mem_cons_of_mem _ kw_473)) (fun _ h9 => h9) rfl dX9_writeSong_46 ?_
      refine lv_iload_n hx hb dX9_writeSong_49 rfl (lv_at hl 0 rfl) ?_
      refine g_iald hx hb hK hP 2 1 rfl rfl q24 (nI_clamp (Nat.lt_trans (show q24 < 128 from by omega) (by decide))) (vp_in_nI (by omega) (by decide)) dX9_writeSong_50 ?_
      refine g_callv (wr := [(aS, .inr (6, [.ref ce, .ref pl, .int (nI n), .int rs])), (ce, .inl (cI, 2048, .inl fc)), (pl, .inl (cI, 128, .inl fp))]) (va_runV (As := [.int (nI (952 + q24)), .int (fp q24)]) (rest := []) ⟨hx, hb, hml, hown, hts⟩ (c_put l dC dI H.size ta tb cB fta La (952 + q24) (fp q24) (952 + (q24 + 1)) (by omega) (by omega) (by omega)) (cwV 2 hts (gG_V kw_474 kw_243 kw_244 kw_18 kw_245) rfl rfl rfl (by decide +kernel) ⟨Nat.le_of_ble_eq_true rfl, Nat.le_of_ble_eq_true rfl⟩) (g_preV (C := RX7) (T := TX7) (N := 2) hP hD hK hS hA hN hZ (q0 := 3) rfl rfl [3, 4] (by decide +kernel) rfl [0] rfl) rfl rfl hl.1 rfl (lv_room (Nat.le_of_ble_eq_true rfl)) dX9_writeSong_51 ⟨Nat.le_of_ble_eq_true rfl, Nat.le_of_ble_eq_true rfl⟩) hP hD hK hS hA [3, 4] [0, 1, 2] rfl rfl (by decide +kernel) (by decide +kernel) (fun w ty1 H locs hw_51 hP hD _ hS => ?_)
      have hu := hw_51
      cases hu
      have hP : va_P (dC, dI) vwCl [(aS, .inr (6, [.ref ce, .ref pl, .int (nI n), .int rs])), (ce, .inl (cI, 2048, .inl fc)), (pl, .inl (cI, 128, .inl fp)), (ta, .inr (7, [.ref tb, .int (nI (952 + (q24 + 1)))])), (tb, .inl (cB, 9000, .inl (fput fta La (952 + q24) (fp q24))))] H := hP
      have hD : va_D A [(aS, .inr (6, [.ref ce, .ref pl, .int (nI n), .int rs])), (ce, .inl (cI, 2048, .inl fc)), (pl, .inl (cI, 128, .inl fp)), (ta, .inr (7, [.ref tb, .int (nI (952 + (q24 + 1)))])), (tb, .inl (cB, 9000, .inl (fput fta La (952 + q24) (fp q24))))] := hD
      refine lv_iinc (v := nI (q24 + 1)) (lv' := [(2, .int (nI (q24 + 1))), (0, .ref ta), (1, .ref aS)]) hx hb dX9_writeSong_54 hl (k := 0) rfl (nI_1 q24) (by decide) rfl (fun ls hl => ?_)
      refine lv_goto (tgt := 24) hx hb dX9_writeSong_57 (by decide) ?_
      exact ih24 (q24 + 1) (952 + (q24 + 1)) (fput fta La (952 + q24) (fp q24)) (by omega) (rfl) (by have h3 := hsp q24 (by omega); rw [if_pos hq3] at h3; rw [← eLa] at h3 ⊢; exact tp_e (tp_app hta (by omega) h3.symm) rfl (by omega)) (by omega) _ _ hP hD hS _ (lv_sub hl [0, 1, 2] rfl)
  exact LP24 _ 0 952 (fput (fput f 0 950 (nI n)) 951 951 rs) (Nat.zero_le _) (rfl) (t2) (Nat.lt_succ_self _) _ _ hP hD hS _ (lv_sub hl [0, 1, 2] rfl)

