set_option maxHeartbeats 1000000 in
set_option maxRecDepth 100000 in
theorem lawc_423 {p : Program} {l : Launch} {e : Env} {s : State} {m : MethodId} {below : List Frame} {meth : Method} {c : Code} {b : Nat} {xs : Nat → Int32} {A : Nat → Prop} {dC : Nat → ClassId} {dI : Nat → Nat → Nat} {aT_9 : Nat} {aB_9 : Nat} {sa_9 : Nat} {bb_9 : Nat} {aS_9 : Nat} {aR_9 : Nat} {aF_9 : Nat} {aX_9 : Nat} {aC_9 : Nat} {ad_9 : Nat → Nat} {cB_9 : ClassId} {cS_9 : ClassId} {cI_9 : ClassId} {cJ_9 : ClassId} {cC_9 : ClassId} {g_9 : Nat → Option Nat} {qa_22 : Nat → Nat} {kk_22 : Nat} {cZ_22 : ClassId} {q_0 : Nat} {q_13 : Nat} {H : Heap} {locs : List Loc} {ls : Array Slot} (hx : p.tables.exec = Jvm.exec) (hb : c.code = code) (hr : meth.sig.returnType = ret) (hlocks : meth.locks = false) (hml : c.maxLocals = 4) (hown : s.vm.findClass RL = some m.cls) (hts : ∀ w ∈ wsG (Cond.initialized RX10), w.before #[Value.ref b] s = true) (hA : ∀ q : Nat, s.heap.size ≤ q → A q) (hAI : ∀ q : Nat, A q → s.heap.size ≤ q) (hbA : ¬ A b) (hN : gN s) (hZ : gZ A s s.heap) (hX : va_X b 7 xs s s.heap) (hbl : b < s.heap.size) (hg_9 : ∀ x, x < 32 → g_9 x = some (ad_9 x)) (hK : va_K (dC, dI) vwCl [(cB_9, .byte), (cS_9, .object RX5), (cI_9, .int), (cJ_9, .long), (cC_9, .object RX1), (cZ_22, .boolean)] s) (hP : va_P (dC, dI) vwCl ([(q_0, .inr (9, [.ref aT_9, .ref aB_9, .ref aS_9, .ref aR_9, .ref aF_9, .ref aC_9, .ref aX_9])), (aB_9, .inr (0, [.ref sa_9, .ref bb_9, .int 0])), (sa_9, .inl (cS_9, 32, .inr (.inr (.inr (.inr g_9))))), (bb_9, .inl (cB_9, 4000, .inl (fun _ => 0))), (q_13, .inr (10, mdF qa_22 (nI kk_22) 0 0 (-1) 1 0 6 125 (-1) (-1) (-1) 0 0 17 0 (-1) 0 0 0)), (qa_22 5, .inl (cI_9, 32, .inl (fun _ => 0)))] ++ famN 32 ad_9 (fun _ => 0) (fun _ => 0) (fun _ => 0) (fun _ => 0) (fun _ => 0) (fun _ => 0)) H) (hD : va_D A ([(q_0, .inr (9, [.ref aT_9, .ref aB_9, .ref aS_9, .ref aR_9, .ref aF_9, .ref aC_9, .ref aX_9])), (aB_9, .inr (0, [.ref sa_9, .ref bb_9, .int 0])), (sa_9, .inl (cS_9, 32, .inr (.inr (.inr (.inr g_9))))), (bb_9, .inl (cB_9, 4000, .inl (fun _ => 0))), (q_13, .inr (10, mdF qa_22 (nI kk_22) 0 0 (-1) 1 0 6 125 (-1) (-1) (-1) 0 0 17 0 (-1) 0 0 0)), (qa_22 5, .inl (cI_9, 32, .inl (fun _ => 0)))] ++ famN 32 ad_9 (fun _ => 0) (fun _ => 0) (fun _ => 0) (fun _ => 0) (fun _ => 0) (fun _ => 0))) (hS : va_S A s.heap H locs) (hl : lv_has ls 4 [(3, .int 1), (2, .ref q_13), (1, .ref q_0), (0, .ref b)]) : W p l e room_1 s m #[Value.ref b] below meth c H locs 95 104445 (lw_Z below #[Value.ref b] s) (F0 m 423 ls []) := by
  refine lv_aload_n hx hb dL_law_423 rfl (lv_at hl 2 rfl) ?_
  refine lv_aload_n hx hb dL_law_424 rfl (lv_at hl 3 rfl) ?_
  refine lv_iload_n hx hb dL_law_425 rfl (lv_at hl 0 rfl) ?_
  refine lv_iconst (v := 1) hx hb dL_law_426 (by decide) ?_
  refine lv_iadd hx hb dL_law_427 ?_
  refine g_topi (y := 2) (by decide) ?_
  refine g_sld hx hb hX hbl hbA hS 2 (by decide) (by unfold vp_in; decide) dL_law_428 ?_
  refine lv_aload_n hx hb dL_law_429 rfl (lv_at hl 3 rfl) ?_
  refine lv_iload_n hx hb dL_law_430 rfl (lv_at hl 0 rfl) ?_
  refine lv_iconst (v := 2) hx hb dL_law_431 (by decide) ?_
  refine lv_iadd hx hb dL_law_432 ?_
  refine g_topi (y := 3) (by decide) ?_
  refine g_sld hx hb hX hbl hbA hS 3 (by decide) (by unfold vp_in; decide) dL_law_433 ?_
  refine lv_aload_n hx hb dL_law_434 rfl (lv_at hl 3 rfl) ?_
  refine lv_iload_n hx hb dL_law_435 rfl (lv_at hl 0 rfl) ?_
  refine lv_iconst (v := 3) hx hb dL_law_436 (by decide) ?_
  refine lv_iadd hx hb dL_law_437 ?_
  refine g_topi (y := 4) (by decide) ?_
  refine g_sld hx hb hX hbl hbA hS 4 (by decide) (by unfold vp_in; decide) dL_law_438 ?_
  refine g_calliP (X := [(q_0, .inr (9, [.ref aT_9, .ref aB_9, .ref aS_9, .ref aR_9, .ref aF_9, .ref aC_9, .ref aX_9])), (aB_9, .inr (0, [.ref sa_9, .ref bb_9, .int 0])), (sa_9, .inl (cS_9, 32, .inr (.inr (.inr (.inr g_9))))), (bb_9, .inl (cB_9, 4000, .inl (fun _ => 0))), (q_13, .inr (10, mdF qa_22 (nI kk_22) 0 0 (-1) 1 0 6 125 (-1) (-1) (-1) 0 0 17 0 (-1) 0 0 0)), (qa_22 5, .inl (cI_9, 32, .inl (fun _ => 0)))]) (wr := [(q_13, .inr (10, mdF qa_22 (nI kk_22) 0 0 (-1) 1 0 6 125 (-1) (-1) (-1) 0 0 17 0 (-1) 0 0 0)), (qa_22 5, .inl (cI_9, 32, .inl (fun _ => 0)))]) (va_runV (As := [.int (xs 2), .int (xs 3), .int (xs 4)]) (rest := []) ⟨hx, hb, hml, hown, hts⟩ (f_wave l dC dI H.size q_0 aT_9 aB_9 aS_9 aR_9 aF_9 aC_9 aX_9 sa_9 bb_9 ad_9 cS_9 cB_9 g_9 (xs 2) (xs 3) (xs 4) (hg_9)) (cwV 3 hts (gG_V kw_558 kw_559 kw_560 kw_2 kw_561) rfl rfl rfl (by decide +kernel) ⟨Nat.le_of_ble_eq_true rfl, Nat.le_of_ble_eq_true rfl⟩) (g_preVP (X := [(q_0, .inr (9, [.ref aT_9, .ref aB_9, .ref aS_9, .ref aR_9, .ref aF_9, .ref aC_9, .ref aX_9])), (aB_9, .inr (0, [.ref sa_9, .ref bb_9, .int 0])), (sa_9, .inl (cS_9, 32, .inr (.inr (.inr (.inr g_9))))), (bb_9, .inl (cB_9, 4000, .inl (fun _ => 0))), (q_13, .inr (10, mdF qa_22 (nI kk_22) 0 0 (-1) 1 0 6 125 (-1) (-1) (-1) 0 0 17 0 (-1) 0 0 0)), (qa_22 5, .inl (cI_9, 32, .inl (fun _ => 0)))]) (C := RX10) (T := TX10) (N := 7) hP hD hK hS hA hN hZ (q0 := 0) rfl rfl [0, 1, 2, 3] (by decide) rfl [1, 0] rfl) rfl rfl hl.1 rfl (lv_room (Nat.le_of_ble_eq_true rfl)) dL_law_439 ⟨Nat.le_of_ble_eq_true rfl, Nat.le_of_ble_eq_true rfl⟩) hP hD hK hS hA [0, 1, 2, 3] [4, 5] rfl rfl (by decide) (by decide) (fun r_439 w ty1 H locs hw_439 hJ _ hS => ?_)
  rcases hw_439 with ⟨hu, hr_439⟩
  cases hu
  obtain ⟨hP, hD⟩ := hJ _ [] (List.append_nil _).symm
  have hP : va_P (dC, dI) vwCl [(q_13, .inr (10, mdF qa_22 (nI kk_22) 0 0 (-1) 1 0 6 125 (-1) (-1) (-1) 0 0 17 0 (-1) 0 0 0)), (qa_22 5, .inl (cI_9, 32, .inl (fun _ => 0)))] H := hP
  have hD : va_D A [(q_13, .inr (10, mdF qa_22 (nI kk_22) 0 0 (-1) 1 0 6 125 (-1) (-1) (-1) 0 0 17 0 (-1) 0 0 0)), (qa_22 5, .inl (cI_9, 32, .inl (fun _ => 0)))] := hD
  refine g_topi (y := 0) hr_439 ?_
  refine lv_aload_n hx hb dL_law_442 rfl (lv_at hl 1 rfl) ?_
  refine lv_aload_n hx hb dL_law_443 rfl (lv_at hl 3 rfl) ?_
  refine lv_iload_n hx hb dL_law_444 rfl (lv_at hl 0 rfl) ?_
  refine lv_iconst (v := 1) hx hb dL_law_445 (by decide) ?_
  refine lv_iadd hx hb dL_law_446 ?_
  refine g_topi (y := 2) (by decide) ?_
  refine g_sld hx hb hX hbl hbA hS 2 (by decide) (by unfold vp_in; decide) dL_law_447 ?_
  refine lv_aload_n hx hb dL_law_448 rfl (lv_at hl 3 rfl) ?_
  refine lv_iload_n hx hb dL_law_449 rfl (lv_at hl 0 rfl) ?_
  refine lv_iconst (v := 2) hx hb dL_law_450 (by decide) ?_
  refine lv_iadd hx hb dL_law_451 ?_
  refine g_topi (y := 3) (by decide) ?_
  refine g_sld hx hb hX hbl hbA hS 3 (by decide) (by unfold vp_in; decide) dL_law_452 ?_
  refine lv_aload_n hx hb dL_law_453 rfl (lv_at hl 3 rfl) ?_
  refine lv_iload_n hx hb dL_law_454 rfl (lv_at hl 0 rfl) ?_
  refine lv_iconst (v := 3) hx hb dL_law_455 (by decide) ?_
  refine lv_iadd hx hb dL_law_456 ?_
  refine g_topi (y := 4) (by decide) ?_
  refine g_sld hx hb hX hbl hbA hS 4 (by decide) (by unfold vp_in; decide) dL_law_457 ?_
  refine g_calli (wr := []) (va_runV (As := [.int (xs 2), .int (xs 3), .int (xs 4)]) (rest := [.int 0]) ⟨hx, hb, hml, hown, hts⟩ (mf_wave l dC dI H.size q_13 qa_22 kk_22 cI_9 (xs 2) (xs 3) (xs 4) ) (cwV 3 hts (gG_V kw_563 kw_564 kw_565 kw_5 kw_566) rfl rfl rfl (by decide +kernel) ⟨Nat.le_of_ble_eq_true rfl, Nat.le_of_ble_eq_true rfl⟩) (g_preV (C := RX11) (T := TX11) (N := 53) hP hD hK hS hA hN hZ (q0 := 0) rfl rfl [0, 1] (by decide) rfl [2] rfl) rfl rfl hl.1 rfl (lv_room (Nat.le_of_ble_eq_true rfl)) dL_law_458 ⟨Nat.le_of_ble_eq_true rfl, Nat.le_of_ble_eq_true rfl⟩) hP hD hK hS hA [0, 1] [] rfl rfl (by decide) (by decide) (fun r_458 w ty1 H locs hw_458 hP hD _ hS => ?_)
  rcases hw_458 with ⟨hu, hr_458⟩
  cases hu
  have hP : va_P (dC, dI) vwCl [] H := hP
  have hD : va_D A [] := hD
  refine g_topi (y := 0) hr_458 ?_
  refine lv_icmp_eq (tgt := 800) hx hb dL_law_461 (by decide) (fun c_461 => ?_) (fun c_461 => absurd c_461 (by decide))
  refine lv_iinc (v := 7) (lv' := [(3, .int 7), (2, .ref q_13), (1, .ref q_0), (0, .ref b)]) hx hb dL_law_800 hl (k := 0) rfl (by decide) (by decide) rfl (fun ls hl => ?_)
  refine lv_goto (tgt := 28) hx hb dL_law_803 (by decide) ?_
  refine lv_iload_n hx hb dL_law_28 rfl (lv_at hl 0 rfl) ?_
  refine lv_aload_n hx hb dL_law_29 rfl (lv_at hl 3 rfl) ?_
  refine va_slen hx hb hX hbl hbA hS dL_law_30 ?_
  refine g_topi (y := 7) rfl ?_
  refine lv_bipush (v := 6) hx hb dL_law_31 (by decide) ?_
  refine lv_isub hx hb dL_law_33 ?_
  refine g_topi (y := 1) (by decide) ?_
  refine lv_icmp_gt (tgt := 806) hx hb dL_law_34 (by decide) (fun c_34_2 => ?_) (fun c_34_2 => absurd c_34_2 (by decide))
  refine lv_iconst (v := 1) hx hb dL_law_806 (by decide) ?_
  refine va_forget (fun q hq => hAI _ (hS.2.2 q hq)) ?_
  refine W.widen (k := 600000) (n := 7302250) (Nat.le_of_ble_eq_true rfl) (Nat.le_of_ble_eq_true rfl) ?_
  exact lw_ret hx hb hr hlocks dL_law_807

set_option maxHeartbeats 1000000 in
set_option maxRecDepth 100000 in
theorem lawc_466 {p : Program} {l : Launch} {e : Env} {s : State} {m : MethodId} {below : List Frame} {meth : Method} {c : Code} {b : Nat} {xs : Nat → Int32} {A : Nat → Prop} {dC : Nat → ClassId} {dI : Nat → Nat → Nat} {aT_9 : Nat} {aB_9 : Nat} {aS_9 : Nat} {ce_9 : Nat} {pl_9 : Nat} {aR_9 : Nat} {aF_9 : Nat} {aX_9 : Nat} {aC_9 : Nat} {cB_9 : ClassId} {cS_9 : ClassId} {cI_9 : ClassId} {cJ_9 : ClassId} {cC_9 : ClassId} {qa_22 : Nat → Nat} {kk_22 : Nat} {cZ_22 : ClassId} {q_0 : Nat} {q_13 : Nat} {H : Heap} {locs : List Loc} {ls : Array Slot} (hx : p.tables.exec = Jvm.exec) (hb : c.code = code) (hr : meth.sig.returnType = ret) (hlocks : meth.locks = false) (hml : c.maxLocals = 4) (hown : s.vm.findClass RL = some m.cls) (hts : ∀ w ∈ wsG (Cond.initialized RX10), w.before #[Value.ref b] s = true) (hA : ∀ q : Nat, s.heap.size ≤ q → A q) (hAI : ∀ q : Nat, A q → s.heap.size ≤ q) (hbA : ¬ A b) (hN : gN s) (hZ : gZ A s s.heap) (hX : va_X b 7 xs s s.heap) (hbl : b < s.heap.size) (hK : va_K (dC, dI) vwCl [(cB_9, .byte), (cS_9, .object RX5), (cI_9, .int), (cJ_9, .long), (cC_9, .object RX1), (cZ_22, .boolean)] s) (hP : va_P (dC, dI) vwCl [(q_0, .inr (9, [.ref aT_9, .ref aB_9, .ref aS_9, .ref aR_9, .ref aF_9, .ref aC_9, .ref aX_9])), (aS_9, .inr (6, [.ref ce_9, .ref pl_9, .int 1, .int 0])), (ce_9, .inl (cI_9, 2048, .inl (fun _ => 0))), (pl_9, .inl (cI_9, 128, .inl (fun _ => 0))), (q_13, .inr (10, mdF qa_22 (nI kk_22) 0 0 (-1) 1 0 6 125 (-1) (-1) (-1) 0 0 17 0 (-1) 0 0 0)), (qa_22 11, .inl (cI_9, 2048, .inl (fun _ => 0)))] H) (hD : va_D A [(q_0, .inr (9, [.ref aT_9, .ref aB_9, .ref aS_9, .ref aR_9, .ref aF_9, .ref aC_9, .ref aX_9])), (aS_9, .inr (6, [.ref ce_9, .ref pl_9, .int 1, .int 0])), (ce_9, .inl (cI_9, 2048, .inl (fun _ => 0))), (pl_9, .inl (cI_9, 128, .inl (fun _ => 0))), (q_13, .inr (10, mdF qa_22 (nI kk_22) 0 0 (-1) 1 0 6 125 (-1) (-1) (-1) 0 0 17 0 (-1) 0 0 0)), (qa_22 11, .inl (cI_9, 2048, .inl (fun _ => 0)))]) (hS : va_S A s.heap H locs) (hl : lv_has ls 4 [(3, .int 1), (2, .ref q_13), (1, .ref q_0), (0, .ref b)]) : W p l e room_1 s m #[Value.ref b] below meth c H locs 95 104445 (lw_Z below #[Value.ref b] s) (F0 m 466 ls []) := by
  refine lv_aload_n hx hb dL_law_466 rfl (lv_at hl 2 rfl) ?_
  refine lv_aload_n hx hb dL_law_467 rfl (lv_at hl 3 rfl) ?_
  refine lv_iload_n hx hb dL_law_468 rfl (lv_at hl 0 rfl) ?_
  refine lv_iconst (v := 1) hx hb dL_law_469 (by decide) ?_
  refine lv_iadd hx hb dL_law_470 ?_
  refine g_topi (y := 2) (by decide) ?_
  refine g_sld hx hb hX hbl hbA hS 2 (by decide) (by unfold vp_in; decide) dL_law_471 ?_
  refine lv_aload_n hx hb dL_law_472 rfl (lv_at hl 3 rfl) ?_
  refine lv_iload_n hx hb dL_law_473 rfl (lv_at hl 0 rfl) ?_
  refine lv_iconst (v := 2) hx hb dL_law_474 (by decide) ?_
  refine lv_iadd hx hb dL_law_475 ?_
  refine g_topi (y := 3) (by decide) ?_
  refine g_sld hx hb hX hbl hbA hS 3 (by decide) (by unfold vp_in; decide) dL_law_476 ?_
  refine lv_aload_n hx hb dL_law_477 rfl (lv_at hl 3 rfl) ?_
  refine lv_iload_n hx hb dL_law_478 rfl (lv_at hl 0 rfl) ?_
  refine lv_iconst (v := 3) hx hb dL_law_479 (by decide) ?_
  refine lv_iadd hx hb dL_law_480 ?_
  refine g_topi (y := 4) (by decide) ?_
  refine g_sld hx hb hX hbl hbA hS 4 (by decide) (by unfold vp_in; decide) dL_law_481 ?_
  refine lv_aload_n hx hb dL_law_482 rfl (lv_at hl 3 rfl) ?_
  refine lv_iload_n hx hb dL_law_483 rfl (lv_at hl 0 rfl) ?_
  refine lv_iconst (v := 4) hx hb dL_law_484 (by decide) ?_
  refine lv_iadd hx hb dL_law_485 ?_
  refine g_topi (y := 5) (by decide) ?_
  refine g_sld hx hb hX hbl hbA hS 5 (by decide) (by unfold vp_in; decide) dL_law_486 ?_
  refine g_calli (wr := [(q_13, .inr (10, mdF qa_22 (nI kk_22) 0 0 (-1) 1 0 6 125 (-1) (-1) (-1) 0 0 17 0 (-1) 0 0 0)), (qa_22 11, .inl (cI_9, 2048, .inl (fun _ => 0)))]) (va_runV (As := [.int (xs 2), .int (xs 3), .int (xs 4), .int (xs 5)]) (rest := []) ⟨hx, hb, hml, hown, hts⟩ (f_cell l dC dI H.size q_0 aT_9 aB_9 aS_9 aR_9 aF_9 aC_9 aX_9 ce_9 pl_9 cI_9 (xs 2) (xs 3) (xs 4) (xs 5) ) (cwV 4 hts (gG_V kw_567 kw_568 kw_569 kw_2 kw_570) rfl rfl rfl (by decide +kernel) ⟨Nat.le_of_ble_eq_true rfl, Nat.le_of_ble_eq_true rfl⟩) (g_preV (C := RX10) (T := TX10) (N := 7) hP hD hK hS hA hN hZ (q0 := 0) rfl rfl [0, 1, 2, 3] (by decide) rfl [2] rfl) rfl rfl hl.1 rfl (lv_room (Nat.le_of_ble_eq_true rfl)) dL_law_487 ⟨Nat.le_of_ble_eq_true rfl, Nat.le_of_ble_eq_true rfl⟩) hP hD hK hS hA [0, 1, 2, 3] [4, 5] rfl rfl (by decide) (by decide) (fun r_487 w ty1 H locs hw_487 hP hD _ hS => ?_)
  rcases hw_487 with ⟨hu, hr_487⟩
  cases hu
  have hP : va_P (dC, dI) vwCl [(q_13, .inr (10, mdF qa_22 (nI kk_22) 0 0 (-1) 1 0 6 125 (-1) (-1) (-1) 0 0 17 0 (-1) 0 0 0)), (qa_22 11, .inl (cI_9, 2048, .inl (fun _ => 0)))] H := hP
  have hD : va_D A [(q_13, .inr (10, mdF qa_22 (nI kk_22) 0 0 (-1) 1 0 6 125 (-1) (-1) (-1) 0 0 17 0 (-1) 0 0 0)), (qa_22 11, .inl (cI_9, 2048, .inl (fun _ => 0)))] := hD
  refine g_topi (y := bF (cellsP (xs 2) (xs 3) (xs 4) ∧ 0 ≤ (xs 5) ∧ (xs 5) ≤ 536870911)) hr_487 ?_
  refine lv_aload_n hx hb dL_law_490 rfl (lv_at hl 1 rfl) ?_
  refine lv_aload_n hx hb dL_law_491 rfl (lv_at hl 3 rfl) ?_
  refine lv_iload_n hx hb dL_law_492 rfl (lv_at hl 0 rfl) ?_
  refine lv_iconst (v := 1) hx hb dL_law_493 (by decide) ?_
  refine lv_iadd hx hb dL_law_494 ?_
  refine g_topi (y := 2) (by decide) ?_
  refine g_sld hx hb hX hbl hbA hS 2 (by decide) (by unfold vp_in; decide) dL_law_495 ?_
  refine lv_aload_n hx hb dL_law_496 rfl (lv_at hl 3 rfl) ?_
  refine lv_iload_n hx hb dL_law_497 rfl (lv_at hl 0 rfl) ?_
  refine lv_iconst (v := 2) hx hb dL_law_498 (by decide) ?_
  refine lv_iadd hx hb dL_law_499 ?_
  refine g_topi (y := 3) (by decide) ?_
  refine g_sld hx hb hX hbl hbA hS 3 (by decide) (by unfold vp_in; decide) dL_law_500 ?_
  refine lv_aload_n hx hb dL_law_501 rfl (lv_at hl 3 rfl) ?_
  refine lv_iload_n hx hb dL_law_502 rfl (lv_at hl 0 rfl) ?_
  refine lv_iconst (v := 3) hx hb dL_law_503 (by decide) ?_
  refine lv_iadd hx hb dL_law_504 ?_
  refine g_topi (y := 4) (by decide) ?_
  refine g_sld hx hb hX hbl hbA hS 4 (by decide) (by unfold vp_in; decide) dL_law_505 ?_
  refine lv_aload_n hx hb dL_law_506 rfl (lv_at hl 3 rfl) ?_
  refine lv_iload_n hx hb dL_law_507 rfl (lv_at hl 0 rfl) ?_
  refine lv_iconst (v := 4) hx hb dL_law_508 (by decide) ?_
  refine lv_iadd hx hb dL_law_509 ?_
  refine g_topi (y := 5) (by decide) ?_
  refine g_sld hx hb hX hbl hbA hS 5 (by decide) (by unfold vp_in; decide) dL_law_510 ?_
  refine g_calli (wr := []) (va_runV (As := [.int (xs 2), .int (xs 3), .int (xs 4), .int (xs 5)]) (rest := [.int (bF (cellsP (xs 2) (xs 3) (xs 4) ∧ 0 ≤ (xs 5) ∧ (xs 5) ≤ 536870911))]) ⟨hx, hb, hml, hown, hts⟩ (mf_cell l dC dI H.size q_13 qa_22 kk_22 cI_9 (xs 2) (xs 3) (xs 4) (xs 5) ) (cwV 4 hts (gG_V kw_574 kw_575 kw_576 kw_5 kw_577) rfl rfl rfl (by decide +kernel) ⟨Nat.le_of_ble_eq_true rfl, Nat.le_of_ble_eq_true rfl⟩) (g_preV (C := RX11) (T := TX11) (N := 53) hP hD hK hS hA hN hZ (q0 := 0) rfl rfl [0, 1] (by decide) rfl [2] rfl) rfl rfl hl.1 rfl (lv_room (Nat.le_of_ble_eq_true rfl)) dL_law_511 ⟨Nat.le_of_ble_eq_true rfl, Nat.le_of_ble_eq_true rfl⟩) hP hD hK hS hA [0, 1] [] rfl rfl (by decide) (by decide) (fun r_511 w ty1 H locs hw_511 hP hD _ hS => ?_)
  rcases hw_511 with ⟨hu, hr_511⟩
  cases hu
  have hP : va_P (dC, dI) vwCl [] H := hP
  have hD : va_D A [] := hD
  refine g_topi (y := bF (cellsP (xs 2) (xs 3) (xs 4) ∧ 0 ≤ (xs 5) ∧ (xs 5) ≤ 536870911)) hr_511 ?_
  refine lv_icmp_eq (tgt := 800) hx hb dL_law_514 (by decide) (fun c_514 => ?_) (fun c_514 => absurd rfl c_514)
  refine lv_iinc (v := 7) (lv' := [(3, .int 7), (2, .ref q_13), (1, .ref q_0), (0, .ref b)]) hx hb dL_law_800 hl (k := 0) rfl (by decide) (by decide) rfl (fun ls hl => ?_)
  refine lv_goto (tgt := 28) hx hb dL_law_803 (by decide) ?_
  refine lv_iload_n hx hb dL_law_28 rfl (lv_at hl 0 rfl) ?_
  refine lv_aload_n hx hb dL_law_29 rfl (lv_at hl 3 rfl) ?_
  refine va_slen hx hb hX hbl hbA hS dL_law_30 ?_
  refine g_topi (y := 7) rfl ?_
  refine lv_bipush (v := 6) hx hb dL_law_31 (by decide) ?_
  refine lv_isub hx hb dL_law_33 ?_
  refine g_topi (y := 1) (by decide) ?_
  refine lv_icmp_gt (tgt := 806) hx hb dL_law_34 (by decide) (fun c_34_2 => ?_) (fun c_34_2 => absurd c_34_2 (by decide))
  refine lv_iconst (v := 1) hx hb dL_law_806 (by decide) ?_
  refine va_forget (fun q hq => hAI _ (hS.2.2 q hq)) ?_
  refine W.widen (k := 600000) (n := 7302250) (Nat.le_of_ble_eq_true rfl) (Nat.le_of_ble_eq_true rfl) ?_
  exact lw_ret hx hb hr hlocks dL_law_807

set_option maxHeartbeats 1000000 in
set_option maxRecDepth 100000 in
theorem lawc_519 {p : Program} {l : Launch} {e : Env} {s : State} {m : MethodId} {below : List Frame} {meth : Method} {c : Code} {b : Nat} {xs : Nat → Int32} {A : Nat → Prop} {dC : Nat → ClassId} {dI : Nat → Nat → Nat} {aT_9 : Nat} {aB_9 : Nat} {aS_9 : Nat} {ce_9 : Nat} {pl_9 : Nat} {aR_9 : Nat} {aF_9 : Nat} {aX_9 : Nat} {aC_9 : Nat} {cB_9 : ClassId} {cS_9 : ClassId} {cI_9 : ClassId} {cJ_9 : ClassId} {cC_9 : ClassId} {qa_22 : Nat → Nat} {kk_22 : Nat} {cZ_22 : ClassId} {q_0 : Nat} {q_13 : Nat} {H : Heap} {locs : List Loc} {ls : Array Slot} (hx : p.tables.exec = Jvm.exec) (hb : c.code = code) (hr : meth.sig.returnType = ret) (hlocks : meth.locks = false) (hml : c.maxLocals = 4) (hown : s.vm.findClass RL = some m.cls) (hts : ∀ w ∈ wsG (Cond.initialized RX10), w.before #[Value.ref b] s = true) (hA : ∀ q : Nat, s.heap.size ≤ q → A q) (hAI : ∀ q : Nat, A q → s.heap.size ≤ q) (hbA : ¬ A b) (hN : gN s) (hZ : gZ A s s.heap) (hX : va_X b 7 xs s s.heap) (hbl : b < s.heap.size) (hK : va_K (dC, dI) vwCl [(cB_9, .byte), (cS_9, .object RX5), (cI_9, .int), (cJ_9, .long), (cC_9, .object RX1), (cZ_22, .boolean)] s) (hP : va_P (dC, dI) vwCl [(q_0, .inr (9, [.ref aT_9, .ref aB_9, .ref aS_9, .ref aR_9, .ref aF_9, .ref aC_9, .ref aX_9])), (aS_9, .inr (6, [.ref ce_9, .ref pl_9, .int 1, .int 0])), (ce_9, .inl (cI_9, 2048, .inl (fun _ => 0))), (pl_9, .inl (cI_9, 128, .inl (fun _ => 0))), (q_13, .inr (10, mdF qa_22 (nI kk_22) 0 0 (-1) 1 0 6 125 (-1) (-1) (-1) 0 0 17 0 (-1) 0 0 0)), (qa_22 11, .inl (cI_9, 2048, .inl (fun _ => 0)))] H) (hD : va_D A [(q_0, .inr (9, [.ref aT_9, .ref aB_9, .ref aS_9, .ref aR_9, .ref aF_9, .ref aC_9, .ref aX_9])), (aS_9, .inr (6, [.ref ce_9, .ref pl_9, .int 1, .int 0])), (ce_9, .inl (cI_9, 2048, .inl (fun _ => 0))), (pl_9, .inl (cI_9, 128, .inl (fun _ => 0))), (q_13, .inr (10, mdF qa_22 (nI kk_22) 0 0 (-1) 1 0 6 125 (-1) (-1) (-1) 0 0 17 0 (-1) 0 0 0)), (qa_22 11, .inl (cI_9, 2048, .inl (fun _ => 0)))]) (hS : va_S A s.heap H locs) (hl : lv_has ls 4 [(3, .int 1), (2, .ref q_13), (1, .ref q_0), (0, .ref b)]) : W p l e room_1 s m #[Value.ref b] below meth c H locs 95 104445 (lw_Z below #[Value.ref b] s) (F0 m 519 ls []) := by
  refine lv_aload_n hx hb dL_law_519 rfl (lv_at hl 2 rfl) ?_
  refine lv_aload_n hx hb dL_law_520 rfl (lv_at hl 3 rfl) ?_
  refine lv_iload_n hx hb dL_law_521 rfl (lv_at hl 0 rfl) ?_
  refine lv_iconst (v := 1) hx hb dL_law_522 (by decide) ?_
  refine lv_iadd hx hb dL_law_523 ?_
  refine g_topi (y := 2) (by decide) ?_
  refine g_sld hx hb hX hbl hbA hS 2 (by decide) (by unfold vp_in; decide) dL_law_524 ?_
  refine lv_aload_n hx hb dL_law_525 rfl (lv_at hl 3 rfl) ?_
  refine lv_iload_n hx hb dL_law_526 rfl (lv_at hl 0 rfl) ?_
  refine lv_iconst (v := 2) hx hb dL_law_527 (by decide) ?_
  refine lv_iadd hx hb dL_law_528 ?_
  refine g_topi (y := 3) (by decide) ?_
  refine g_sld hx hb hX hbl hbA hS 3 (by decide) (by unfold vp_in; decide) dL_law_529 ?_
  refine lv_aload_n hx hb dL_law_530 rfl (lv_at hl 3 rfl) ?_
  refine lv_iload_n hx hb dL_law_531 rfl (lv_at hl 0 rfl) ?_
  refine lv_iconst (v := 3) hx hb dL_law_532 (by decide) ?_
  refine lv_iadd hx hb dL_law_533 ?_
  refine g_topi (y := 4) (by decide) ?_
  refine g_sld hx hb hX hbl hbA hS 4 (by decide) (by unfold vp_in; decide) dL_law_534 ?_
  refine g_calli (wr := [(q_13, .inr (10, mdF qa_22 (nI kk_22) 0 0 (-1) 1 0 6 125 (-1) (-1) (-1) 0 0 17 0 (-1) 0 0 0)), (qa_22 11, .inl (cI_9, 2048, .inl (fun _ => 0)))]) (va_runV (As := [.int (xs 2), .int (xs 3), .int (xs 4)]) (rest := []) ⟨hx, hb, hml, hown, hts⟩ (f_cellOf l dC dI H.size q_0 aT_9 aB_9 aS_9 aR_9 aF_9 aC_9 aX_9 ce_9 pl_9 cI_9 (xs 2) (xs 3) (xs 4) ) (cwV 3 hts (gG_V kw_582 kw_583 kw_584 kw_2 kw_585) rfl rfl rfl (by decide +kernel) ⟨Nat.le_of_ble_eq_true rfl, Nat.le_of_ble_eq_true rfl⟩) (g_preV (C := RX10) (T := TX10) (N := 7) hP hD hK hS hA hN hZ (q0 := 0) rfl rfl [0, 1, 2, 3] (by decide) rfl [2] rfl) rfl rfl hl.1 rfl (lv_room (Nat.le_of_ble_eq_true rfl)) dL_law_535 ⟨Nat.le_of_ble_eq_true rfl, Nat.le_of_ble_eq_true rfl⟩) hP hD hK hS hA [0, 1, 2, 3] [4, 5] rfl rfl (by decide) (by decide) (fun r_535 w ty1 H locs hw_535 hP hD _ hS => ?_)
  rcases hw_535 with ⟨hu, hr_535⟩
  cases hu
  have hP : va_P (dC, dI) vwCl [(q_13, .inr (10, mdF qa_22 (nI kk_22) 0 0 (-1) 1 0 6 125 (-1) (-1) (-1) 0 0 17 0 (-1) 0 0 0)), (qa_22 11, .inl (cI_9, 2048, .inl (fun _ => 0)))] H := hP
  have hD : va_D A [(q_13, .inr (10, mdF qa_22 (nI kk_22) 0 0 (-1) 1 0 6 125 (-1) (-1) (-1) 0 0 17 0 (-1) 0 0 0)), (qa_22 11, .inl (cI_9, 2048, .inl (fun _ => 0)))] := hD
  refine g_topi (y := cofF (xs 2) (xs 3) (xs 4)) hr_535 ?_
  refine lv_aload_n hx hb dL_law_538 rfl (lv_at hl 1 rfl) ?_
  refine lv_aload_n hx hb dL_law_539 rfl (lv_at hl 3 rfl) ?_
  refine lv_iload_n hx hb dL_law_540 rfl (lv_at hl 0 rfl) ?_
  refine lv_iconst (v := 1) hx hb dL_law_541 (by decide) ?_
  refine lv_iadd hx hb dL_law_542 ?_
  refine g_topi (y := 2) (by decide) ?_
  refine g_sld hx hb hX hbl hbA hS 2 (by decide) (by unfold vp_in; decide) dL_law_543 ?_
  refine lv_aload_n hx hb dL_law_544 rfl (lv_at hl 3 rfl) ?_
  refine lv_iload_n hx hb dL_law_545 rfl (lv_at hl 0 rfl) ?_
  refine lv_iconst (v := 2) hx hb dL_law_546 (by decide) ?_
  refine lv_iadd hx hb dL_law_547 ?_
  refine g_topi (y := 3) (by decide) ?_
  refine g_sld hx hb hX hbl hbA hS 3 (by decide) (by unfold vp_in; decide) dL_law_548 ?_
  refine lv_aload_n hx hb dL_law_549 rfl (lv_at hl 3 rfl) ?_
  refine lv_iload_n hx hb dL_law_550 rfl (lv_at hl 0 rfl) ?_
  refine lv_iconst (v := 3) hx hb dL_law_551 (by decide) ?_
  refine lv_iadd hx hb dL_law_552 ?_
  refine g_topi (y := 4) (by decide) ?_
  refine g_sld hx hb hX hbl hbA hS 4 (by decide) (by unfold vp_in; decide) dL_law_553 ?_
  refine g_calli (wr := []) (va_runV (As := [.int (xs 2), .int (xs 3), .int (xs 4)]) (rest := [.int (cofF (xs 2) (xs 3) (xs 4))]) ⟨hx, hb, hml, hown, hts⟩ (mf_cellOf l dC dI H.size q_13 qa_22 kk_22 cI_9 (xs 2) (xs 3) (xs 4) ) (cwV 3 hts (gG_V kw_587 kw_588 kw_589 kw_5 kw_590) rfl rfl rfl (by decide +kernel) ⟨Nat.le_of_ble_eq_true rfl, Nat.le_of_ble_eq_true rfl⟩) (g_preV (C := RX11) (T := TX11) (N := 53) hP hD hK hS hA hN hZ (q0 := 0) rfl rfl [0, 1] (by decide) rfl [2] rfl) rfl rfl hl.1 rfl (lv_room (Nat.le_of_ble_eq_true rfl)) dL_law_554 ⟨Nat.le_of_ble_eq_true rfl, Nat.le_of_ble_eq_true rfl⟩) hP hD hK hS hA [0, 1] [] rfl rfl (by decide) (by decide) (fun r_554 w ty1 H locs hw_554 hP hD _ hS => ?_)
  rcases hw_554 with ⟨hu, hr_554⟩
  cases hu
  have hP : va_P (dC, dI) vwCl [] H := hP
  have hD : va_D A [] := hD
  refine g_topi (y := cofF (xs 2) (xs 3) (xs 4)) hr_554 ?_
  refine lv_icmp_eq (tgt := 800) hx hb dL_law_557 (by decide) (fun c_557 => ?_) (fun c_557 => absurd rfl c_557)
  refine lv_iinc (v := 7) (lv' := [(3, .int 7), (2, .ref q_13), (1, .ref q_0), (0, .ref b)]) hx hb dL_law_800 hl (k := 0) rfl (by decide) (by decide) rfl (fun ls hl => ?_)
  refine lv_goto (tgt := 28) hx hb dL_law_803 (by decide) ?_
  refine lv_iload_n hx hb dL_law_28 rfl (lv_at hl 0 rfl) ?_
  refine lv_aload_n hx hb dL_law_29 rfl (lv_at hl 3 rfl) ?_
  refine va_slen hx hb hX hbl hbA hS dL_law_30 ?_
  refine g_topi (y := 7) rfl ?_
  refine lv_bipush (v := 6) hx hb dL_law_31 (by decide) ?_
  refine lv_isub hx hb dL_law_33 ?_
  refine g_topi (y := 1) (by decide) ?_
  refine lv_icmp_gt (tgt := 806) hx hb dL_law_34 (by decide) (fun c_34_2 => ?_) (fun c_34_2 => absurd c_34_2 (by decide))
  refine lv_iconst (v := 1) hx hb dL_law_806 (by decide) ?_
  refine va_forget (fun q hq => hAI _ (hS.2.2 q hq)) ?_
  refine W.widen (k := 600000) (n := 7302250) (Nat.le_of_ble_eq_true rfl) (Nat.le_of_ble_eq_true rfl) ?_
  exact lw_ret hx hb hr hlocks dL_law_807

set_option maxHeartbeats 1000000 in
set_option maxRecDepth 100000 in
theorem lawc_562 {p : Program} {l : Launch} {e : Env} {s : State} {m : MethodId} {below : List Frame} {meth : Method} {c : Code} {b : Nat} {xs : Nat → Int32} {A : Nat → Prop} {dC : Nat → ClassId} {dI : Nat → Nat → Nat} {aT_9 : Nat} {aB_9 : Nat} {aS_9 : Nat} {ce_9 : Nat} {pl_9 : Nat} {aR_9 : Nat} {aF_9 : Nat} {aX_9 : Nat} {aC_9 : Nat} {cB_9 : ClassId} {cS_9 : ClassId} {cI_9 : ClassId} {cJ_9 : ClassId} {cC_9 : ClassId} {qa_22 : Nat → Nat} {kk_22 : Nat} {cZ_22 : ClassId} {q_0 : Nat} {q_13 : Nat} {H : Heap} {locs : List Loc} {ls : Array Slot} (hx : p.tables.exec = Jvm.exec) (hb : c.code = code) (hr : meth.sig.returnType = ret) (hlocks : meth.locks = false) (hml : c.maxLocals = 4) (hown : s.vm.findClass RL = some m.cls) (hts : ∀ w ∈ wsG (Cond.initialized RX10), w.before #[Value.ref b] s = true) (hA : ∀ q : Nat, s.heap.size ≤ q → A q) (hAI : ∀ q : Nat, A q → s.heap.size ≤ q) (hbA : ¬ A b) (hN : gN s) (hZ : gZ A s s.heap) (hX : va_X b 7 xs s s.heap) (hbl : b < s.heap.size) (hK : va_K (dC, dI) vwCl [(cB_9, .byte), (cS_9, .object RX5), (cI_9, .int), (cJ_9, .long), (cC_9, .object RX1), (cZ_22, .boolean)] s) (hP : va_P (dC, dI) vwCl [(q_0, .inr (9, [.ref aT_9, .ref aB_9, .ref aS_9, .ref aR_9, .ref aF_9, .ref aC_9, .ref aX_9])), (aS_9, .inr (6, [.ref ce_9, .ref pl_9, .int 1, .int 0])), (ce_9, .inl (cI_9, 2048, .inl (fun _ => 0))), (pl_9, .inl (cI_9, 128, .inl (fun _ => 0))), (q_13, .inr (10, mdF qa_22 (nI kk_22) 0 0 (-1) 1 0 6 125 (-1) (-1) (-1) 0 0 17 0 (-1) 0 0 0)), (qa_22 12, .inl (cI_9, 128, .inl (fun _ => 0)))] H) (hD : va_D A [(q_0, .inr (9, [.ref aT_9, .ref aB_9, .ref aS_9, .ref aR_9, .ref aF_9, .ref aC_9, .ref aX_9])), (aS_9, .inr (6, [.ref ce_9, .ref pl_9, .int 1, .int 0])), (ce_9, .inl (cI_9, 2048, .inl (fun _ => 0))), (pl_9, .inl (cI_9, 128, .inl (fun _ => 0))), (q_13, .inr (10, mdF qa_22 (nI kk_22) 0 0 (-1) 1 0 6 125 (-1) (-1) (-1) 0 0 17 0 (-1) 0 0 0)), (qa_22 12, .inl (cI_9, 128, .inl (fun _ => 0)))]) (hS : va_S A s.heap H locs) (hl : lv_has ls 4 [(3, .int 1), (2, .ref q_13), (1, .ref q_0), (0, .ref b)]) : W p l e room_1 s m #[Value.ref b] below meth c H locs 95 104445 (lw_Z below #[Value.ref b] s) (F0 m 562 ls []) := by
  refine lv_aload_n hx hb dL_law_562 rfl (lv_at hl 2 rfl) ?_
  refine lv_aload_n hx hb dL_law_563 rfl (lv_at hl 3 rfl) ?_
  refine lv_iload_n hx hb dL_law_564 rfl (lv_at hl 0 rfl) ?_
  refine lv_iconst (v := 1) hx hb dL_law_565 (by decide) ?_
  refine lv_iadd hx hb dL_law_566 ?_
  refine g_topi (y := 2) (by decide) ?_
  refine g_sld hx hb hX hbl hbA hS 2 (by decide) (by unfold vp_in; decide) dL_law_567 ?_
  refine lv_aload_n hx hb dL_law_568 rfl (lv_at hl 3 rfl) ?_
  refine lv_iload_n hx hb dL_law_569 rfl (lv_at hl 0 rfl) ?_
  refine lv_iconst (v := 2) hx hb dL_law_570 (by decide) ?_
  refine lv_iadd hx hb dL_law_571 ?_
  refine g_topi (y := 3) (by decide) ?_
  refine g_sld hx hb hX hbl hbA hS 3 (by decide) (by unfold vp_in; decide) dL_law_572 ?_
  refine g_calli (wr := [(q_13, .inr (10, mdF qa_22 (nI kk_22) 0 0 (-1) 1 0 6 125 (-1) (-1) (-1) 0 0 17 0 (-1) 0 0 0)), (qa_22 12, .inl (cI_9, 128, .inl (fun _ => 0)))]) (va_runV (As := [.int (xs 2), .int (xs 3)]) (rest := []) ⟨hx, hb, hml, hown, hts⟩ (f_place l dC dI H.size q_0 aT_9 aB_9 aS_9 aR_9 aF_9 aC_9 aX_9 ce_9 pl_9 cI_9 (xs 2) (xs 3) ) (cwV 2 hts (gG_V kw_591 kw_592 kw_593 kw_2 kw_594) rfl rfl rfl (by decide +kernel) ⟨Nat.le_of_ble_eq_true rfl, Nat.le_of_ble_eq_true rfl⟩) (g_preV (C := RX10) (T := TX10) (N := 7) hP hD hK hS hA hN hZ (q0 := 0) rfl rfl [0, 1, 2, 3] (by decide) rfl [2] rfl) rfl rfl hl.1 rfl (lv_room (Nat.le_of_ble_eq_true rfl)) dL_law_573 ⟨Nat.le_of_ble_eq_true rfl, Nat.le_of_ble_eq_true rfl⟩) hP hD hK hS hA [0, 1, 2, 3] [4, 5] rfl rfl (by decide) (by decide) (fun r_573 w ty1 H locs hw_573 hP hD _ hS => ?_)
  rcases hw_573 with ⟨hu, hr_573⟩
  cases hu
  have hP : va_P (dC, dI) vwCl [(q_13, .inr (10, mdF qa_22 (nI kk_22) 0 0 (-1) 1 0 6 125 (-1) (-1) (-1) 0 0 17 0 (-1) 0 0 0)), (qa_22 12, .inl (cI_9, 128, .inl (fun _ => 0)))] H := hP
  have hD : va_D A [(q_13, .inr (10, mdF qa_22 (nI kk_22) 0 0 (-1) 1 0 6 125 (-1) (-1) (-1) 0 0 17 0 (-1) 0 0 0)), (qa_22 12, .inl (cI_9, 128, .inl (fun _ => 0)))] := hD
  refine g_topi (y := bF ((0 ≤ (xs 2) ∧ (xs 2) < 128) ∧ (0 ≤ (xs 3) ∧ (xs 3) < 8))) hr_573 ?_
  refine lv_aload_n hx hb dL_law_576 rfl (lv_at hl 1 rfl) ?_
  refine lv_aload_n hx hb dL_law_577 rfl (lv_at hl 3 rfl) ?_
  refine lv_iload_n hx hb dL_law_578 rfl (lv_at hl 0 rfl) ?_
  refine lv_iconst (v := 1) hx hb dL_law_579 (by decide) ?_
  refine lv_iadd hx hb dL_law_580 ?_
  refine g_topi (y := 2) (by decide) ?_
  refine g_sld hx hb hX hbl hbA hS 2 (by decide) (by unfold vp_in; decide) dL_law_581 ?_
  refine lv_aload_n hx hb dL_law_582 rfl (lv_at hl 3 rfl) ?_
  refine lv_iload_n hx hb dL_law_583 rfl (lv_at hl 0 rfl) ?_
  refine lv_iconst (v := 2) hx hb dL_law_584 (by decide) ?_
  refine lv_iadd hx hb dL_law_585 ?_
  refine g_topi (y := 3) (by decide) ?_
  refine g_sld hx hb hX hbl hbA hS 3 (by decide) (by unfold vp_in; decide) dL_law_586 ?_
  refine g_calli (wr := []) (va_runV (As := [.int (xs 2), .int (xs 3)]) (rest := [.int (bF ((0 ≤ (xs 2) ∧ (xs 2) < 128) ∧ (0 ≤ (xs 3) ∧ (xs 3) < 8)))]) ⟨hx, hb, hml, hown, hts⟩ (mf_place l dC dI H.size q_13 qa_22 kk_22 cI_9 (xs 2) (xs 3) ) (cwV 2 hts (gG_V kw_596 kw_597 kw_598 kw_5 kw_599) rfl rfl rfl (by decide +kernel) ⟨Nat.le_of_ble_eq_true rfl, Nat.le_of_ble_eq_true rfl⟩) (g_preV (C := RX11) (T := TX11) (N := 53) hP hD hK hS hA hN hZ (q0 := 0) rfl rfl [0, 1] (by decide) rfl [2] rfl) rfl rfl hl.1 rfl (lv_room (Nat.le_of_ble_eq_true rfl)) dL_law_587 ⟨Nat.le_of_ble_eq_true rfl, Nat.le_of_ble_eq_true rfl⟩) hP hD hK hS hA [0, 1] [] rfl rfl (by decide) (by decide) (fun r_587 w ty1 H locs hw_587 hP hD _ hS => ?_)
  rcases hw_587 with ⟨hu, hr_587⟩
  cases hu
  have hP : va_P (dC, dI) vwCl [] H := hP
  have hD : va_D A [] := hD
  refine g_topi (y := bF ((0 ≤ (xs 2) ∧ (xs 2) < 128) ∧ (0 ≤ (xs 3) ∧ (xs 3) < 8))) hr_587 ?_
  refine lv_icmp_eq (tgt := 800) hx hb dL_law_590 (by decide) (fun c_590 => ?_) (fun c_590 => absurd rfl c_590)
  refine lv_iinc (v := 7) (lv' := [(3, .int 7), (2, .ref q_13), (1, .ref q_0), (0, .ref b)]) hx hb dL_law_800 hl (k := 0) rfl (by decide) (by decide) rfl (fun ls hl => ?_)
  refine lv_goto (tgt := 28) hx hb dL_law_803 (by decide) ?_
  refine lv_iload_n hx hb dL_law_28 rfl (lv_at hl 0 rfl) ?_
  refine lv_aload_n hx hb dL_law_29 rfl (lv_at hl 3 rfl) ?_
  refine va_slen hx hb hX hbl hbA hS dL_law_30 ?_
  refine g_topi (y := 7) rfl ?_
  refine lv_bipush (v := 6) hx hb dL_law_31 (by decide) ?_
  refine lv_isub hx hb dL_law_33 ?_
  refine g_topi (y := 1) (by decide) ?_
  refine lv_icmp_gt (tgt := 806) hx hb dL_law_34 (by decide) (fun c_34_2 => ?_) (fun c_34_2 => absurd c_34_2 (by decide))
  refine lv_iconst (v := 1) hx hb dL_law_806 (by decide) ?_
  refine va_forget (fun q hq => hAI _ (hS.2.2 q hq)) ?_
  refine W.widen (k := 600000) (n := 7302250) (Nat.le_of_ble_eq_true rfl) (Nat.le_of_ble_eq_true rfl) ?_
  exact lw_ret hx hb hr hlocks dL_law_807

set_option maxHeartbeats 1000000 in
set_option maxRecDepth 100000 in
theorem lawc_595 {p : Program} {l : Launch} {e : Env} {s : State} {m : MethodId} {below : List Frame} {meth : Method} {c : Code} {b : Nat} {xs : Nat → Int32} {A : Nat → Prop} {dC : Nat → ClassId} {dI : Nat → Nat → Nat} {aT_9 : Nat} {aB_9 : Nat} {aS_9 : Nat} {ce_9 : Nat} {pl_9 : Nat} {aR_9 : Nat} {aF_9 : Nat} {aX_9 : Nat} {aC_9 : Nat} {cB_9 : ClassId} {cS_9 : ClassId} {cI_9 : ClassId} {cJ_9 : ClassId} {cC_9 : ClassId} {qa_22 : Nat → Nat} {kk_22 : Nat} {cZ_22 : ClassId} {q_0 : Nat} {q_13 : Nat} {H : Heap} {locs : List Loc} {ls : Array Slot} (hx : p.tables.exec = Jvm.exec) (hb : c.code = code) (hr : meth.sig.returnType = ret) (hlocks : meth.locks = false) (hml : c.maxLocals = 4) (hown : s.vm.findClass RL = some m.cls) (hts : ∀ w ∈ wsG (Cond.initialized RX10), w.before #[Value.ref b] s = true) (hA : ∀ q : Nat, s.heap.size ≤ q → A q) (hAI : ∀ q : Nat, A q → s.heap.size ≤ q) (hbA : ¬ A b) (hN : gN s) (hZ : gZ A s s.heap) (hX : va_X b 7 xs s s.heap) (hbl : b < s.heap.size) (hK : va_K (dC, dI) vwCl [(cB_9, .byte), (cS_9, .object RX5), (cI_9, .int), (cJ_9, .long), (cC_9, .object RX1), (cZ_22, .boolean)] s) (hP : va_P (dC, dI) vwCl [(q_0, .inr (9, [.ref aT_9, .ref aB_9, .ref aS_9, .ref aR_9, .ref aF_9, .ref aC_9, .ref aX_9])), (aS_9, .inr (6, [.ref ce_9, .ref pl_9, .int 1, .int 0])), (ce_9, .inl (cI_9, 2048, .inl (fun _ => 0))), (pl_9, .inl (cI_9, 128, .inl (fun _ => 0))), (q_13, .inr (10, mdF qa_22 (nI kk_22) 0 0 (-1) 1 0 6 125 (-1) (-1) (-1) 0 0 17 0 (-1) 0 0 0))] H) (hD : va_D A [(q_0, .inr (9, [.ref aT_9, .ref aB_9, .ref aS_9, .ref aR_9, .ref aF_9, .ref aC_9, .ref aX_9])), (aS_9, .inr (6, [.ref ce_9, .ref pl_9, .int 1, .int 0])), (ce_9, .inl (cI_9, 2048, .inl (fun _ => 0))), (pl_9, .inl (cI_9, 128, .inl (fun _ => 0))), (q_13, .inr (10, mdF qa_22 (nI kk_22) 0 0 (-1) 1 0 6 125 (-1) (-1) (-1) 0 0 17 0 (-1) 0 0 0))]) (hS : va_S A s.heap H locs) (hl : lv_has ls 4 [(3, .int 1), (2, .ref q_13), (1, .ref q_0), (0, .ref b)]) : W p l e room_1 s m #[Value.ref b] below meth c H locs 95 104445 (lw_Z below #[Value.ref b] s) (F0 m 595 ls []) := by
  refine lv_aload_n hx hb dL_law_595 rfl (lv_at hl 2 rfl) ?_
  refine lv_aload_n hx hb dL_law_596 rfl (lv_at hl 3 rfl) ?_
  refine lv_iload_n hx hb dL_law_597 rfl (lv_at hl 0 rfl) ?_
  refine lv_iconst (v := 1) hx hb dL_law_598 (by decide) ?_
  refine lv_iadd hx hb dL_law_599 ?_
  refine g_topi (y := 2) (by decide) ?_
  refine g_sld hx hb hX hbl hbA hS 2 (by decide) (by unfold vp_in; decide) dL_law_600 ?_
  refine lv_aload_n hx hb dL_law_601 rfl (lv_at hl 3 rfl) ?_
  refine lv_iload_n hx hb dL_law_602 rfl (lv_at hl 0 rfl) ?_
  refine lv_iconst (v := 2) hx hb dL_law_603 (by decide) ?_
  refine lv_iadd hx hb dL_law_604 ?_
  refine g_topi (y := 3) (by decide) ?_
  refine g_sld hx hb hX hbl hbA hS 3 (by decide) (by unfold vp_in; decide) dL_law_605 ?_
  refine g_calli (wr := [(q_13, .inr (10, mdF qa_22 (nI kk_22) 0 0 (-1) 1 0 6 125 (-1) (-1) (-1) 0 0 17 0 (-1) 0 0 0))]) (va_runV (As := [.int (xs 2), .int (xs 3)]) (rest := []) ⟨hx, hb, hml, hown, hts⟩ (f_song l dC dI H.size q_0 aT_9 aB_9 aS_9 aR_9 aF_9 aC_9 aX_9 ce_9 pl_9 cI_9 (xs 2) (xs 3) ) (cwV 2 hts (gG_V kw_600 kw_601 kw_602 kw_2 kw_603) rfl rfl rfl (by decide +kernel) ⟨Nat.le_of_ble_eq_true rfl, Nat.le_of_ble_eq_true rfl⟩) (g_preV (C := RX10) (T := TX10) (N := 7) hP hD hK hS hA hN hZ (q0 := 0) rfl rfl [0, 1, 2, 3] (by decide) rfl [2] rfl) rfl rfl hl.1 rfl (lv_room (Nat.le_of_ble_eq_true rfl)) dL_law_606 ⟨Nat.le_of_ble_eq_true rfl, Nat.le_of_ble_eq_true rfl⟩) hP hD hK hS hA [0, 1, 2, 3] [4] rfl rfl (by decide) (by decide) (fun r_606 w ty1 H locs hw_606 hP hD _ hS => ?_)
  rcases hw_606 with ⟨hu, hr_606⟩
  cases hu
  have hP : va_P (dC, dI) vwCl [(q_13, .inr (10, mdF qa_22 (nI kk_22) 0 0 (-1) 1 0 6 125 (-1) (-1) (-1) 0 0 17 0 (-1) 0 0 0))] H := hP
  have hD : va_D A [(q_13, .inr (10, mdF qa_22 (nI kk_22) 0 0 (-1) 1 0 6 125 (-1) (-1) (-1) 0 0 17 0 (-1) 0 0 0))] := hD
  refine g_topi (y := bF (songP (xs 2) (xs 3))) hr_606 ?_
  refine lv_aload_n hx hb dL_law_609 rfl (lv_at hl 1 rfl) ?_
  refine lv_aload_n hx hb dL_law_610 rfl (lv_at hl 3 rfl) ?_
  refine lv_iload_n hx hb dL_law_611 rfl (lv_at hl 0 rfl) ?_
  refine lv_iconst (v := 1) hx hb dL_law_612 (by decide) ?_
  refine lv_iadd hx hb dL_law_613 ?_
  refine g_topi (y := 2) (by decide) ?_
  refine g_sld hx hb hX hbl hbA hS 2 (by decide) (by unfold vp_in; decide) dL_law_614 ?_
  refine lv_aload_n hx hb dL_law_615 rfl (lv_at hl 3 rfl) ?_
  refine lv_iload_n hx hb dL_law_616 rfl (lv_at hl 0 rfl) ?_
  refine lv_iconst (v := 2) hx hb dL_law_617 (by decide) ?_
  refine lv_iadd hx hb dL_law_618 ?_
  refine g_topi (y := 3) (by decide) ?_
  refine g_sld hx hb hX hbl hbA hS 3 (by decide) (by unfold vp_in; decide) dL_law_619 ?_
  refine g_calli (wr := []) (va_runV (As := [.int (xs 2), .int (xs 3)]) (rest := [.int (bF (songP (xs 2) (xs 3)))]) ⟨hx, hb, hml, hown, hts⟩ (mf_song l dC dI H.size q_13 qa_22 kk_22 (xs 2) (xs 3) ) (cwV 2 hts (gG_V kw_606 kw_607 kw_608 kw_5 kw_609) rfl rfl rfl (by decide +kernel) ⟨Nat.le_of_ble_eq_true rfl, Nat.le_of_ble_eq_true rfl⟩) (g_preV (C := RX11) (T := TX11) (N := 53) hP hD hK hS hA hN hZ (q0 := 0) rfl rfl [0] (by decide) rfl [] rfl) rfl rfl hl.1 rfl (lv_room (Nat.le_of_ble_eq_true rfl)) dL_law_620 ⟨Nat.le_of_ble_eq_true rfl, Nat.le_of_ble_eq_true rfl⟩) hP hD hK hS hA [0] [] rfl rfl (by decide) (by decide) (fun r_620 w ty1 H locs hw_620 hP hD _ hS => ?_)
  rcases hw_620 with ⟨hu, hr_620⟩
  cases hu
  have hP : va_P (dC, dI) vwCl [] H := hP
  have hD : va_D A [] := hD
  refine g_topi (y := bF (songP (xs 2) (xs 3))) hr_620 ?_
  refine lv_icmp_eq (tgt := 800) hx hb dL_law_623 (by decide) (fun c_623 => ?_) (fun c_623 => absurd rfl c_623)
  refine lv_iinc (v := 7) (lv' := [(3, .int 7), (2, .ref q_13), (1, .ref q_0), (0, .ref b)]) hx hb dL_law_800 hl (k := 0) rfl (by decide) (by decide) rfl (fun ls hl => ?_)
  refine lv_goto (tgt := 28) hx hb dL_law_803 (by decide) ?_
  refine lv_iload_n hx hb dL_law_28 rfl (lv_at hl 0 rfl) ?_
  refine lv_aload_n hx hb dL_law_29 rfl (lv_at hl 3 rfl) ?_
  refine va_slen hx hb hX hbl hbA hS dL_law_30 ?_
  refine g_topi (y := 7) rfl ?_
  refine lv_bipush (v := 6) hx hb dL_law_31 (by decide) ?_
  refine lv_isub hx hb dL_law_33 ?_
  refine g_topi (y := 1) (by decide) ?_
  refine lv_icmp_gt (tgt := 806) hx hb dL_law_34 (by decide) (fun c_34_2 => ?_) (fun c_34_2 => absurd c_34_2 (by decide))
  refine lv_iconst (v := 1) hx hb dL_law_806 (by decide) ?_
  refine va_forget (fun q hq => hAI _ (hS.2.2 q hq)) ?_
  refine W.widen (k := 600000) (n := 7302250) (Nat.le_of_ble_eq_true rfl) (Nat.le_of_ble_eq_true rfl) ?_
  exact lw_ret hx hb hr hlocks dL_law_807

set_option maxHeartbeats 1000000 in
set_option maxRecDepth 100000 in
theorem lawc_628 {p : Program} {l : Launch} {e : Env} {s : State} {m : MethodId} {below : List Frame} {meth : Method} {c : Code} {b : Nat} {xs : Nat → Int32} {A : Nat → Prop} {dC : Nat → ClassId} {dI : Nat → Nat → Nat} {aT_9 : Nat} {aB_9 : Nat} {aS_9 : Nat} {aR_9 : Nat} {aF_9 : Nat} {be_9 : Nat} {aX_9 : Nat} {le_9 : Nat} {ri_9 : Nat} {aC_9 : Nat} {c0_9 : Nat} {c1_9 : Nat} {c2_9 : Nat} {c3_9 : Nat} {v0_9 : Nat} {v1_9 : Nat} {v2_9 : Nat} {v3_9 : Nat} {w0_9 : Nat} {w1_9 : Nat} {w2_9 : Nat} {w3_9 : Nat} {cB_9 : ClassId} {cS_9 : ClassId} {cI_9 : ClassId} {cJ_9 : ClassId} {cC_9 : ClassId} {gc_9 : Nat → Option Nat} {fb_9 : Nat → Int64} {k_9 : Nat} {qa_22 : Nat → Nat} {kk_22 : Nat} {cZ_22 : ClassId} {fz_22 : Nat → Int32} {q_0 : Nat} {q_13 : Nat} {H : Heap} {locs : List Loc} {ls : Array Slot} (hx : p.tables.exec = Jvm.exec) (hb : c.code = code) (hr : meth.sig.returnType = ret) (hlocks : meth.locks = false) (hml : c.maxLocals = 4) (hown : s.vm.findClass RL = some m.cls) (hts : ∀ w ∈ wsG (Cond.initialized RX10), w.before #[Value.ref b] s = true) (hA : ∀ q : Nat, s.heap.size ≤ q → A q) (hAI : ∀ q : Nat, A q → s.heap.size ≤ q) (hbA : ¬ A b) (hN : gN s) (hZ : gZ A s s.heap) (hX : va_X b 7 xs s s.heap) (hbl : b < s.heap.size) (hc0_9 : gc_9 0 = some c0_9) (hc1_9 : gc_9 1 = some c1_9) (hc2_9 : gc_9 2 = some c2_9) (hc3_9 : gc_9 3 = some c3_9) (hK : va_K (dC, dI) vwCl [(cB_9, .byte), (cS_9, .object RX5), (cI_9, .int), (cJ_9, .long), (cC_9, .object RX1), (cZ_22, .boolean)] s) (hP : va_P (dC, dI) vwCl [(q_0, .inr (9, [.ref aT_9, .ref aB_9, .ref aS_9, .ref aR_9, .ref aF_9, .ref aC_9, .ref aX_9])), (aF_9, .inr (2, [.ref aS_9, .ref be_9, .int 6, .int 125, .int 0, .int 0, .int 0, .int 0, .int 0, .int 0, .int (-1), .int (-1), .int (-1)])), (be_9, .inl (cJ_9, 128, .inr (.inl fb_9))), (aX_9, .inr (3, [.int (nI k_9), .ref le_9, .ref ri_9, .int 0, .int 17])), (aC_9, .inl (cC_9, 4, .inr (.inr (.inr (.inr gc_9))))), (c0_9, .inr (1, [.ref aB_9, .ref v0_9, .ref w0_9, .int 0, .int 0, .int 0, .int 0, .int 0, .int 0, .int 0, .int 0, .int 0, .int 0, .int 0, .int 0, .int 0, .long 0, .int 0, .int 0])), (c1_9, .inr (1, [.ref aB_9, .ref v1_9, .ref w1_9, .int 0, .int 0, .int 0, .int 0, .int 0, .int 0, .int 0, .int 0, .int 0, .int 0, .int 0, .int 0, .int 0, .long 0, .int 0, .int 0])), (c2_9, .inr (1, [.ref aB_9, .ref v2_9, .ref w2_9, .int 0, .int 0, .int 0, .int 0, .int 0, .int 0, .int 0, .int 0, .int 0, .int 0, .int 0, .int 0, .int 0, .long 0, .int 0, .int 0])), (c3_9, .inr (1, [.ref aB_9, .ref v3_9, .ref w3_9, .int 0, .int 0, .int 0, .int 0, .int 0, .int 0, .int 0, .int 0, .int 0, .int 0, .int 0, .int 0, .int 0, .long 0, .int 0, .int 0])), (v0_9, .inr (8, [.int 0, .int 0, .int 0, .int 0])), (v1_9, .inr (8, [.int 0, .int 0, .int 0, .int 0])), (v2_9, .inr (8, [.int 0, .int 0, .int 0, .int 0])), (v3_9, .inr (8, [.int 0, .int 0, .int 0, .int 0])), (w0_9, .inr (8, [.int 0, .int 0, .int 0, .int 0])), (w1_9, .inr (8, [.int 0, .int 0, .int 0, .int 0])), (w2_9, .inr (8, [.int 0, .int 0, .int 0, .int 0])), (w3_9, .inr (8, [.int 0, .int 0, .int 0, .int 0])), (q_13, .inr (10, mdF qa_22 (nI kk_22) 0 0 (-1) 1 0 6 125 (-1) (-1) (-1) 0 0 17 0 (-1) 0 0 0)), (qa_22 25, .inl (cZ_22, 8192, .inl fz_22)), (qa_22 31, .inl (cI_9, 4, .inl (fun _ => 0))), (qa_22 32, .inl (cI_9, 4, .inl (fun _ => 0))), (qa_22 33, .inl (cI_9, 4, .inl (fun _ => 0))), (qa_22 34, .inl (cI_9, 4, .inl (fun _ => 0))), (qa_22 35, .inl (cI_9, 4, .inl (fun _ => 0))), (qa_22 36, .inl (cI_9, 4, .inl (fun _ => 0))), (qa_22 37, .inl (cI_9, 4, .inl (fun _ => 0))), (qa_22 38, .inl (cI_9, 4, .inl (fun _ => 0))), (qa_22 39, .inl (cI_9, 4, .inl (fun _ => 0))), (qa_22 40, .inl (cI_9, 4, .inl (fun _ => 0))), (qa_22 41, .inl (cI_9, 4, .inl (fun _ => 0))), (qa_22 42, .inl (cI_9, 4, .inl (fun _ => 0))), (qa_22 43, .inl (cI_9, 4, .inl (fun _ => 0))), (qa_22 44, .inl (cI_9, 4, .inl (fun _ => 0))), (qa_22 45, .inl (cI_9, 4, .inl (fun _ => 0))), (qa_22 46, .inl (cI_9, 4, .inl (fun _ => 0))), (qa_22 47, .inl (cI_9, 4, .inl (fun _ => 0))), (qa_22 48, .inl (cI_9, 4, .inl (fun _ => 0))), (qa_22 49, .inl (cI_9, 4, .inl (fun _ => 0))), (qa_22 50, .inl (cJ_9, 4, .inr (.inl (fun _ => 0)))), (qa_22 51, .inl (cZ_22, 4, .inl (fun _ => 0)))] H) (hD : va_D A [(q_0, .inr (9, [.ref aT_9, .ref aB_9, .ref aS_9, .ref aR_9, .ref aF_9, .ref aC_9, .ref aX_9])), (aF_9, .inr (2, [.ref aS_9, .ref be_9, .int 6, .int 125, .int 0, .int 0, .int 0, .int 0, .int 0, .int 0, .int (-1), .int (-1), .int (-1)])), (be_9, .inl (cJ_9, 128, .inr (.inl fb_9))), (aX_9, .inr (3, [.int (nI k_9), .ref le_9, .ref ri_9, .int 0, .int 17])), (aC_9, .inl (cC_9, 4, .inr (.inr (.inr (.inr gc_9))))), (c0_9, .inr (1, [.ref aB_9, .ref v0_9, .ref w0_9, .int 0, .int 0, .int 0, .int 0, .int 0, .int 0, .int 0, .int 0, .int 0, .int 0, .int 0, .int 0, .int 0, .long 0, .int 0, .int 0])), (c1_9, .inr (1, [.ref aB_9, .ref v1_9, .ref w1_9, .int 0, .int 0, .int 0, .int 0, .int 0, .int 0, .int 0, .int 0, .int 0, .int 0, .int 0, .int 0, .int 0, .long 0, .int 0, .int 0])), (c2_9, .inr (1, [.ref aB_9, .ref v2_9, .ref w2_9, .int 0, .int 0, .int 0, .int 0, .int 0, .int 0, .int 0, .int 0, .int 0, .int 0, .int 0, .int 0, .int 0, .long 0, .int 0, .int 0])), (c3_9, .inr (1, [.ref aB_9, .ref v3_9, .ref w3_9, .int 0, .int 0, .int 0, .int 0, .int 0, .int 0, .int 0, .int 0, .int 0, .int 0, .int 0, .int 0, .int 0, .long 0, .int 0, .int 0])), (v0_9, .inr (8, [.int 0, .int 0, .int 0, .int 0])), (v1_9, .inr (8, [.int 0, .int 0, .int 0, .int 0])), (v2_9, .inr (8, [.int 0, .int 0, .int 0, .int 0])), (v3_9, .inr (8, [.int 0, .int 0, .int 0, .int 0])), (w0_9, .inr (8, [.int 0, .int 0, .int 0, .int 0])), (w1_9, .inr (8, [.int 0, .int 0, .int 0, .int 0])), (w2_9, .inr (8, [.int 0, .int 0, .int 0, .int 0])), (w3_9, .inr (8, [.int 0, .int 0, .int 0, .int 0])), (q_13, .inr (10, mdF qa_22 (nI kk_22) 0 0 (-1) 1 0 6 125 (-1) (-1) (-1) 0 0 17 0 (-1) 0 0 0)), (qa_22 25, .inl (cZ_22, 8192, .inl fz_22)), (qa_22 31, .inl (cI_9, 4, .inl (fun _ => 0))), (qa_22 32, .inl (cI_9, 4, .inl (fun _ => 0))), (qa_22 33, .inl (cI_9, 4, .inl (fun _ => 0))), (qa_22 34, .inl (cI_9, 4, .inl (fun _ => 0))), (qa_22 35, .inl (cI_9, 4, .inl (fun _ => 0))), (qa_22 36, .inl (cI_9, 4, .inl (fun _ => 0))), (qa_22 37, .inl (cI_9, 4, .inl (fun _ => 0))), (qa_22 38, .inl (cI_9, 4, .inl (fun _ => 0))), (qa_22 39, .inl (cI_9, 4, .inl (fun _ => 0))), (qa_22 40, .inl (cI_9, 4, .inl (fun _ => 0))), (qa_22 41, .inl (cI_9, 4, .inl (fun _ => 0))), (qa_22 42, .inl (cI_9, 4, .inl (fun _ => 0))), (qa_22 43, .inl (cI_9, 4, .inl (fun _ => 0))), (qa_22 44, .inl (cI_9, 4, .inl (fun _ => 0))), (qa_22 45, .inl (cI_9, 4, .inl (fun _ => 0))), (qa_22 46, .inl (cI_9, 4, .inl (fun _ => 0))), (qa_22 47, .inl (cI_9, 4, .inl (fun _ => 0))), (qa_22 48, .inl (cI_9, 4, .inl (fun _ => 0))), (qa_22 49, .inl (cI_9, 4, .inl (fun _ => 0))), (qa_22 50, .inl (cJ_9, 4, .inr (.inl (fun _ => 0)))), (qa_22 51, .inl (cZ_22, 4, .inl (fun _ => 0)))]) (hS : va_S A s.heap H locs) (hl : lv_has ls 4 [(3, .int 1), (2, .ref q_13), (1, .ref q_0), (0, .ref b)]) : W p l e room_1 s m #[Value.ref b] below meth c H locs 95 104445 (lw_Z below #[Value.ref b] s) (F0 m 628 ls []) := by
  refine lv_aload_n hx hb dL_law_628 rfl (lv_at hl 2 rfl) ?_
  refine g_callv (wr := [(q_13, .inr (10, mdF qa_22 (nI kk_22) 0 0 (-1) 1 0 6 125 (-1) (-1) (-1) 0 0 17 0 (-1) 0 0 0)), (qa_22 25, .inl (cZ_22, 8192, .inl fz_22)), (qa_22 31, .inl (cI_9, 4, .inl (fun _ => 0))), (qa_22 32, .inl (cI_9, 4, .inl (fun _ => 0))), (qa_22 33, .inl (cI_9, 4, .inl (fun _ => 0))), (qa_22 34, .inl (cI_9, 4, .inl (fun _ => 0))), (qa_22 35, .inl (cI_9, 4, .inl (fun _ => 0))), (qa_22 36, .inl (cI_9, 4, .inl (fun _ => 0))), (qa_22 37, .inl (cI_9, 4, .inl (fun _ => 0))), (qa_22 38, .inl (cI_9, 4, .inl (fun _ => 0))), (qa_22 39, .inl (cI_9, 4, .inl (fun _ => 0))), (qa_22 40, .inl (cI_9, 4, .inl (fun _ => 0))), (qa_22 41, .inl (cI_9, 4, .inl (fun _ => 0))), (qa_22 42, .inl (cI_9, 4, .inl (fun _ => 0))), (qa_22 43, .inl (cI_9, 4, .inl (fun _ => 0))), (qa_22 44, .inl (cI_9, 4, .inl (fun _ => 0))), (qa_22 45, .inl (cI_9, 4, .inl (fun _ => 0))), (qa_22 46, .inl (cI_9, 4, .inl (fun _ => 0))), (qa_22 47, .inl (cI_9, 4, .inl (fun _ => 0))), (qa_22 48, .inl (cI_9, 4, .inl (fun _ => 0))), (qa_22 49, .inl (cI_9, 4, .inl (fun _ => 0))), (qa_22 50, .inl (cJ_9, 4, .inr (.inl (fun _ => 0)))), (qa_22 51, .inl (cZ_22, 4, .inl (fun _ => 0)))]) (va_runV (As := []) (rest := []) ⟨hx, hb, hml, hown, hts⟩ (f_start l dC dI H.size q_0 aT_9 aB_9 aS_9 aR_9 aF_9 aC_9 aX_9 be_9 le_9 ri_9 c0_9 c1_9 c2_9 c3_9 v0_9 v1_9 v2_9 v3_9 w0_9 w1_9 w2_9 w3_9 cJ_9 cC_9 gc_9 fb_9 (nI k_9) (hc0_9) (hc1_9) (hc2_9) (hc3_9)) (cwV 0 hts (gG_V kw_610 kw_611 kw_612 kw_2 kw_613) rfl rfl rfl (by decide +kernel) ⟨Nat.le_of_ble_eq_true rfl, Nat.le_of_ble_eq_true rfl⟩) (g_preV (C := RX10) (T := TX10) (N := 7) hP hD hK hS hA hN hZ (q0 := 0) rfl rfl [0, 1, 2, 3, 4, 5, 6, 7, 8, 9, 10, 11, 12, 13, 14, 15, 16] (by decide) rfl [3, 4] rfl) rfl rfl hl.1 rfl (lv_room (Nat.le_of_ble_eq_true rfl)) dL_law_629 ⟨Nat.le_of_ble_eq_true rfl, Nat.le_of_ble_eq_true rfl⟩) hP hD hK hS hA [0, 1, 2, 3, 4, 5, 6, 7, 8, 9, 10, 11, 12, 13, 14, 15, 16] [17, 18, 19, 20, 21, 22, 23, 24, 25, 26, 27, 28, 29, 30, 31, 32, 33, 34, 35, 36, 37, 38, 39] rfl rfl (by decide) (by decide) (fun w ty1 H locs hw_629 hP hD _ hS => ?_)
  have hu := hw_629
  cases hu
  have hP : va_P (dC, dI) vwCl [(q_13, .inr (10, mdF qa_22 (nI kk_22) 0 0 (-1) 1 0 6 125 (-1) (-1) (-1) 0 0 17 0 (-1) 0 0 0)), (qa_22 25, .inl (cZ_22, 8192, .inl fz_22)), (qa_22 31, .inl (cI_9, 4, .inl (fun _ => 0))), (qa_22 32, .inl (cI_9, 4, .inl (fun _ => 0))), (qa_22 33, .inl (cI_9, 4, .inl (fun _ => 0))), (qa_22 34, .inl (cI_9, 4, .inl (fun _ => 0))), (qa_22 35, .inl (cI_9, 4, .inl (fun _ => 0))), (qa_22 36, .inl (cI_9, 4, .inl (fun _ => 0))), (qa_22 37, .inl (cI_9, 4, .inl (fun _ => 0))), (qa_22 38, .inl (cI_9, 4, .inl (fun _ => 0))), (qa_22 39, .inl (cI_9, 4, .inl (fun _ => 0))), (qa_22 40, .inl (cI_9, 4, .inl (fun _ => 0))), (qa_22 41, .inl (cI_9, 4, .inl (fun _ => 0))), (qa_22 42, .inl (cI_9, 4, .inl (fun _ => 0))), (qa_22 43, .inl (cI_9, 4, .inl (fun _ => 0))), (qa_22 44, .inl (cI_9, 4, .inl (fun _ => 0))), (qa_22 45, .inl (cI_9, 4, .inl (fun _ => 0))), (qa_22 46, .inl (cI_9, 4, .inl (fun _ => 0))), (qa_22 47, .inl (cI_9, 4, .inl (fun _ => 0))), (qa_22 48, .inl (cI_9, 4, .inl (fun _ => 0))), (qa_22 49, .inl (cI_9, 4, .inl (fun _ => 0))), (qa_22 50, .inl (cJ_9, 4, .inr (.inl (fun _ => 0)))), (qa_22 51, .inl (cZ_22, 4, .inl (fun _ => 0)))] H := hP
  have hD : va_D A [(q_13, .inr (10, mdF qa_22 (nI kk_22) 0 0 (-1) 1 0 6 125 (-1) (-1) (-1) 0 0 17 0 (-1) 0 0 0)), (qa_22 25, .inl (cZ_22, 8192, .inl fz_22)), (qa_22 31, .inl (cI_9, 4, .inl (fun _ => 0))), (qa_22 32, .inl (cI_9, 4, .inl (fun _ => 0))), (qa_22 33, .inl (cI_9, 4, .inl (fun _ => 0))), (qa_22 34, .inl (cI_9, 4, .inl (fun _ => 0))), (qa_22 35, .inl (cI_9, 4, .inl (fun _ => 0))), (qa_22 36, .inl (cI_9, 4, .inl (fun _ => 0))), (qa_22 37, .inl (cI_9, 4, .inl (fun _ => 0))), (qa_22 38, .inl (cI_9, 4, .inl (fun _ => 0))), (qa_22 39, .inl (cI_9, 4, .inl (fun _ => 0))), (qa_22 40, .inl (cI_9, 4, .inl (fun _ => 0))), (qa_22 41, .inl (cI_9, 4, .inl (fun _ => 0))), (qa_22 42, .inl (cI_9, 4, .inl (fun _ => 0))), (qa_22 43, .inl (cI_9, 4, .inl (fun _ => 0))), (qa_22 44, .inl (cI_9, 4, .inl (fun _ => 0))), (qa_22 45, .inl (cI_9, 4, .inl (fun _ => 0))), (qa_22 46, .inl (cI_9, 4, .inl (fun _ => 0))), (qa_22 47, .inl (cI_9, 4, .inl (fun _ => 0))), (qa_22 48, .inl (cI_9, 4, .inl (fun _ => 0))), (qa_22 49, .inl (cI_9, 4, .inl (fun _ => 0))), (qa_22 50, .inl (cJ_9, 4, .inr (.inl (fun _ => 0)))), (qa_22 51, .inl (cZ_22, 4, .inl (fun _ => 0)))] := hD
  refine lv_aload_n hx hb dL_law_632 rfl (lv_at hl 1 rfl) ?_
  refine g_callv (wr := []) (va_runV (As := []) (rest := []) ⟨hx, hb, hml, hown, hts⟩ (m_start0 l dC dI H.size q_13 qa_22 (nI kk_22) 0 0 (-1) 1 0 6 125 (-1) (-1) (-1) 0 0 17 0 (-1) 0 0 0 cZ_22 cI_9 cJ_9 fz_22 ) (cwV 0 hts (gG_V kw_614 kw_215 kw_216 kw_5 kw_217) rfl rfl rfl (by decide +kernel) ⟨Nat.le_of_ble_eq_true rfl, Nat.le_of_ble_eq_true rfl⟩) (g_preV (C := RX11) (T := TX11) (N := 53) hP hD hK hS hA hN hZ (q0 := 0) rfl rfl [0, 1, 2, 3, 4, 5, 6, 7, 8, 9, 10, 11, 12, 13, 14, 15, 16, 17, 18, 19, 20, 21, 22] (by decide) rfl [5, 2, 3] rfl) rfl rfl hl.1 rfl (lv_room (Nat.le_of_ble_eq_true rfl)) dL_law_633 ⟨Nat.le_of_ble_eq_true rfl, Nat.le_of_ble_eq_true rfl⟩) hP hD hK hS hA [0, 1, 2, 3, 4, 5, 6, 7, 8, 9, 10, 11, 12, 13, 14, 15, 16, 17, 18, 19, 20, 21, 22] [] rfl rfl (by decide) (by decide) (fun w ty1 H locs hw_633 hP hD _ hS => ?_)
  rcases hw_633 with ⟨fz2_633, hu⟩
  cases hu
  have hP : va_P (dC, dI) vwCl [(q_13, .inr (10, mdF qa_22 (nI kk_22) 0 0 (-1) 1 0 6 125 (-1) (-1) (-1) 0 0 17 0 (-1) 0 0 0)), (qa_22 25, .inl (cZ_22, 8192, .inl fz2_633)), (qa_22 31, .inl (cI_9, 4, .inl (fun _ => 0))), (qa_22 32, .inl (cI_9, 4, .inl (fun _ => 0))), (qa_22 33, .inl (cI_9, 4, .inl (fun _ => 0))), (qa_22 34, .inl (cI_9, 4, .inl (fun _ => 0))), (qa_22 35, .inl (cI_9, 4, .inl (fun _ => 0))), (qa_22 36, .inl (cI_9, 4, .inl (fun _ => 0))), (qa_22 37, .inl (cI_9, 4, .inl (fun _ => 0))), (qa_22 38, .inl (cI_9, 4, .inl (fun _ => 0))), (qa_22 39, .inl (cI_9, 4, .inl (fun _ => 0))), (qa_22 40, .inl (cI_9, 4, .inl (fun _ => 0))), (qa_22 41, .inl (cI_9, 4, .inl (fun _ => 0))), (qa_22 42, .inl (cI_9, 4, .inl (fun _ => 0))), (qa_22 43, .inl (cI_9, 4, .inl (fun _ => 0))), (qa_22 44, .inl (cI_9, 4, .inl (fun _ => 0))), (qa_22 45, .inl (cI_9, 4, .inl (fun _ => 0))), (qa_22 46, .inl (cI_9, 4, .inl (fun _ => 0))), (qa_22 47, .inl (cI_9, 4, .inl (fun _ => 0))), (qa_22 48, .inl (cI_9, 4, .inl (fun _ => 0))), (qa_22 49, .inl (cI_9, 4, .inl (fun _ => 0))), (qa_22 50, .inl (cJ_9, 4, .inr (.inl (fun _ => 0)))), (qa_22 51, .inl (cZ_22, 4, .inl (fun _ => 0)))] H := hP
  have hD : va_D A [(q_13, .inr (10, mdF qa_22 (nI kk_22) 0 0 (-1) 1 0 6 125 (-1) (-1) (-1) 0 0 17 0 (-1) 0 0 0)), (qa_22 25, .inl (cZ_22, 8192, .inl fz2_633)), (qa_22 31, .inl (cI_9, 4, .inl (fun _ => 0))), (qa_22 32, .inl (cI_9, 4, .inl (fun _ => 0))), (qa_22 33, .inl (cI_9, 4, .inl (fun _ => 0))), (qa_22 34, .inl (cI_9, 4, .inl (fun _ => 0))), (qa_22 35, .inl (cI_9, 4, .inl (fun _ => 0))), (qa_22 36, .inl (cI_9, 4, .inl (fun _ => 0))), (qa_22 37, .inl (cI_9, 4, .inl (fun _ => 0))), (qa_22 38, .inl (cI_9, 4, .inl (fun _ => 0))), (qa_22 39, .inl (cI_9, 4, .inl (fun _ => 0))), (qa_22 40, .inl (cI_9, 4, .inl (fun _ => 0))), (qa_22 41, .inl (cI_9, 4, .inl (fun _ => 0))), (qa_22 42, .inl (cI_9, 4, .inl (fun _ => 0))), (qa_22 43, .inl (cI_9, 4, .inl (fun _ => 0))), (qa_22 44, .inl (cI_9, 4, .inl (fun _ => 0))), (qa_22 45, .inl (cI_9, 4, .inl (fun _ => 0))), (qa_22 46, .inl (cI_9, 4, .inl (fun _ => 0))), (qa_22 47, .inl (cI_9, 4, .inl (fun _ => 0))), (qa_22 48, .inl (cI_9, 4, .inl (fun _ => 0))), (qa_22 49, .inl (cI_9, 4, .inl (fun _ => 0))), (qa_22 50, .inl (cJ_9, 4, .inr (.inl (fun _ => 0)))), (qa_22 51, .inl (cZ_22, 4, .inl (fun _ => 0)))] := hD
  refine lv_goto (tgt := 800) hx hb dL_law_636 (by decide) ?_
  refine lv_iinc (v := 7) (lv' := [(3, .int 7), (2, .ref q_13), (1, .ref q_0), (0, .ref b)]) hx hb dL_law_800 hl (k := 0) rfl (by decide) (by decide) rfl (fun ls hl => ?_)
  refine lv_goto (tgt := 28) hx hb dL_law_803 (by decide) ?_
  refine lv_iload_n hx hb dL_law_28 rfl (lv_at hl 0 rfl) ?_
  refine lv_aload_n hx hb dL_law_29 rfl (lv_at hl 3 rfl) ?_
  refine va_slen hx hb hX hbl hbA hS dL_law_30 ?_
  refine g_topi (y := 7) rfl ?_
  refine lv_bipush (v := 6) hx hb dL_law_31 (by decide) ?_
  refine lv_isub hx hb dL_law_33 ?_
  refine g_topi (y := 1) (by decide) ?_
  refine lv_icmp_gt (tgt := 806) hx hb dL_law_34 (by decide) (fun c_34_2 => ?_) (fun c_34_2 => absurd c_34_2 (by decide))
  refine lv_iconst (v := 1) hx hb dL_law_806 (by decide) ?_
  refine va_forget (fun q hq => hAI _ (hS.2.2 q hq)) ?_
  refine W.widen (k := 600000) (n := 7302250) (Nat.le_of_ble_eq_true rfl) (Nat.le_of_ble_eq_true rfl) ?_
  exact lw_ret hx hb hr hlocks dL_law_807

set_option maxHeartbeats 1000000 in
set_option maxRecDepth 100000 in
theorem lawc_639 {p : Program} {l : Launch} {e : Env} {s : State} {m : MethodId} {below : List Frame} {meth : Method} {c : Code} {b : Nat} {xs : Nat → Int32} {A : Nat → Prop} {dC : Nat → ClassId} {dI : Nat → Nat → Nat} {aT_9 : Nat} {aB_9 : Nat} {aS_9 : Nat} {aR_9 : Nat} {aF_9 : Nat} {aX_9 : Nat} {aC_9 : Nat} {c0_9 : Nat} {c1_9 : Nat} {c2_9 : Nat} {c3_9 : Nat} {v0_9 : Nat} {v1_9 : Nat} {v2_9 : Nat} {v3_9 : Nat} {w0_9 : Nat} {w1_9 : Nat} {w2_9 : Nat} {w3_9 : Nat} {cB_9 : ClassId} {cS_9 : ClassId} {cI_9 : ClassId} {cJ_9 : ClassId} {cC_9 : ClassId} {gc_9 : Nat → Option Nat} {qa_22 : Nat → Nat} {kk_22 : Nat} {cZ_22 : ClassId} {q_0 : Nat} {q_13 : Nat} {H : Heap} {locs : List Loc} {ls : Array Slot} (hx : p.tables.exec = Jvm.exec) (hb : c.code = code) (hr : meth.sig.returnType = ret) (hlocks : meth.locks = false) (hml : c.maxLocals = 4) (hown : s.vm.findClass RL = some m.cls) (hts : ∀ w ∈ wsG (Cond.initialized RX10), w.before #[Value.ref b] s = true) (hA : ∀ q : Nat, s.heap.size ≤ q → A q) (hAI : ∀ q : Nat, A q → s.heap.size ≤ q) (hbA : ¬ A b) (hN : gN s) (hZ : gZ A s s.heap) (hX : va_X b 7 xs s s.heap) (hbl : b < s.heap.size) (hc0_9 : gc_9 0 = some c0_9) (hc1_9 : gc_9 1 = some c1_9) (hc2_9 : gc_9 2 = some c2_9) (hc3_9 : gc_9 3 = some c3_9) (hK : va_K (dC, dI) vwCl [(cB_9, .byte), (cS_9, .object RX5), (cI_9, .int), (cJ_9, .long), (cC_9, .object RX1), (cZ_22, .boolean)] s) (hP : va_P (dC, dI) vwCl [(q_0, .inr (9, [.ref aT_9, .ref aB_9, .ref aS_9, .ref aR_9, .ref aF_9, .ref aC_9, .ref aX_9])), (aC_9, .inl (cC_9, 4, .inr (.inr (.inr (.inr gc_9))))), (c0_9, .inr (1, [.ref aB_9, .ref v0_9, .ref w0_9, .int 0, .int 0, .int 0, .int 0, .int 0, .int 0, .int 0, .int 0, .int 0, .int 0, .int 0, .int 0, .int 0, .long 0, .int 0, .int 0])), (c1_9, .inr (1, [.ref aB_9, .ref v1_9, .ref w1_9, .int 0, .int 0, .int 0, .int 0, .int 0, .int 0, .int 0, .int 0, .int 0, .int 0, .int 0, .int 0, .int 0, .long 0, .int 0, .int 0])), (c2_9, .inr (1, [.ref aB_9, .ref v2_9, .ref w2_9, .int 0, .int 0, .int 0, .int 0, .int 0, .int 0, .int 0, .int 0, .int 0, .int 0, .int 0, .int 0, .int 0, .long 0, .int 0, .int 0])), (c3_9, .inr (1, [.ref aB_9, .ref v3_9, .ref w3_9, .int 0, .int 0, .int 0, .int 0, .int 0, .int 0, .int 0, .int 0, .int 0, .int 0, .int 0, .int 0, .int 0, .long 0, .int 0, .int 0])), (v0_9, .inr (8, [.int 0, .int 0, .int 0, .int 0])), (v1_9, .inr (8, [.int 0, .int 0, .int 0, .int 0])), (v2_9, .inr (8, [.int 0, .int 0, .int 0, .int 0])), (v3_9, .inr (8, [.int 0, .int 0, .int 0, .int 0])), (w0_9, .inr (8, [.int 0, .int 0, .int 0, .int 0])), (w1_9, .inr (8, [.int 0, .int 0, .int 0, .int 0])), (w2_9, .inr (8, [.int 0, .int 0, .int 0, .int 0])), (w3_9, .inr (8, [.int 0, .int 0, .int 0, .int 0])), (q_13, .inr (10, mdF qa_22 (nI kk_22) 0 0 (-1) 1 0 6 125 (-1) (-1) (-1) 0 0 17 0 (-1) 0 0 0)), (qa_22 52, .inl (cZ_22, 4, .inl (fun _ => 0)))] H) (hD : va_D A [(q_0, .inr (9, [.ref aT_9, .ref aB_9, .ref aS_9, .ref aR_9, .ref aF_9, .ref aC_9, .ref aX_9])), (aC_9, .inl (cC_9, 4, .inr (.inr (.inr (.inr gc_9))))), (c0_9, .inr (1, [.ref aB_9, .ref v0_9, .ref w0_9, .int 0, .int 0, .int 0, .int 0, .int 0, .int 0, .int 0, .int 0, .int 0, .int 0, .int 0, .int 0, .int 0, .long 0, .int 0, .int 0])), (c1_9, .inr (1, [.ref aB_9, .ref v1_9, .ref w1_9, .int 0, .int 0, .int 0, .int 0, .int 0, .int 0, .int 0, .int 0, .int 0, .int 0, .int 0, .int 0, .int 0, .long 0, .int 0, .int 0])), (c2_9, .inr (1, [.ref aB_9, .ref v2_9, .ref w2_9, .int 0, .int 0, .int 0, .int 0, .int 0, .int 0, .int 0, .int 0, .int 0, .int 0, .int 0, .int 0, .int 0, .long 0, .int 0, .int 0])), (c3_9, .inr (1, [.ref aB_9, .ref v3_9, .ref w3_9, .int 0, .int 0, .int 0, .int 0, .int 0, .int 0, .int 0, .int 0, .int 0, .int 0, .int 0, .int 0, .int 0, .long 0, .int 0, .int 0])), (v0_9, .inr (8, [.int 0, .int 0, .int 0, .int 0])), (v1_9, .inr (8, [.int 0, .int 0, .int 0, .int 0])), (v2_9, .inr (8, [.int 0, .int 0, .int 0, .int 0])), (v3_9, .inr (8, [.int 0, .int 0, .int 0, .int 0])), (w0_9, .inr (8, [.int 0, .int 0, .int 0, .int 0])), (w1_9, .inr (8, [.int 0, .int 0, .int 0, .int 0])), (w2_9, .inr (8, [.int 0, .int 0, .int 0, .int 0])), (w3_9, .inr (8, [.int 0, .int 0, .int 0, .int 0])), (q_13, .inr (10, mdF qa_22 (nI kk_22) 0 0 (-1) 1 0 6 125 (-1) (-1) (-1) 0 0 17 0 (-1) 0 0 0)), (qa_22 52, .inl (cZ_22, 4, .inl (fun _ => 0)))]) (hS : va_S A s.heap H locs) (hl : lv_has ls 4 [(3, .int 1), (2, .ref q_13), (1, .ref q_0), (0, .ref b)]) : W p l e room_1 s m #[Value.ref b] below meth c H locs 95 104445 (lw_Z below #[Value.ref b] s) (F0 m 639 ls []) := by
  refine lv_aload_n hx hb dL_law_639 rfl (lv_at hl 2 rfl) ?_
  refine lv_aload_n hx hb dL_law_640 rfl (lv_at hl 3 rfl) ?_
  refine lv_iload_n hx hb dL_law_641 rfl (lv_at hl 0 rfl) ?_
  refine lv_iconst (v := 1) hx hb dL_law_642 (by decide) ?_
  refine lv_iadd hx hb dL_law_643 ?_
  refine g_topi (y := 2) (by decide) ?_
  refine g_sld hx hb hX hbl hbA hS 2 (by decide) (by unfold vp_in; decide) dL_law_644 ?_
  refine lv_aload_n hx hb dL_law_645 rfl (lv_at hl 3 rfl) ?_
  refine lv_iload_n hx hb dL_law_646 rfl (lv_at hl 0 rfl) ?_
  refine lv_iconst (v := 2) hx hb dL_law_647 (by decide) ?_
  refine lv_iadd hx hb dL_law_648 ?_
  refine g_topi (y := 3) (by decide) ?_
  refine g_sld hx hb hX hbl hbA hS 3 (by decide) (by unfold vp_in; decide) dL_law_649 ?_
  refine lv_if_eq (tgt := 657) hx hb dL_law_650 (by decide) (fun c_650 => ?_) (fun c_650 => ?_)
  · refine lv_iconst (v := 0) hx hb dL_law_657 (by decide) ?_
    refine g_calli (wr := [(q_13, .inr (10, mdF qa_22 (nI kk_22) 0 0 (-1) 1 0 6 125 (-1) (-1) (-1) 0 0 17 0 (-1) 0 0 0)), (qa_22 52, .inl (cZ_22, 4, .inl (fun _ => 0)))]) (va_runV (As := [.int (xs 2), .int 0]) (rest := []) ⟨hx, hb, hml, hown, hts⟩ (f_mute l dC dI H.size q_0 aT_9 aB_9 aS_9 aR_9 aF_9 aC_9 aX_9 c0_9 c1_9 c2_9 c3_9 v0_9 v1_9 v2_9 v3_9 w0_9 w1_9 w2_9 w3_9 cC_9 gc_9 (xs 2) 0 (hc0_9) (hc1_9) (hc2_9) (hc3_9) (Or.inl rfl)) (cwV 2 hts (gG_V kw_615 kw_616 kw_617 kw_2 kw_618) rfl rfl rfl (by decide +kernel) ⟨Nat.le_of_ble_eq_true rfl, Nat.le_of_ble_eq_true rfl⟩) (g_preV (C := RX10) (T := TX10) (N := 7) hP hD hK hS hA hN hZ (q0 := 0) rfl rfl [0, 1, 2, 3, 4, 5, 6, 7, 8, 9, 10, 11, 12, 13] (by decide) rfl [4] rfl) rfl rfl hl.1 rfl (lv_room (Nat.le_of_ble_eq_true rfl)) dL_law_658 ⟨Nat.le_of_ble_eq_true rfl, Nat.le_of_ble_eq_true rfl⟩) hP hD hK hS hA [0, 1, 2, 3, 4, 5, 6, 7, 8, 9, 10, 11, 12, 13] [14, 15] rfl rfl (by decide) (by decide) (fun r_658 w ty1 H locs hw_658 hP hD _ hS => ?_)
    rcases hw_658 with ⟨hu, hr_658⟩
    cases hu
    have hP : va_P (dC, dI) vwCl [(q_13, .inr (10, mdF qa_22 (nI kk_22) 0 0 (-1) 1 0 6 125 (-1) (-1) (-1) 0 0 17 0 (-1) 0 0 0)), (qa_22 52, .inl (cZ_22, 4, .inl (fun _ => 0)))] H := hP
    have hD : va_D A [(q_13, .inr (10, mdF qa_22 (nI kk_22) 0 0 (-1) 1 0 6 125 (-1) (-1) (-1) 0 0 17 0 (-1) 0 0 0)), (qa_22 52, .inl (cZ_22, 4, .inl (fun _ => 0)))] := hD
    refine g_topi (y := 0) hr_658 ?_
    refine lv_aload_n hx hb dL_law_661 rfl (lv_at hl 1 rfl) ?_
    refine lv_aload_n hx hb dL_law_662 rfl (lv_at hl 3 rfl) ?_
    refine lv_iload_n hx hb dL_law_663 rfl (lv_at hl 0 rfl) ?_
    refine lv_iconst (v := 1) hx hb dL_law_664 (by decide) ?_
    refine lv_iadd hx hb dL_law_665 ?_
    refine g_topi (y := 2) (by decide) ?_
    refine g_sld hx hb hX hbl hbA hS 2 (by decide) (by unfold vp_in; decide) dL_law_666 ?_
    refine lv_aload_n hx hb dL_law_667 rfl (lv_at hl 3 rfl) ?_
    refine lv_iload_n hx hb dL_law_668 rfl (lv_at hl 0 rfl) ?_
    refine lv_iconst (v := 2) hx hb dL_law_669 (by decide) ?_
    refine lv_iadd hx hb dL_law_670 ?_
    refine g_topi (y := 3) (by decide) ?_
    refine g_sld hx hb hX hbl hbA hS 3 (by decide) (by unfold vp_in; decide) dL_law_671 ?_
    refine lv_if_eq (tgt := 679) hx hb dL_law_672 (by decide) (fun c_672 => ?_) (fun c_672 => ?_)
    · refine lv_iconst (v := 0) hx hb dL_law_679 (by decide) ?_
      refine g_calli (wr := []) (va_runV (As := [.int (xs 2), .int 0]) (rest := [.int 0]) ⟨hx, hb, hml, hown, hts⟩ (mf_mute l dC dI H.size q_13 qa_22 kk_22 cZ_22 (xs 2) 0 (Or.inl rfl)) (cwV 2 hts (gG_V kw_620 kw_621 kw_622 kw_5 kw_623) rfl rfl rfl (by decide +kernel) ⟨Nat.le_of_ble_eq_true rfl, Nat.le_of_ble_eq_true rfl⟩) (g_preV (C := RX11) (T := TX11) (N := 53) hP hD hK hS hA hN hZ (q0 := 0) rfl rfl [0, 1] (by decide) rfl [5] rfl) rfl rfl hl.1 rfl (lv_room (Nat.le_of_ble_eq_true rfl)) dL_law_680 ⟨Nat.le_of_ble_eq_true rfl, Nat.le_of_ble_eq_true rfl⟩) hP hD hK hS hA [0, 1] [] rfl rfl (by decide) (by decide) (fun r_680 w ty1 H locs hw_680 hP hD _ hS => ?_)
      rcases hw_680 with ⟨hu, hr_680⟩
      cases hu
      have hP : va_P (dC, dI) vwCl [] H := hP
      have hD : va_D A [] := hD
      refine g_topi (y := 0) hr_680 ?_
      refine lv_icmp_eq (tgt := 800) hx hb dL_law_683 (by decide) (fun c_683 => ?_) (fun c_683 => absurd c_683 (by decide))
      refine lv_iinc (v := 7) (lv' := [(3, .int 7), (2, .ref q_13), (1, .ref q_0), (0, .ref b)]) hx hb dL_law_800 hl (k := 0) rfl (by decide) (by decide) rfl (fun ls hl => ?_)
      refine lv_goto (tgt := 28) hx hb dL_law_803 (by decide) ?_
      refine lv_iload_n hx hb dL_law_28 rfl (lv_at hl 0 rfl) ?_
      refine lv_aload_n hx hb dL_law_29 rfl (lv_at hl 3 rfl) ?_
      refine va_slen hx hb hX hbl hbA hS dL_law_30 ?_
      refine g_topi (y := 7) rfl ?_
      refine lv_bipush (v := 6) hx hb dL_law_31 (by decide) ?_
      refine lv_isub hx hb dL_law_33 ?_
      refine g_topi (y := 1) (by decide) ?_
      refine lv_icmp_gt (tgt := 806) hx hb dL_law_34 (by decide) (fun c_34_2 => ?_) (fun c_34_2 => absurd c_34_2 (by decide))
      refine lv_iconst (v := 1) hx hb dL_law_806 (by decide) ?_
      refine va_forget (fun q hq => hAI _ (hS.2.2 q hq)) ?_
      refine W.widen (k := 600000) (n := 7302250) (Nat.le_of_ble_eq_true rfl) (Nat.le_of_ble_eq_true rfl) ?_
      exact lw_ret hx hb hr hlocks dL_law_807
    refine lv_iconst (v := 1) hx hb dL_law_675 (by decide) ?_
    refine lv_goto (tgt := 680) hx hb dL_law_676 (by decide) ?_
    refine g_calli (wr := []) (va_runV (As := [.int (xs 2), .int 1]) (rest := [.int 0]) ⟨hx, hb, hml, hown, hts⟩ (mf_mute l dC dI H.size q_13 qa_22 kk_22 cZ_22 (xs 2) 1 (Or.inr rfl)) (cwV 2 hts (gG_V kw_620 kw_621 kw_622 kw_5 kw_623) rfl rfl rfl (by decide +kernel) ⟨Nat.le_of_ble_eq_true rfl, Nat.le_of_ble_eq_true rfl⟩) (g_preV (C := RX11) (T := TX11) (N := 53) hP hD hK hS hA hN hZ (q0 := 0) rfl rfl [0, 1] (by decide) rfl [5] rfl) rfl rfl hl.1 rfl (lv_room (Nat.le_of_ble_eq_true rfl)) dL_law_680 ⟨Nat.le_of_ble_eq_true rfl, Nat.le_of_ble_eq_true rfl⟩) hP hD hK hS hA [0, 1] [] rfl rfl (by decide) (by decide) (fun r_680 w ty1 H locs hw_680 hP hD _ hS => ?_)
    rcases hw_680 with ⟨hu, hr_680⟩
    cases hu
    have hP : va_P (dC, dI) vwCl [] H := hP
    have hD : va_D A [] := hD
    refine g_topi (y := 0) hr_680 ?_
    refine lv_icmp_eq (tgt := 800) hx hb dL_law_683 (by decide) (fun c_683 => ?_) (fun c_683 => absurd c_683 (by decide))
    refine lv_iinc (v := 7) (lv' := [(3, .int 7), (2, .ref q_13), (1, .ref q_0), (0, .ref b)]) hx hb dL_law_800 hl (k := 0) rfl (by decide) (by decide) rfl (fun ls hl => ?_)
    refine lv_goto (tgt := 28) hx hb dL_law_803 (by decide) ?_
    refine lv_iload_n hx hb dL_law_28 rfl (lv_at hl 0 rfl) ?_
    refine lv_aload_n hx hb dL_law_29 rfl (lv_at hl 3 rfl) ?_
    refine va_slen hx hb hX hbl hbA hS dL_law_30 ?_
    refine g_topi (y := 7) rfl ?_
    refine lv_bipush (v := 6) hx hb dL_law_31 (by decide) ?_
    refine lv_isub hx hb dL_law_33 ?_
    refine g_topi (y := 1) (by decide) ?_
    refine lv_icmp_gt (tgt := 806) hx hb dL_law_34 (by decide) (fun c_34_2 => ?_) (fun c_34_2 => absurd c_34_2 (by decide))
    refine lv_iconst (v := 1) hx hb dL_law_806 (by decide) ?_
    refine va_forget (fun q hq => hAI _ (hS.2.2 q hq)) ?_
    refine W.widen (k := 600000) (n := 7302250) (Nat.le_of_ble_eq_true rfl) (Nat.le_of_ble_eq_true rfl) ?_
    exact lw_ret hx hb hr hlocks dL_law_807
  refine lv_iconst (v := 1) hx hb dL_law_653 (by decide) ?_
  refine lv_goto (tgt := 658) hx hb dL_law_654 (by decide) ?_
  refine g_calli (wr := [(q_13, .inr (10, mdF qa_22 (nI kk_22) 0 0 (-1) 1 0 6 125 (-1) (-1) (-1) 0 0 17 0 (-1) 0 0 0)), (qa_22 52, .inl (cZ_22, 4, .inl (fun _ => 0)))]) (va_runV (As := [.int (xs 2), .int 1]) (rest := []) ⟨hx, hb, hml, hown, hts⟩ (f_mute l dC dI H.size q_0 aT_9 aB_9 aS_9 aR_9 aF_9 aC_9 aX_9 c0_9 c1_9 c2_9 c3_9 v0_9 v1_9 v2_9 v3_9 w0_9 w1_9 w2_9 w3_9 cC_9 gc_9 (xs 2) 1 (hc0_9) (hc1_9) (hc2_9) (hc3_9) (Or.inr rfl)) (cwV 2 hts (gG_V kw_615 kw_616 kw_617 kw_2 kw_618) rfl rfl rfl (by decide +kernel) ⟨Nat.le_of_ble_eq_true rfl, Nat.le_of_ble_eq_true rfl⟩) (g_preV (C := RX10) (T := TX10) (N := 7) hP hD hK hS hA hN hZ (q0 := 0) rfl rfl [0, 1, 2, 3, 4, 5, 6, 7, 8, 9, 10, 11, 12, 13] (by decide) rfl [4] rfl) rfl rfl hl.1 rfl (lv_room (Nat.le_of_ble_eq_true rfl)) dL_law_658 ⟨Nat.le_of_ble_eq_true rfl, Nat.le_of_ble_eq_true rfl⟩) hP hD hK hS hA [0, 1, 2, 3, 4, 5, 6, 7, 8, 9, 10, 11, 12, 13] [14, 15] rfl rfl (by decide) (by decide) (fun r_658 w ty1 H locs hw_658 hP hD _ hS => ?_)
  rcases hw_658 with ⟨hu, hr_658⟩
  cases hu
  have hP : va_P (dC, dI) vwCl [(q_13, .inr (10, mdF qa_22 (nI kk_22) 0 0 (-1) 1 0 6 125 (-1) (-1) (-1) 0 0 17 0 (-1) 0 0 0)), (qa_22 52, .inl (cZ_22, 4, .inl (fun _ => 0)))] H := hP
  have hD : va_D A [(q_13, .inr (10, mdF qa_22 (nI kk_22) 0 0 (-1) 1 0 6 125 (-1) (-1) (-1) 0 0 17 0 (-1) 0 0 0)), (qa_22 52, .inl (cZ_22, 4, .inl (fun _ => 0)))] := hD
  refine g_topi (y := 0) hr_658 ?_
  refine lv_aload_n hx hb dL_law_661 rfl (lv_at hl 1 rfl) ?_
  refine lv_aload_n hx hb dL_law_662 rfl (lv_at hl 3 rfl) ?_
  refine lv_iload_n hx hb dL_law_663 rfl (lv_at hl 0 rfl) ?_
  refine lv_iconst (v := 1) hx hb dL_law_664 (by decide) ?_
  refine lv_iadd hx hb dL_law_665 ?_
  refine g_topi (y := 2) (by decide) ?_
  refine g_sld hx hb hX hbl hbA hS 2 (by decide) (by unfold vp_in; decide) dL_law_666 ?_
  refine lv_aload_n hx hb dL_law_667 rfl (lv_at hl 3 rfl) ?_
  refine lv_iload_n hx hb dL_law_668 rfl (lv_at hl 0 rfl) ?_
  refine lv_iconst (v := 2) hx hb dL_law_669 (by decide) ?_
  refine lv_iadd hx hb dL_law_670 ?_
  refine g_topi (y := 3) (by decide) ?_
  refine g_sld hx hb hX hbl hbA hS 3 (by decide) (by unfold vp_in; decide) dL_law_671 ?_
  refine lv_if_eq (tgt := 679) hx hb dL_law_672 (by decide) (fun c_672 => ?_) (fun c_672 => ?_)
  · refine lv_iconst (v := 0) hx hb dL_law_679 (by decide) ?_
    refine g_calli (wr := []) (va_runV (As := [.int (xs 2), .int 0]) (rest := [.int 0]) ⟨hx, hb, hml, hown, hts⟩ (mf_mute l dC dI H.size q_13 qa_22 kk_22 cZ_22 (xs 2) 0 (Or.inl rfl)) (cwV 2 hts (gG_V kw_620 kw_621 kw_622 kw_5 kw_623) rfl rfl rfl (by decide +kernel) ⟨Nat.le_of_ble_eq_true rfl, Nat.le_of_ble_eq_true rfl⟩) (g_preV (C := RX11) (T := TX11) (N := 53) hP hD hK hS hA hN hZ (q0 := 0) rfl rfl [0, 1] (by decide) rfl [5] rfl) rfl rfl hl.1 rfl (lv_room (Nat.le_of_ble_eq_true rfl)) dL_law_680 ⟨Nat.le_of_ble_eq_true rfl, Nat.le_of_ble_eq_true rfl⟩) hP hD hK hS hA [0, 1] [] rfl rfl (by decide) (by decide) (fun r_680 w ty1 H locs hw_680 hP hD _ hS => ?_)
    rcases hw_680 with ⟨hu, hr_680⟩
    cases hu
    have hP : va_P (dC, dI) vwCl [] H := hP
    have hD : va_D A [] := hD
    refine g_topi (y := 0) hr_680 ?_
    refine lv_icmp_eq (tgt := 800) hx hb dL_law_683 (by decide) (fun c_683 => ?_) (fun c_683 => absurd c_683 (by decide))
    refine lv_iinc (v := 7) (lv' := [(3, .int 7), (2, .ref q_13), (1, .ref q_0), (0, .ref b)]) hx hb dL_law_800 hl (k := 0) rfl (by decide) (by decide) rfl (fun ls hl => ?_)
    refine lv_goto (tgt := 28) hx hb dL_law_803 (by decide) ?_
    refine lv_iload_n hx hb dL_law_28 rfl (lv_at hl 0 rfl) ?_
    refine lv_aload_n hx hb dL_law_29 rfl (lv_at hl 3 rfl) ?_
    refine va_slen hx hb hX hbl hbA hS dL_law_30 ?_
    refine g_topi (y := 7) rfl ?_
    refine lv_bipush (v := 6) hx hb dL_law_31 (by decide) ?_
    refine lv_isub hx hb dL_law_33 ?_
    refine g_topi (y := 1) (by decide) ?_
    refine lv_icmp_gt (tgt := 806) hx hb dL_law_34 (by decide) (fun c_34_2 => ?_) (fun c_34_2 => absurd c_34_2 (by decide))
    refine lv_iconst (v := 1) hx hb dL_law_806 (by decide) ?_
    refine va_forget (fun q hq => hAI _ (hS.2.2 q hq)) ?_
    refine W.widen (k := 600000) (n := 7302250) (Nat.le_of_ble_eq_true rfl) (Nat.le_of_ble_eq_true rfl) ?_
    exact lw_ret hx hb hr hlocks dL_law_807
  refine lv_iconst (v := 1) hx hb dL_law_675 (by decide) ?_
  refine lv_goto (tgt := 680) hx hb dL_law_676 (by decide) ?_
  refine g_calli (wr := []) (va_runV (As := [.int (xs 2), .int 1]) (rest := [.int 0]) ⟨hx, hb, hml, hown, hts⟩ (mf_mute l dC dI H.size q_13 qa_22 kk_22 cZ_22 (xs 2) 1 (Or.inr rfl)) (cwV 2 hts (gG_V kw_620 kw_621 kw_622 kw_5 kw_623) rfl rfl rfl (by decide +kernel) ⟨Nat.le_of_ble_eq_true rfl, Nat.le_of_ble_eq_true rfl⟩) (g_preV (C := RX11) (T := TX11) (N := 53) hP hD hK hS hA hN hZ (q0 := 0) rfl rfl [0, 1] (by decide) rfl [5] rfl) rfl rfl hl.1 rfl (lv_room (Nat.le_of_ble_eq_true rfl)) dL_law_680 ⟨Nat.le_of_ble_eq_true rfl, Nat.le_of_ble_eq_true rfl⟩) hP hD hK hS hA [0, 1] [] rfl rfl (by decide) (by decide) (fun r_680 w ty1 H locs hw_680 hP hD _ hS => ?_)
  rcases hw_680 with ⟨hu, hr_680⟩
  cases hu
  have hP : va_P (dC, dI) vwCl [] H := hP
  have hD : va_D A [] := hD
  refine g_topi (y := 0) hr_680 ?_
  refine lv_icmp_eq (tgt := 800) hx hb dL_law_683 (by decide) (fun c_683 => ?_) (fun c_683 => absurd c_683 (by decide))
  refine lv_iinc (v := 7) (lv' := [(3, .int 7), (2, .ref q_13), (1, .ref q_0), (0, .ref b)]) hx hb dL_law_800 hl (k := 0) rfl (by decide) (by decide) rfl (fun ls hl => ?_)
  refine lv_goto (tgt := 28) hx hb dL_law_803 (by decide) ?_
  refine lv_iload_n hx hb dL_law_28 rfl (lv_at hl 0 rfl) ?_
  refine lv_aload_n hx hb dL_law_29 rfl (lv_at hl 3 rfl) ?_
  refine va_slen hx hb hX hbl hbA hS dL_law_30 ?_
  refine g_topi (y := 7) rfl ?_
  refine lv_bipush (v := 6) hx hb dL_law_31 (by decide) ?_
  refine lv_isub hx hb dL_law_33 ?_
  refine g_topi (y := 1) (by decide) ?_
  refine lv_icmp_gt (tgt := 806) hx hb dL_law_34 (by decide) (fun c_34_2 => ?_) (fun c_34_2 => absurd c_34_2 (by decide))
  refine lv_iconst (v := 1) hx hb dL_law_806 (by decide) ?_
  refine va_forget (fun q hq => hAI _ (hS.2.2 q hq)) ?_
  refine W.widen (k := 600000) (n := 7302250) (Nat.le_of_ble_eq_true rfl) (Nat.le_of_ble_eq_true rfl) ?_
  exact lw_ret hx hb hr hlocks dL_law_807

set_option maxHeartbeats 1000000 in
set_option maxRecDepth 100000 in
theorem lawc_688 {p : Program} {l : Launch} {e : Env} {s : State} {m : MethodId} {below : List Frame} {meth : Method} {c : Code} {b : Nat} {xs : Nat → Int32} {A : Nat → Prop} {dC : Nat → ClassId} {dI : Nat → Nat → Nat} {aT_9 : Nat} {aB_9 : Nat} {aS_9 : Nat} {ce_9 : Nat} {pl_9 : Nat} {aR_9 : Nat} {aF_9 : Nat} {be_9 : Nat} {aX_9 : Nat} {le_9 : Nat} {ri_9 : Nat} {aC_9 : Nat} {c0_9 : Nat} {c1_9 : Nat} {c2_9 : Nat} {c3_9 : Nat} {v0_9 : Nat} {v1_9 : Nat} {v2_9 : Nat} {v3_9 : Nat} {w0_9 : Nat} {w1_9 : Nat} {w2_9 : Nat} {w3_9 : Nat} {cB_9 : ClassId} {cS_9 : ClassId} {cI_9 : ClassId} {cJ_9 : ClassId} {cC_9 : ClassId} {gc_9 : Nat → Option Nat} {fb_9 : Nat → Int64} {k_9 : Nat} {qa_22 : Nat → Nat} {kk_22 : Nat} {cZ_22 : ClassId} {fz_22 : Nat → Int32} {q_0 : Nat} {q_13 : Nat} {H : Heap} {locs : List Loc} {ls : Array Slot} (hx : p.tables.exec = Jvm.exec) (hb : c.code = code) (hr : meth.sig.returnType = ret) (hlocks : meth.locks = false) (hml : c.maxLocals = 4) (hown : s.vm.findClass RL = some m.cls) (hts : ∀ w ∈ wsG (Cond.initialized RX10), w.before #[Value.ref b] s = true) (hA : ∀ q : Nat, s.heap.size ≤ q → A q) (hAI : ∀ q : Nat, A q → s.heap.size ≤ q) (hbA : ¬ A b) (hN : gN s) (hZ : gZ A s s.heap) (hX : va_X b 7 xs s s.heap) (hbl : b < s.heap.size) (hk2_9 : k_9 ≤ 16000) (hk2_22 : kk_22 ≤ 16000) (hc0_9 : gc_9 0 = some c0_9) (hc1_9 : gc_9 1 = some c1_9) (hc2_9 : gc_9 2 = some c2_9) (hc3_9 : gc_9 3 = some c3_9) (hK : va_K (dC, dI) vwCl [(cB_9, .byte), (cS_9, .object RX5), (cI_9, .int), (cJ_9, .long), (cC_9, .object RX1), (cZ_22, .boolean)] s) (hP : va_P (dC, dI) vwCl [(q_0, .inr (9, [.ref aT_9, .ref aB_9, .ref aS_9, .ref aR_9, .ref aF_9, .ref aC_9, .ref aX_9])), (aS_9, .inr (6, [.ref ce_9, .ref pl_9, .int 1, .int 0])), (ce_9, .inl (cI_9, 2048, .inl (fun _ => 0))), (pl_9, .inl (cI_9, 128, .inl (fun _ => 0))), (aF_9, .inr (2, [.ref aS_9, .ref be_9, .int 6, .int 125, .int 0, .int 0, .int 0, .int 0, .int 0, .int 0, .int (-1), .int (-1), .int (-1)])), (be_9, .inl (cJ_9, 128, .inr (.inl fb_9))), (aX_9, .inr (3, [.int (nI k_9), .ref le_9, .ref ri_9, .int 0, .int 17])), (le_9, .inl (cI_9, (k_9 * 5 / 64), .inl (fun _ => 0))), (ri_9, .inl (cI_9, (k_9 * 5 / 64), .inl (fun _ => 0))), (aC_9, .inl (cC_9, 4, .inr (.inr (.inr (.inr gc_9))))), (c0_9, .inr (1, [.ref aB_9, .ref v0_9, .ref w0_9, .int 0, .int 0, .int 0, .int 0, .int 0, .int 0, .int 0, .int 0, .int 0, .int 0, .int 0, .int 0, .int 0, .long 0, .int 0, .int 0])), (c1_9, .inr (1, [.ref aB_9, .ref v1_9, .ref w1_9, .int 0, .int 0, .int 0, .int 0, .int 0, .int 0, .int 0, .int 0, .int 0, .int 0, .int 0, .int 0, .int 0, .long 0, .int 0, .int 0])), (c2_9, .inr (1, [.ref aB_9, .ref v2_9, .ref w2_9, .int 0, .int 0, .int 0, .int 0, .int 0, .int 0, .int 0, .int 0, .int 0, .int 0, .int 0, .int 0, .int 0, .long 0, .int 0, .int 0])), (c3_9, .inr (1, [.ref aB_9, .ref v3_9, .ref w3_9, .int 0, .int 0, .int 0, .int 0, .int 0, .int 0, .int 0, .int 0, .int 0, .int 0, .int 0, .int 0, .int 0, .long 0, .int 0, .int 0])), (q_13, .inr (10, mdF qa_22 (nI kk_22) 0 0 (-1) 1 0 6 125 (-1) (-1) (-1) 0 0 17 0 (-1) 0 0 0)), (qa_22 11, .inl (cI_9, 2048, .inl (fun _ => 0))), (qa_22 12, .inl (cI_9, 128, .inl (fun _ => 0))), (qa_22 25, .inl (cZ_22, 8192, .inl fz_22)), (qa_22 29, .inl (cI_9, 1300, .inl (fun _ => 0))), (qa_22 30, .inl (cI_9, 1300, .inl (fun _ => 0))), (qa_22 32, .inl (cI_9, 4, .inl (fun _ => 0))), (qa_22 34, .inl (cI_9, 4, .inl (fun _ => 0))), (qa_22 46, .inl (cI_9, 4, .inl (fun _ => 0))), (qa_22 47, .inl (cI_9, 4, .inl (fun _ => 0))), (qa_22 48, .inl (cI_9, 4, .inl (fun _ => 0))), (qa_22 49, .inl (cI_9, 4, .inl (fun _ => 0))), (qa_22 51, .inl (cZ_22, 4, .inl (fun _ => 0)))] H) (hD : va_D A [(q_0, .inr (9, [.ref aT_9, .ref aB_9, .ref aS_9, .ref aR_9, .ref aF_9, .ref aC_9, .ref aX_9])), (aS_9, .inr (6, [.ref ce_9, .ref pl_9, .int 1, .int 0])), (ce_9, .inl (cI_9, 2048, .inl (fun _ => 0))), (pl_9, .inl (cI_9, 128, .inl (fun _ => 0))), (aF_9, .inr (2, [.ref aS_9, .ref be_9, .int 6, .int 125, .int 0, .int 0, .int 0, .int 0, .int 0, .int 0, .int (-1), .int (-1), .int (-1)])), (be_9, .inl (cJ_9, 128, .inr (.inl fb_9))), (aX_9, .inr (3, [.int (nI k_9), .ref le_9, .ref ri_9, .int 0, .int 17])), (le_9, .inl (cI_9, (k_9 * 5 / 64), .inl (fun _ => 0))), (ri_9, .inl (cI_9, (k_9 * 5 / 64), .inl (fun _ => 0))), (aC_9, .inl (cC_9, 4, .inr (.inr (.inr (.inr gc_9))))), (c0_9, .inr (1, [.ref aB_9, .ref v0_9, .ref w0_9, .int 0, .int 0, .int 0, .int 0, .int 0, .int 0, .int 0, .int 0, .int 0, .int 0, .int 0, .int 0, .int 0, .long 0, .int 0, .int 0])), (c1_9, .inr (1, [.ref aB_9, .ref v1_9, .ref w1_9, .int 0, .int 0, .int 0, .int 0, .int 0, .int 0, .int 0, .int 0, .int 0, .int 0, .int 0, .int 0, .int 0, .long 0, .int 0, .int 0])), (c2_9, .inr (1, [.ref aB_9, .ref v2_9, .ref w2_9, .int 0, .int 0, .int 0, .int 0, .int 0, .int 0, .int 0, .int 0, .int 0, .int 0, .int 0, .int 0, .int 0, .long 0, .int 0, .int 0])), (c3_9, .inr (1, [.ref aB_9, .ref v3_9, .ref w3_9, .int 0, .int 0, .int 0, .int 0, .int 0, .int 0, .int 0, .int 0, .int 0, .int 0, .int 0, .int 0, .int 0, .long 0, .int 0, .int 0])), (q_13, .inr (10, mdF qa_22 (nI kk_22) 0 0 (-1) 1 0 6 125 (-1) (-1) (-1) 0 0 17 0 (-1) 0 0 0)), (qa_22 11, .inl (cI_9, 2048, .inl (fun _ => 0))), (qa_22 12, .inl (cI_9, 128, .inl (fun _ => 0))), (qa_22 25, .inl (cZ_22, 8192, .inl fz_22)), (qa_22 29, .inl (cI_9, 1300, .inl (fun _ => 0))), (qa_22 30, .inl (cI_9, 1300, .inl (fun _ => 0))), (qa_22 32, .inl (cI_9, 4, .inl (fun _ => 0))), (qa_22 34, .inl (cI_9, 4, .inl (fun _ => 0))), (qa_22 46, .inl (cI_9, 4, .inl (fun _ => 0))), (qa_22 47, .inl (cI_9, 4, .inl (fun _ => 0))), (qa_22 48, .inl (cI_9, 4, .inl (fun _ => 0))), (qa_22 49, .inl (cI_9, 4, .inl (fun _ => 0))), (qa_22 51, .inl (cZ_22, 4, .inl (fun _ => 0)))]) (hS : va_S A s.heap H locs) (hl : lv_has ls 4 [(3, .int 1), (2, .ref q_13), (1, .ref q_0), (0, .ref b)]) : W p l e room_1 s m #[Value.ref b] below meth c H locs 95 104445 (lw_Z below #[Value.ref b] s) (F0 m 688 ls []) := by
  refine lv_aload_n hx hb dL_law_688 rfl (lv_at hl 2 rfl) ?_
  refine lv_aload_n hx hb dL_law_689 rfl (lv_at hl 3 rfl) ?_
  refine lv_iload_n hx hb dL_law_690 rfl (lv_at hl 0 rfl) ?_
  refine lv_iconst (v := 1) hx hb dL_law_691 (by decide) ?_
  refine lv_iadd hx hb dL_law_692 ?_
  refine g_topi (y := 2) (by decide) ?_
  refine g_sld hx hb hX hbl hbA hS 2 (by decide) (by unfold vp_in; decide) dL_law_693 ?_
  refine g_calli (wr := [(q_13, .inr (10, mdF qa_22 (nI kk_22) 0 0 (-1) 1 0 6 125 (-1) (-1) (-1) 0 0 17 0 (-1) 0 0 0)), (qa_22 11, .inl (cI_9, 2048, .inl (fun _ => 0))), (qa_22 12, .inl (cI_9, 128, .inl (fun _ => 0))), (qa_22 25, .inl (cZ_22, 8192, .inl fz_22)), (qa_22 29, .inl (cI_9, 1300, .inl (fun _ => 0))), (qa_22 30, .inl (cI_9, 1300, .inl (fun _ => 0))), (qa_22 32, .inl (cI_9, 4, .inl (fun _ => 0))), (qa_22 34, .inl (cI_9, 4, .inl (fun _ => 0))), (qa_22 46, .inl (cI_9, 4, .inl (fun _ => 0))), (qa_22 47, .inl (cI_9, 4, .inl (fun _ => 0))), (qa_22 48, .inl (cI_9, 4, .inl (fun _ => 0))), (qa_22 49, .inl (cI_9, 4, .inl (fun _ => 0))), (qa_22 51, .inl (cZ_22, 4, .inl (fun _ => 0)))]) (va_runV (As := [.int (xs 2)]) (rest := []) ⟨hx, hb, hml, hown, hts⟩ (f_play l dC dI H.size q_0 aT_9 aB_9 aS_9 aR_9 aF_9 aC_9 aX_9 be_9 le_9 ri_9 ce_9 pl_9 c0_9 c1_9 c2_9 c3_9 v0_9 v1_9 v2_9 v3_9 w0_9 w1_9 w2_9 w3_9 cI_9 cJ_9 cC_9 gc_9 fb_9 k_9 (xs 2) (hc0_9) (hc1_9) (hc2_9) (hc3_9) (hk2_9)) (cwV 1 hts (gG_V kw_624 kw_625 kw_626 kw_2 kw_627) rfl rfl rfl (by decide +kernel) ⟨Nat.le_of_ble_eq_true rfl, Nat.le_of_ble_eq_true rfl⟩) (g_preV (C := RX10) (T := TX10) (N := 7) hP hD hK hS hA hN hZ (q0 := 0) rfl rfl [0, 4, 5, 1, 2, 3, 6, 7, 8, 9, 10, 11, 12, 13] (by decide) rfl [2, 3, 4] rfl) rfl rfl hl.1 rfl (lv_room (Nat.le_of_ble_eq_true rfl)) dL_law_694 ⟨Nat.le_of_ble_eq_true rfl, Nat.le_of_ble_eq_true rfl⟩) hP hD hK hS hA [0, 4, 5, 1, 2, 3, 6, 7, 8, 9, 10, 11, 12, 13] [14, 15, 16, 17, 18, 19, 20, 21, 22, 23, 24, 25, 26] rfl rfl (by decide) (by decide) (fun r_694 w ty1 H locs hw_694 hP hD _ hS => ?_)
  rcases hw_694 with ⟨hu, hr_694⟩
  cases hu
  have hP : va_P (dC, dI) vwCl [(q_13, .inr (10, mdF qa_22 (nI kk_22) 0 0 (-1) 1 0 6 125 (-1) (-1) (-1) 0 0 17 0 (-1) 0 0 0)), (qa_22 11, .inl (cI_9, 2048, .inl (fun _ => 0))), (qa_22 12, .inl (cI_9, 128, .inl (fun _ => 0))), (qa_22 25, .inl (cZ_22, 8192, .inl fz_22)), (qa_22 29, .inl (cI_9, 1300, .inl (fun _ => 0))), (qa_22 30, .inl (cI_9, 1300, .inl (fun _ => 0))), (qa_22 32, .inl (cI_9, 4, .inl (fun _ => 0))), (qa_22 34, .inl (cI_9, 4, .inl (fun _ => 0))), (qa_22 46, .inl (cI_9, 4, .inl (fun _ => 0))), (qa_22 47, .inl (cI_9, 4, .inl (fun _ => 0))), (qa_22 48, .inl (cI_9, 4, .inl (fun _ => 0))), (qa_22 49, .inl (cI_9, 4, .inl (fun _ => 0))), (qa_22 51, .inl (cZ_22, 4, .inl (fun _ => 0)))] H := hP
  have hD : va_D A [(q_13, .inr (10, mdF qa_22 (nI kk_22) 0 0 (-1) 1 0 6 125 (-1) (-1) (-1) 0 0 17 0 (-1) 0 0 0)), (qa_22 11, .inl (cI_9, 2048, .inl (fun _ => 0))), (qa_22 12, .inl (cI_9, 128, .inl (fun _ => 0))), (qa_22 25, .inl (cZ_22, 8192, .inl fz_22)), (qa_22 29, .inl (cI_9, 1300, .inl (fun _ => 0))), (qa_22 30, .inl (cI_9, 1300, .inl (fun _ => 0))), (qa_22 32, .inl (cI_9, 4, .inl (fun _ => 0))), (qa_22 34, .inl (cI_9, 4, .inl (fun _ => 0))), (qa_22 46, .inl (cI_9, 4, .inl (fun _ => 0))), (qa_22 47, .inl (cI_9, 4, .inl (fun _ => 0))), (qa_22 48, .inl (cI_9, 4, .inl (fun _ => 0))), (qa_22 49, .inl (cI_9, 4, .inl (fun _ => 0))), (qa_22 51, .inl (cZ_22, 4, .inl (fun _ => 0)))] := hD
  refine g_topi (y := playF (xs 2)) hr_694 ?_
  refine lv_aload_n hx hb dL_law_697 rfl (lv_at hl 1 rfl) ?_
  refine lv_aload_n hx hb dL_law_698 rfl (lv_at hl 3 rfl) ?_
  refine lv_iload_n hx hb dL_law_699 rfl (lv_at hl 0 rfl) ?_
  refine lv_iconst (v := 1) hx hb dL_law_700 (by decide) ?_
  refine lv_iadd hx hb dL_law_701 ?_
  refine g_topi (y := 2) (by decide) ?_
  refine g_sld hx hb hX hbl hbA hS 2 (by decide) (by unfold vp_in; decide) dL_law_702 ?_
  refine g_calli (wr := []) (va_runV (As := [.int (xs 2)]) (rest := [.int (playF (xs 2))]) ⟨hx, hb, hml, hown, hts⟩ (mf_play l dC dI H.size q_13 qa_22 kk_22 cI_9 cZ_22 (xs 2) fz_22 (hk2_22)) (cwV 1 hts (gG_V kw_829 kw_830 kw_831 kw_5 kw_832) rfl rfl rfl (by decide +kernel) ⟨Nat.le_of_ble_eq_true rfl, Nat.le_of_ble_eq_true rfl⟩) (g_preV (C := RX11) (T := TX11) (N := 53) hP hD hK hS hA hN hZ (q0 := 0) rfl rfl [0, 1, 2, 3, 4, 5, 6, 7, 8, 9, 10, 11, 12] (by decide) rfl [2, 5] rfl) rfl rfl hl.1 rfl (lv_room (Nat.le_of_ble_eq_true rfl)) dL_law_703 ⟨Nat.le_of_ble_eq_true rfl, Nat.le_of_ble_eq_true rfl⟩) hP hD hK hS hA [0, 1, 2, 3, 4, 5, 6, 7, 8, 9, 10, 11, 12] [] rfl rfl (by decide) (by decide) (fun r_703 w ty1 H locs hw_703 hP hD _ hS => ?_)
  rcases hw_703 with ⟨hu, hr_703⟩
  cases hu
  have hP : va_P (dC, dI) vwCl [] H := hP
  have hD : va_D A [] := hD
  refine g_topi (y := playF (xs 2)) hr_703 ?_
  refine lv_icmp_eq (tgt := 800) hx hb dL_law_706 (by decide) (fun c_706 => ?_) (fun c_706 => absurd rfl c_706)
  refine lv_iinc (v := 7) (lv' := [(3, .int 7), (2, .ref q_13), (1, .ref q_0), (0, .ref b)]) hx hb dL_law_800 hl (k := 0) rfl (by decide) (by decide) rfl (fun ls hl => ?_)
  refine lv_goto (tgt := 28) hx hb dL_law_803 (by decide) ?_
  refine lv_iload_n hx hb dL_law_28 rfl (lv_at hl 0 rfl) ?_
  refine lv_aload_n hx hb dL_law_29 rfl (lv_at hl 3 rfl) ?_
  refine va_slen hx hb hX hbl hbA hS dL_law_30 ?_
  refine g_topi (y := 7) rfl ?_
  refine lv_bipush (v := 6) hx hb dL_law_31 (by decide) ?_
  refine lv_isub hx hb dL_law_33 ?_
  refine g_topi (y := 1) (by decide) ?_
  refine lv_icmp_gt (tgt := 806) hx hb dL_law_34 (by decide) (fun c_34_2 => ?_) (fun c_34_2 => absurd c_34_2 (by decide))
  refine lv_iconst (v := 1) hx hb dL_law_806 (by decide) ?_
  refine va_forget (fun q hq => hAI _ (hS.2.2 q hq)) ?_
  refine W.widen (k := 600000) (n := 7302250) (Nat.le_of_ble_eq_true rfl) (Nat.le_of_ble_eq_true rfl) ?_
  exact lw_ret hx hb hr hlocks dL_law_807

set_option maxHeartbeats 1000000 in
set_option maxRecDepth 100000 in
theorem lawc_711 {p : Program} {l : Launch} {e : Env} {s : State} {m : MethodId} {below : List Frame} {meth : Method} {c : Code} {b : Nat} {xs : Nat → Int32} {A : Nat → Prop} {dC : Nat → ClassId} {dI : Nat → Nat → Nat} {aT_9 : Nat} {aB_9 : Nat} {aS_9 : Nat} {aR_9 : Nat} {aF_9 : Nat} {be_9 : Nat} {aX_9 : Nat} {le_9 : Nat} {ri_9 : Nat} {aC_9 : Nat} {cB_9 : ClassId} {cS_9 : ClassId} {cI_9 : ClassId} {cJ_9 : ClassId} {cC_9 : ClassId} {k_9 : Nat} {qa_22 : Nat → Nat} {kk_22 : Nat} {cZ_22 : ClassId} {q_0 : Nat} {q_13 : Nat} {H : Heap} {locs : List Loc} {ls : Array Slot} (hx : p.tables.exec = Jvm.exec) (hb : c.code = code) (hr : meth.sig.returnType = ret) (hlocks : meth.locks = false) (hml : c.maxLocals = 4) (hown : s.vm.findClass RL = some m.cls) (hts : ∀ w ∈ wsG (Cond.initialized RX10), w.before #[Value.ref b] s = true) (hA : ∀ q : Nat, s.heap.size ≤ q → A q) (hAI : ∀ q : Nat, A q → s.heap.size ≤ q) (hbA : ¬ A b) (hN : gN s) (hZ : gZ A s s.heap) (hX : va_X b 7 xs s s.heap) (hbl : b < s.heap.size) (hK : va_K (dC, dI) vwCl [(cB_9, .byte), (cS_9, .object RX5), (cI_9, .int), (cJ_9, .long), (cC_9, .object RX1), (cZ_22, .boolean)] s) (hP : va_P (dC, dI) vwCl [(q_0, .inr (9, [.ref aT_9, .ref aB_9, .ref aS_9, .ref aR_9, .ref aF_9, .ref aC_9, .ref aX_9])), (aF_9, .inr (2, [.ref aS_9, .ref be_9, .int 6, .int 125, .int 0, .int 0, .int 0, .int 0, .int 0, .int 0, .int (-1), .int (-1), .int (-1)])), (aX_9, .inr (3, [.int (nI k_9), .ref le_9, .ref ri_9, .int 0, .int 17])), (q_13, .inr (10, mdF qa_22 (nI kk_22) 0 0 (-1) 1 0 6 125 (-1) (-1) (-1) 0 0 17 0 (-1) 0 0 0))] H) (hD : va_D A [(q_0, .inr (9, [.ref aT_9, .ref aB_9, .ref aS_9, .ref aR_9, .ref aF_9, .ref aC_9, .ref aX_9])), (aF_9, .inr (2, [.ref aS_9, .ref be_9, .int 6, .int 125, .int 0, .int 0, .int 0, .int 0, .int 0, .int 0, .int (-1), .int (-1), .int (-1)])), (aX_9, .inr (3, [.int (nI k_9), .ref le_9, .ref ri_9, .int 0, .int 17])), (q_13, .inr (10, mdF qa_22 (nI kk_22) 0 0 (-1) 1 0 6 125 (-1) (-1) (-1) 0 0 17 0 (-1) 0 0 0))]) (hS : va_S A s.heap H locs) (hl : lv_has ls 4 [(3, .int 1), (2, .ref q_13), (1, .ref q_0), (0, .ref b)]) : W p l e room_1 s m #[Value.ref b] below meth c H locs 95 104445 (lw_Z below #[Value.ref b] s) (F0 m 711 ls []) := by
  refine lv_aload_n hx hb dL_law_711 rfl (lv_at hl 2 rfl) ?_
  refine lv_aload_n hx hb dL_law_712 rfl (lv_at hl 3 rfl) ?_
  refine lv_iload_n hx hb dL_law_713 rfl (lv_at hl 0 rfl) ?_
  refine lv_iconst (v := 1) hx hb dL_law_714 (by decide) ?_
  refine lv_iadd hx hb dL_law_715 ?_
  refine g_topi (y := 2) (by decide) ?_
  refine g_sld hx hb hX hbl hbA hS 2 (by decide) (by unfold vp_in; decide) dL_law_716 ?_
  refine g_calli (wr := [(q_13, .inr (10, mdF qa_22 (nI kk_22) 0 0 (-1) 1 0 6 125 (-1) (-1) (-1) 0 0 17 0 (-1) 0 0 0))]) (va_runV (As := [.int (xs 2)]) (rest := []) ⟨hx, hb, hml, hown, hts⟩ (f_now l dC dI H.size q_0 aT_9 aB_9 aS_9 aR_9 aF_9 aC_9 aX_9 be_9 le_9 ri_9 (nI k_9) (xs 2) ) (cwV 1 hts (gG_V kw_924 kw_925 kw_926 kw_2 kw_927) rfl rfl rfl (by decide +kernel) ⟨Nat.le_of_ble_eq_true rfl, Nat.le_of_ble_eq_true rfl⟩) (g_preV (C := RX10) (T := TX10) (N := 7) hP hD hK hS hA hN hZ (q0 := 0) rfl rfl [0, 1, 2] (by decide) rfl [] rfl) rfl rfl hl.1 rfl (lv_room (Nat.le_of_ble_eq_true rfl)) dL_law_717 ⟨Nat.le_of_ble_eq_true rfl, Nat.le_of_ble_eq_true rfl⟩) hP hD hK hS hA [0, 1, 2] [3] rfl rfl (by decide) (by decide) (fun r_717 w ty1 H locs hw_717 hP hD _ hS => ?_)
  rcases hw_717 with ⟨hu, hr_717⟩
  cases hu
  have hP : va_P (dC, dI) vwCl [(q_13, .inr (10, mdF qa_22 (nI kk_22) 0 0 (-1) 1 0 6 125 (-1) (-1) (-1) 0 0 17 0 (-1) 0 0 0))] H := hP
  have hD : va_D A [(q_13, .inr (10, mdF qa_22 (nI kk_22) 0 0 (-1) 1 0 6 125 (-1) (-1) (-1) 0 0 17 0 (-1) 0 0 0))] := hD
  refine g_topi (y := nowF (xs 2)) hr_717 ?_
  refine lv_aload_n hx hb dL_law_720 rfl (lv_at hl 1 rfl) ?_
  refine lv_aload_n hx hb dL_law_721 rfl (lv_at hl 3 rfl) ?_
  refine lv_iload_n hx hb dL_law_722 rfl (lv_at hl 0 rfl) ?_
  refine lv_iconst (v := 1) hx hb dL_law_723 (by decide) ?_
  refine lv_iadd hx hb dL_law_724 ?_
  refine g_topi (y := 2) (by decide) ?_
  refine g_sld hx hb hX hbl hbA hS 2 (by decide) (by unfold vp_in; decide) dL_law_725 ?_
  refine g_calli (wr := []) (va_runV (As := [.int (xs 2)]) (rest := [.int (nowF (xs 2))]) ⟨hx, hb, hml, hown, hts⟩ (mf_now l dC dI H.size q_13 qa_22 kk_22 (xs 2) ) (cwV 1 hts (gG_V kw_935 kw_936 kw_937 kw_5 kw_938) rfl rfl rfl (by decide +kernel) ⟨Nat.le_of_ble_eq_true rfl, Nat.le_of_ble_eq_true rfl⟩) (g_preV (C := RX11) (T := TX11) (N := 53) hP hD hK hS hA hN hZ (q0 := 0) rfl rfl [0] (by decide) rfl [] rfl) rfl rfl hl.1 rfl (lv_room (Nat.le_of_ble_eq_true rfl)) dL_law_726 ⟨Nat.le_of_ble_eq_true rfl, Nat.le_of_ble_eq_true rfl⟩) hP hD hK hS hA [0] [] rfl rfl (by decide) (by decide) (fun r_726 w ty1 H locs hw_726 hP hD _ hS => ?_)
  rcases hw_726 with ⟨hu, hr_726⟩
  cases hu
  have hP : va_P (dC, dI) vwCl [] H := hP
  have hD : va_D A [] := hD
  refine g_topi (y := nowF (xs 2)) hr_726 ?_
  refine lv_icmp_eq (tgt := 800) hx hb dL_law_729 (by decide) (fun c_729 => ?_) (fun c_729 => absurd rfl c_729)
  refine lv_iinc (v := 7) (lv' := [(3, .int 7), (2, .ref q_13), (1, .ref q_0), (0, .ref b)]) hx hb dL_law_800 hl (k := 0) rfl (by decide) (by decide) rfl (fun ls hl => ?_)
  refine lv_goto (tgt := 28) hx hb dL_law_803 (by decide) ?_
  refine lv_iload_n hx hb dL_law_28 rfl (lv_at hl 0 rfl) ?_
  refine lv_aload_n hx hb dL_law_29 rfl (lv_at hl 3 rfl) ?_
  refine va_slen hx hb hX hbl hbA hS dL_law_30 ?_
  refine g_topi (y := 7) rfl ?_
  refine lv_bipush (v := 6) hx hb dL_law_31 (by decide) ?_
  refine lv_isub hx hb dL_law_33 ?_
  refine g_topi (y := 1) (by decide) ?_
  refine lv_icmp_gt (tgt := 806) hx hb dL_law_34 (by decide) (fun c_34_2 => ?_) (fun c_34_2 => absurd c_34_2 (by decide))
  refine lv_iconst (v := 1) hx hb dL_law_806 (by decide) ?_
  refine va_forget (fun q hq => hAI _ (hS.2.2 q hq)) ?_
  refine W.widen (k := 600000) (n := 7302250) (Nat.le_of_ble_eq_true rfl) (Nat.le_of_ble_eq_true rfl) ?_
  exact lw_ret hx hb hr hlocks dL_law_807

set_option maxHeartbeats 1000000 in
set_option maxRecDepth 100000 in
theorem lawc_734 {p : Program} {l : Launch} {e : Env} {s : State} {m : MethodId} {below : List Frame} {meth : Method} {c : Code} {b : Nat} {xs : Nat → Int32} {A : Nat → Prop} {dC : Nat → ClassId} {dI : Nat → Nat → Nat} {aT_9 : Nat} {aB_9 : Nat} {aS_9 : Nat} {aR_9 : Nat} {aF_9 : Nat} {aX_9 : Nat} {aC_9 : Nat} {c0_9 : Nat} {c1_9 : Nat} {c2_9 : Nat} {c3_9 : Nat} {v0_9 : Nat} {v1_9 : Nat} {v2_9 : Nat} {v3_9 : Nat} {w0_9 : Nat} {w1_9 : Nat} {w2_9 : Nat} {w3_9 : Nat} {cB_9 : ClassId} {cS_9 : ClassId} {cI_9 : ClassId} {cJ_9 : ClassId} {cC_9 : ClassId} {gc_9 : Nat → Option Nat} {qa_22 : Nat → Nat} {kk_22 : Nat} {cZ_22 : ClassId} {q_0 : Nat} {q_13 : Nat} {H : Heap} {locs : List Loc} {ls : Array Slot} (hx : p.tables.exec = Jvm.exec) (hb : c.code = code) (hr : meth.sig.returnType = ret) (hlocks : meth.locks = false) (hml : c.maxLocals = 4) (hown : s.vm.findClass RL = some m.cls) (hts : ∀ w ∈ wsG (Cond.initialized RX10), w.before #[Value.ref b] s = true) (hA : ∀ q : Nat, s.heap.size ≤ q → A q) (hAI : ∀ q : Nat, A q → s.heap.size ≤ q) (hbA : ¬ A b) (hN : gN s) (hZ : gZ A s s.heap) (hX : va_X b 7 xs s s.heap) (hbl : b < s.heap.size) (hc0_9 : gc_9 0 = some c0_9) (hc1_9 : gc_9 1 = some c1_9) (hc2_9 : gc_9 2 = some c2_9) (hc3_9 : gc_9 3 = some c3_9) (hK : va_K (dC, dI) vwCl [(cB_9, .byte), (cS_9, .object RX5), (cI_9, .int), (cJ_9, .long), (cC_9, .object RX1), (cZ_22, .boolean)] s) (hP : va_P (dC, dI) vwCl [(q_0, .inr (9, [.ref aT_9, .ref aB_9, .ref aS_9, .ref aR_9, .ref aF_9, .ref aC_9, .ref aX_9])), (aC_9, .inl (cC_9, 4, .inr (.inr (.inr (.inr gc_9))))), (c0_9, .inr (1, [.ref aB_9, .ref v0_9, .ref w0_9, .int 0, .int 0, .int 0, .int 0, .int 0, .int 0, .int 0, .int 0, .int 0, .int 0, .int 0, .int 0, .int 0, .long 0, .int 0, .int 0])), (c1_9, .inr (1, [.ref aB_9, .ref v1_9, .ref w1_9, .int 0, .int 0, .int 0, .int 0, .int 0, .int 0, .int 0, .int 0, .int 0, .int 0, .int 0, .int 0, .int 0, .long 0, .int 0, .int 0])), (c2_9, .inr (1, [.ref aB_9, .ref v2_9, .ref w2_9, .int 0, .int 0, .int 0, .int 0, .int 0, .int 0, .int 0, .int 0, .int 0, .int 0, .int 0, .int 0, .int 0, .long 0, .int 0, .int 0])), (c3_9, .inr (1, [.ref aB_9, .ref v3_9, .ref w3_9, .int 0, .int 0, .int 0, .int 0, .int 0, .int 0, .int 0, .int 0, .int 0, .int 0, .int 0, .int 0, .int 0, .long 0, .int 0, .int 0])), (v0_9, .inr (8, [.int 0, .int 0, .int 0, .int 0])), (v1_9, .inr (8, [.int 0, .int 0, .int 0, .int 0])), (v2_9, .inr (8, [.int 0, .int 0, .int 0, .int 0])), (v3_9, .inr (8, [.int 0, .int 0, .int 0, .int 0])), (w0_9, .inr (8, [.int 0, .int 0, .int 0, .int 0])), (w1_9, .inr (8, [.int 0, .int 0, .int 0, .int 0])), (w2_9, .inr (8, [.int 0, .int 0, .int 0, .int 0])), (w3_9, .inr (8, [.int 0, .int 0, .int 0, .int 0])), (q_13, .inr (10, mdF qa_22 (nI kk_22) 0 0 (-1) 1 0 6 125 (-1) (-1) (-1) 0 0 17 0 (-1) 0 0 0)), (qa_22 31, .inl (cI_9, 4, .inl (fun _ => 0))), (qa_22 32, .inl (cI_9, 4, .inl (fun _ => 0))), (qa_22 33, .inl (cI_9, 4, .inl (fun _ => 0))), (qa_22 34, .inl (cI_9, 4, .inl (fun _ => 0))), (qa_22 36, .inl (cI_9, 4, .inl (fun _ => 0))), (qa_22 39, .inl (cI_9, 4, .inl (fun _ => 0))), (qa_22 42, .inl (cI_9, 4, .inl (fun _ => 0))), (qa_22 45, .inl (cI_9, 4, .inl (fun _ => 0))), (qa_22 46, .inl (cI_9, 4, .inl (fun _ => 0))), (qa_22 48, .inl (cI_9, 4, .inl (fun _ => 0))), (qa_22 49, .inl (cI_9, 4, .inl (fun _ => 0))), (qa_22 50, .inl (cJ_9, 4, .inr (.inl (fun _ => 0)))), (qa_22 51, .inl (cZ_22, 4, .inl (fun _ => 0)))] H) (hD : va_D A [(q_0, .inr (9, [.ref aT_9, .ref aB_9, .ref aS_9, .ref aR_9, .ref aF_9, .ref aC_9, .ref aX_9])), (aC_9, .inl (cC_9, 4, .inr (.inr (.inr (.inr gc_9))))), (c0_9, .inr (1, [.ref aB_9, .ref v0_9, .ref w0_9, .int 0, .int 0, .int 0, .int 0, .int 0, .int 0, .int 0, .int 0, .int 0, .int 0, .int 0, .int 0, .int 0, .long 0, .int 0, .int 0])), (c1_9, .inr (1, [.ref aB_9, .ref v1_9, .ref w1_9, .int 0, .int 0, .int 0, .int 0, .int 0, .int 0, .int 0, .int 0, .int 0, .int 0, .int 0, .int 0, .int 0, .long 0, .int 0, .int 0])), (c2_9, .inr (1, [.ref aB_9, .ref v2_9, .ref w2_9, .int 0, .int 0, .int 0, .int 0, .int 0, .int 0, .int 0, .int 0, .int 0, .int 0, .int 0, .int 0, .int 0, .long 0, .int 0, .int 0])), (c3_9, .inr (1, [.ref aB_9, .ref v3_9, .ref w3_9, .int 0, .int 0, .int 0, .int 0, .int 0, .int 0, .int 0, .int 0, .int 0, .int 0, .int 0, .int 0, .int 0, .long 0, .int 0, .int 0])), (v0_9, .inr (8, [.int 0, .int 0, .int 0, .int 0])), (v1_9, .inr (8, [.int 0, .int 0, .int 0, .int 0])), (v2_9, .inr (8, [.int 0, .int 0, .int 0, .int 0])), (v3_9, .inr (8, [.int 0, .int 0, .int 0, .int 0])), (w0_9, .inr (8, [.int 0, .int 0, .int 0, .int 0])), (w1_9, .inr (8, [.int 0, .int 0, .int 0, .int 0])), (w2_9, .inr (8, [.int 0, .int 0, .int 0, .int 0])), (w3_9, .inr (8, [.int 0, .int 0, .int 0, .int 0])), (q_13, .inr (10, mdF qa_22 (nI kk_22) 0 0 (-1) 1 0 6 125 (-1) (-1) (-1) 0 0 17 0 (-1) 0 0 0)), (qa_22 31, .inl (cI_9, 4, .inl (fun _ => 0))), (qa_22 32, .inl (cI_9, 4, .inl (fun _ => 0))), (qa_22 33, .inl (cI_9, 4, .inl (fun _ => 0))), (qa_22 34, .inl (cI_9, 4, .inl (fun _ => 0))), (qa_22 36, .inl (cI_9, 4, .inl (fun _ => 0))), (qa_22 39, .inl (cI_9, 4, .inl (fun _ => 0))), (qa_22 42, .inl (cI_9, 4, .inl (fun _ => 0))), (qa_22 45, .inl (cI_9, 4, .inl (fun _ => 0))), (qa_22 46, .inl (cI_9, 4, .inl (fun _ => 0))), (qa_22 48, .inl (cI_9, 4, .inl (fun _ => 0))), (qa_22 49, .inl (cI_9, 4, .inl (fun _ => 0))), (qa_22 50, .inl (cJ_9, 4, .inr (.inl (fun _ => 0)))), (qa_22 51, .inl (cZ_22, 4, .inl (fun _ => 0)))]) (hS : va_S A s.heap H locs) (hl : lv_has ls 4 [(3, .int 1), (2, .ref q_13), (1, .ref q_0), (0, .ref b)]) : W p l e room_1 s m #[Value.ref b] below meth c H locs 95 104445 (lw_Z below #[Value.ref b] s) (F0 m 734 ls []) := by
  refine lv_aload_n hx hb dL_law_734 rfl (lv_at hl 2 rfl) ?_
  refine lv_aload_n hx hb dL_law_735 rfl (lv_at hl 3 rfl) ?_
  refine lv_iload_n hx hb dL_law_736 rfl (lv_at hl 0 rfl) ?_
  refine lv_iconst (v := 1) hx hb dL_law_737 (by decide) ?_
  refine lv_iadd hx hb dL_law_738 ?_
  refine g_topi (y := 2) (by decide) ?_
  refine g_sld hx hb hX hbl hbA hS 2 (by decide) (by unfold vp_in; decide) dL_law_739 ?_
  refine lv_aload_n hx hb dL_law_740 rfl (lv_at hl 3 rfl) ?_
  refine lv_iload_n hx hb dL_law_741 rfl (lv_at hl 0 rfl) ?_
  refine lv_iconst (v := 2) hx hb dL_law_742 (by decide) ?_
  refine lv_iadd hx hb dL_law_743 ?_
  refine g_topi (y := 3) (by decide) ?_
  refine g_sld hx hb hX hbl hbA hS 3 (by decide) (by unfold vp_in; decide) dL_law_744 ?_
  refine g_calli (wr := [(q_13, .inr (10, mdF qa_22 (nI kk_22) 0 0 (-1) 1 0 6 125 (-1) (-1) (-1) 0 0 17 0 (-1) 0 0 0)), (qa_22 31, .inl (cI_9, 4, .inl (fun _ => 0))), (qa_22 32, .inl (cI_9, 4, .inl (fun _ => 0))), (qa_22 33, .inl (cI_9, 4, .inl (fun _ => 0))), (qa_22 34, .inl (cI_9, 4, .inl (fun _ => 0))), (qa_22 36, .inl (cI_9, 4, .inl (fun _ => 0))), (qa_22 39, .inl (cI_9, 4, .inl (fun _ => 0))), (qa_22 42, .inl (cI_9, 4, .inl (fun _ => 0))), (qa_22 45, .inl (cI_9, 4, .inl (fun _ => 0))), (qa_22 46, .inl (cI_9, 4, .inl (fun _ => 0))), (qa_22 48, .inl (cI_9, 4, .inl (fun _ => 0))), (qa_22 49, .inl (cI_9, 4, .inl (fun _ => 0))), (qa_22 50, .inl (cJ_9, 4, .inr (.inl (fun _ => 0)))), (qa_22 51, .inl (cZ_22, 4, .inl (fun _ => 0)))]) (va_runV (As := [.int (xs 2), .int (xs 3)]) (rest := []) ⟨hx, hb, hml, hown, hts⟩ (f_channel l dC dI H.size q_0 aT_9 aB_9 aS_9 aR_9 aF_9 aC_9 aX_9 c0_9 c1_9 c2_9 c3_9 v0_9 v1_9 v2_9 v3_9 w0_9 w1_9 w2_9 w3_9 cC_9 gc_9 (xs 2) (xs 3) (hc0_9) (hc1_9) (hc2_9) (hc3_9)) (cwV 2 hts (gG_V kw_939 kw_940 kw_941 kw_2 kw_942) rfl rfl rfl (by decide +kernel) ⟨Nat.le_of_ble_eq_true rfl, Nat.le_of_ble_eq_true rfl⟩) (g_preV (C := RX10) (T := TX10) (N := 7) hP hD hK hS hA hN hZ (q0 := 0) rfl rfl [0, 1, 2, 3, 4, 5, 6, 7, 8, 9, 10, 11, 12, 13] (by decide) rfl [4] rfl) rfl rfl hl.1 rfl (lv_room (Nat.le_of_ble_eq_true rfl)) dL_law_745 ⟨Nat.le_of_ble_eq_true rfl, Nat.le_of_ble_eq_true rfl⟩) hP hD hK hS hA [0, 1, 2, 3, 4, 5, 6, 7, 8, 9, 10, 11, 12, 13] [14, 15, 16, 17, 18, 19, 20, 21, 22, 23, 24, 25, 26, 27] rfl rfl (by decide) (by decide) (fun r_745 w ty1 H locs hw_745 hP hD _ hS => ?_)
  rcases hw_745 with ⟨hu, hr_745⟩
  cases hu
  have hP : va_P (dC, dI) vwCl [(q_13, .inr (10, mdF qa_22 (nI kk_22) 0 0 (-1) 1 0 6 125 (-1) (-1) (-1) 0 0 17 0 (-1) 0 0 0)), (qa_22 31, .inl (cI_9, 4, .inl (fun _ => 0))), (qa_22 32, .inl (cI_9, 4, .inl (fun _ => 0))), (qa_22 33, .inl (cI_9, 4, .inl (fun _ => 0))), (qa_22 34, .inl (cI_9, 4, .inl (fun _ => 0))), (qa_22 36, .inl (cI_9, 4, .inl (fun _ => 0))), (qa_22 39, .inl (cI_9, 4, .inl (fun _ => 0))), (qa_22 42, .inl (cI_9, 4, .inl (fun _ => 0))), (qa_22 45, .inl (cI_9, 4, .inl (fun _ => 0))), (qa_22 46, .inl (cI_9, 4, .inl (fun _ => 0))), (qa_22 48, .inl (cI_9, 4, .inl (fun _ => 0))), (qa_22 49, .inl (cI_9, 4, .inl (fun _ => 0))), (qa_22 50, .inl (cJ_9, 4, .inr (.inl (fun _ => 0)))), (qa_22 51, .inl (cZ_22, 4, .inl (fun _ => 0)))] H := hP
  have hD : va_D A [(q_13, .inr (10, mdF qa_22 (nI kk_22) 0 0 (-1) 1 0 6 125 (-1) (-1) (-1) 0 0 17 0 (-1) 0 0 0)), (qa_22 31, .inl (cI_9, 4, .inl (fun _ => 0))), (qa_22 32, .inl (cI_9, 4, .inl (fun _ => 0))), (qa_22 33, .inl (cI_9, 4, .inl (fun _ => 0))), (qa_22 34, .inl (cI_9, 4, .inl (fun _ => 0))), (qa_22 36, .inl (cI_9, 4, .inl (fun _ => 0))), (qa_22 39, .inl (cI_9, 4, .inl (fun _ => 0))), (qa_22 42, .inl (cI_9, 4, .inl (fun _ => 0))), (qa_22 45, .inl (cI_9, 4, .inl (fun _ => 0))), (qa_22 46, .inl (cI_9, 4, .inl (fun _ => 0))), (qa_22 48, .inl (cI_9, 4, .inl (fun _ => 0))), (qa_22 49, .inl (cI_9, 4, .inl (fun _ => 0))), (qa_22 50, .inl (cJ_9, 4, .inr (.inl (fun _ => 0)))), (qa_22 51, .inl (cZ_22, 4, .inl (fun _ => 0)))] := hD
  refine g_topi (y := chF (xs 2) (xs 3)) hr_745 ?_
  refine lv_aload_n hx hb dL_law_748 rfl (lv_at hl 1 rfl) ?_
  refine lv_aload_n hx hb dL_law_749 rfl (lv_at hl 3 rfl) ?_
  refine lv_iload_n hx hb dL_law_750 rfl (lv_at hl 0 rfl) ?_
  refine lv_iconst (v := 1) hx hb dL_law_751 (by decide) ?_
  refine lv_iadd hx hb dL_law_752 ?_
  refine g_topi (y := 2) (by decide) ?_
  refine g_sld hx hb hX hbl hbA hS 2 (by decide) (by unfold vp_in; decide) dL_law_753 ?_
  refine lv_aload_n hx hb dL_law_754 rfl (lv_at hl 3 rfl) ?_
  refine lv_iload_n hx hb dL_law_755 rfl (lv_at hl 0 rfl) ?_
  refine lv_iconst (v := 2) hx hb dL_law_756 (by decide) ?_
  refine lv_iadd hx hb dL_law_757 ?_
  refine g_topi (y := 3) (by decide) ?_
  refine g_sld hx hb hX hbl hbA hS 3 (by decide) (by unfold vp_in; decide) dL_law_758 ?_
  refine g_calli (wr := []) (va_runV (As := [.int (xs 2), .int (xs 3)]) (rest := [.int (chF (xs 2) (xs 3))]) ⟨hx, hb, hml, hown, hts⟩ (mf_channel l dC dI H.size q_13 qa_22 kk_22 cI_9 cJ_9 cZ_22 (xs 2) (xs 3) ) (cwV 2 hts (gG_V kw_958 kw_959 kw_960 kw_5 kw_961) rfl rfl rfl (by decide +kernel) ⟨Nat.le_of_ble_eq_true rfl, Nat.le_of_ble_eq_true rfl⟩) (g_preV (C := RX11) (T := TX11) (N := 53) hP hD hK hS hA hN hZ (q0 := 0) rfl rfl [0, 1, 2, 3, 4, 5, 6, 7, 8, 9, 10, 11, 12, 13] (by decide) rfl [2, 3, 5] rfl) rfl rfl hl.1 rfl (lv_room (Nat.le_of_ble_eq_true rfl)) dL_law_759 ⟨Nat.le_of_ble_eq_true rfl, Nat.le_of_ble_eq_true rfl⟩) hP hD hK hS hA [0, 1, 2, 3, 4, 5, 6, 7, 8, 9, 10, 11, 12, 13] [] rfl rfl (by decide) (by decide) (fun r_759 w ty1 H locs hw_759 hP hD _ hS => ?_)
  rcases hw_759 with ⟨hu, hr_759⟩
  cases hu
  have hP : va_P (dC, dI) vwCl [] H := hP
  have hD : va_D A [] := hD
  refine g_topi (y := chF (xs 2) (xs 3)) hr_759 ?_
  refine lv_icmp_eq (tgt := 800) hx hb dL_law_762 (by decide) (fun c_762 => ?_) (fun c_762 => absurd rfl c_762)
  refine lv_iinc (v := 7) (lv' := [(3, .int 7), (2, .ref q_13), (1, .ref q_0), (0, .ref b)]) hx hb dL_law_800 hl (k := 0) rfl (by decide) (by decide) rfl (fun ls hl => ?_)
  refine lv_goto (tgt := 28) hx hb dL_law_803 (by decide) ?_
  refine lv_iload_n hx hb dL_law_28 rfl (lv_at hl 0 rfl) ?_
  refine lv_aload_n hx hb dL_law_29 rfl (lv_at hl 3 rfl) ?_
  refine va_slen hx hb hX hbl hbA hS dL_law_30 ?_
  refine g_topi (y := 7) rfl ?_
  refine lv_bipush (v := 6) hx hb dL_law_31 (by decide) ?_
  refine lv_isub hx hb dL_law_33 ?_
  refine g_topi (y := 1) (by decide) ?_
  refine lv_icmp_gt (tgt := 806) hx hb dL_law_34 (by decide) (fun c_34_2 => ?_) (fun c_34_2 => absurd c_34_2 (by decide))
  refine lv_iconst (v := 1) hx hb dL_law_806 (by decide) ?_
  refine va_forget (fun q hq => hAI _ (hS.2.2 q hq)) ?_
  refine W.widen (k := 600000) (n := 7302250) (Nat.le_of_ble_eq_true rfl) (Nat.le_of_ble_eq_true rfl) ?_
  exact lw_ret hx hb hr hlocks dL_law_807

set_option maxHeartbeats 1000000 in
set_option maxRecDepth 100000 in
theorem lawc_767 {p : Program} {l : Launch} {e : Env} {s : State} {m : MethodId} {below : List Frame} {meth : Method} {c : Code} {b : Nat} {xs : Nat → Int32} {A : Nat → Prop} {dC : Nat → ClassId} {dI : Nat → Nat → Nat} {aT_9 : Nat} {aB_9 : Nat} {aS_9 : Nat} {aR_9 : Nat} {aF_9 : Nat} {aX_9 : Nat} {le_9 : Nat} {ri_9 : Nat} {aC_9 : Nat} {cB_9 : ClassId} {cS_9 : ClassId} {cI_9 : ClassId} {cJ_9 : ClassId} {cC_9 : ClassId} {k_9 : Nat} {qa_22 : Nat → Nat} {kk_22 : Nat} {cZ_22 : ClassId} {q_0 : Nat} {q_13 : Nat} {H : Heap} {locs : List Loc} {ls : Array Slot} (hx : p.tables.exec = Jvm.exec) (hb : c.code = code) (hr : meth.sig.returnType = ret) (hlocks : meth.locks = false) (hml : c.maxLocals = 4) (hown : s.vm.findClass RL = some m.cls) (hts : ∀ w ∈ wsG (Cond.initialized RX10), w.before #[Value.ref b] s = true) (hA : ∀ q : Nat, s.heap.size ≤ q → A q) (hAI : ∀ q : Nat, A q → s.heap.size ≤ q) (hbA : ¬ A b) (hN : gN s) (hZ : gZ A s s.heap) (hX : va_X b 7 xs s s.heap) (hbl : b < s.heap.size) (hK : va_K (dC, dI) vwCl [(cB_9, .byte), (cS_9, .object RX5), (cI_9, .int), (cJ_9, .long), (cC_9, .object RX1), (cZ_22, .boolean)] s) (hP : va_P (dC, dI) vwCl [(q_0, .inr (9, [.ref aT_9, .ref aB_9, .ref aS_9, .ref aR_9, .ref aF_9, .ref aC_9, .ref aX_9])), (aX_9, .inr (3, [.int (nI k_9), .ref le_9, .ref ri_9, .int 0, .int 17])), (q_13, .inr (10, mdF qa_22 (nI kk_22) 0 0 (-1) 1 0 6 125 (-1) (-1) (-1) 0 0 17 0 (-1) 0 0 0))] H) (hD : va_D A [(q_0, .inr (9, [.ref aT_9, .ref aB_9, .ref aS_9, .ref aR_9, .ref aF_9, .ref aC_9, .ref aX_9])), (aX_9, .inr (3, [.int (nI k_9), .ref le_9, .ref ri_9, .int 0, .int 17])), (q_13, .inr (10, mdF qa_22 (nI kk_22) 0 0 (-1) 1 0 6 125 (-1) (-1) (-1) 0 0 17 0 (-1) 0 0 0))]) (hS : va_S A s.heap H locs) (hl : lv_has ls 4 [(3, .int 1), (2, .ref q_13), (1, .ref q_0), (0, .ref b)]) : W p l e room_1 s m #[Value.ref b] below meth c H locs 95 104445 (lw_Z below #[Value.ref b] s) (F0 m 767 ls []) := by
  refine lv_aload_n hx hb dL_law_767 rfl (lv_at hl 2 rfl) ?_
  refine lv_aload_n hx hb dL_law_768 rfl (lv_at hl 3 rfl) ?_
  refine lv_iload_n hx hb dL_law_769 rfl (lv_at hl 0 rfl) ?_
  refine lv_iconst (v := 1) hx hb dL_law_770 (by decide) ?_
  refine lv_iadd hx hb dL_law_771 ?_
  refine g_topi (y := 2) (by decide) ?_
  refine g_sld hx hb hX hbl hbA hS 2 (by decide) (by unfold vp_in; decide) dL_law_772 ?_
  refine lv_aload_n hx hb dL_law_773 rfl (lv_at hl 3 rfl) ?_
  refine lv_iload_n hx hb dL_law_774 rfl (lv_at hl 0 rfl) ?_
  refine lv_iconst (v := 2) hx hb dL_law_775 (by decide) ?_
  refine lv_iadd hx hb dL_law_776 ?_
  refine g_topi (y := 3) (by decide) ?_
  refine g_sld hx hb hX hbl hbA hS 3 (by decide) (by unfold vp_in; decide) dL_law_777 ?_
  refine g_calli (wr := [(q_13, .inr (10, mdF qa_22 (nI kk_22) 0 0 (-1) 1 0 6 125 (-1) (-1) (-1) 0 0 17 0 (-1) 0 0 0))]) (va_runV (As := [.int (xs 2), .int (xs 3)]) (rest := []) ⟨hx, hb, hml, hown, hts⟩ (f_frame l dC dI H.size q_0 aT_9 aB_9 aS_9 aR_9 aF_9 aC_9 aX_9 0 le_9 ri_9 (nI k_9) (xs 2) (xs 3) ) (cwV 2 hts (gG_V kw_962 kw_963 kw_964 kw_2 kw_965) rfl rfl rfl (by decide +kernel) ⟨Nat.le_of_ble_eq_true rfl, Nat.le_of_ble_eq_true rfl⟩) (g_preV (C := RX10) (T := TX10) (N := 7) hP hD hK hS hA hN hZ (q0 := 0) rfl rfl [0, 1] (by decide) rfl [] rfl) rfl rfl hl.1 rfl (lv_room (Nat.le_of_ble_eq_true rfl)) dL_law_778 ⟨Nat.le_of_ble_eq_true rfl, Nat.le_of_ble_eq_true rfl⟩) hP hD hK hS hA [0, 1] [2] rfl rfl (by decide) (by decide) (fun r_778 w ty1 H locs hw_778 hP hD _ hS => ?_)
  rcases hw_778 with ⟨hu, hr_778⟩
  cases hu
  have hP : va_P (dC, dI) vwCl [(q_13, .inr (10, mdF qa_22 (nI kk_22) 0 0 (-1) 1 0 6 125 (-1) (-1) (-1) 0 0 17 0 (-1) 0 0 0))] H := hP
  have hD : va_D A [(q_13, .inr (10, mdF qa_22 (nI kk_22) 0 0 (-1) 1 0 6 125 (-1) (-1) (-1) 0 0 17 0 (-1) 0 0 0))] := hD
  refine g_topi (y := 0) hr_778 ?_
  refine lv_aload_n hx hb dL_law_781 rfl (lv_at hl 1 rfl) ?_
  refine lv_aload_n hx hb dL_law_782 rfl (lv_at hl 3 rfl) ?_
  refine lv_iload_n hx hb dL_law_783 rfl (lv_at hl 0 rfl) ?_
  refine lv_iconst (v := 1) hx hb dL_law_784 (by decide) ?_
  refine lv_iadd hx hb dL_law_785 ?_
  refine g_topi (y := 2) (by decide) ?_
  refine g_sld hx hb hX hbl hbA hS 2 (by decide) (by unfold vp_in; decide) dL_law_786 ?_
  refine lv_aload_n hx hb dL_law_787 rfl (lv_at hl 3 rfl) ?_
  refine lv_iload_n hx hb dL_law_788 rfl (lv_at hl 0 rfl) ?_
  refine lv_iconst (v := 2) hx hb dL_law_789 (by decide) ?_
  refine lv_iadd hx hb dL_law_790 ?_
  refine g_topi (y := 3) (by decide) ?_
  refine g_sld hx hb hX hbl hbA hS 3 (by decide) (by unfold vp_in; decide) dL_law_791 ?_
  refine g_calli (wr := []) (va_runV (As := [.int (xs 2), .int (xs 3)]) (rest := [.int 0]) ⟨hx, hb, hml, hown, hts⟩ (mf_frame l dC dI H.size q_13 qa_22 kk_22 (xs 2) (xs 3) ) (cwV 2 hts (gG_V kw_968 kw_969 kw_970 kw_5 kw_971) rfl rfl rfl (by decide +kernel) ⟨Nat.le_of_ble_eq_true rfl, Nat.le_of_ble_eq_true rfl⟩) (g_preV (C := RX11) (T := TX11) (N := 53) hP hD hK hS hA hN hZ (q0 := 0) rfl rfl [0] (by decide) rfl [] rfl) rfl rfl hl.1 rfl (lv_room (Nat.le_of_ble_eq_true rfl)) dL_law_792 ⟨Nat.le_of_ble_eq_true rfl, Nat.le_of_ble_eq_true rfl⟩) hP hD hK hS hA [0] [] rfl rfl (by decide) (by decide) (fun r_792 w ty1 H locs hw_792 hP hD _ hS => ?_)
  rcases hw_792 with ⟨hu, hr_792⟩
  cases hu
  have hP : va_P (dC, dI) vwCl [] H := hP
  have hD : va_D A [] := hD
  refine g_topi (y := 0) hr_792 ?_
  refine lv_icmp_eq (tgt := 800) hx hb dL_law_795 (by decide) (fun c_795 => ?_) (fun c_795 => absurd c_795 (by decide))
  refine lv_iinc (v := 7) (lv' := [(3, .int 7), (2, .ref q_13), (1, .ref q_0), (0, .ref b)]) hx hb dL_law_800 hl (k := 0) rfl (by decide) (by decide) rfl (fun ls hl => ?_)
  refine lv_goto (tgt := 28) hx hb dL_law_803 (by decide) ?_
  refine lv_iload_n hx hb dL_law_28 rfl (lv_at hl 0 rfl) ?_
  refine lv_aload_n hx hb dL_law_29 rfl (lv_at hl 3 rfl) ?_
  refine va_slen hx hb hX hbl hbA hS dL_law_30 ?_
  refine g_topi (y := 7) rfl ?_
  refine lv_bipush (v := 6) hx hb dL_law_31 (by decide) ?_
  refine lv_isub hx hb dL_law_33 ?_
  refine g_topi (y := 1) (by decide) ?_
  refine lv_icmp_gt (tgt := 806) hx hb dL_law_34 (by decide) (fun c_34_2 => ?_) (fun c_34_2 => absurd c_34_2 (by decide))
  refine lv_iconst (v := 1) hx hb dL_law_806 (by decide) ?_
  refine va_forget (fun q hq => hAI _ (hS.2.2 q hq)) ?_
  refine W.widen (k := 600000) (n := 7302250) (Nat.le_of_ble_eq_true rfl) (Nat.le_of_ble_eq_true rfl) ?_
  exact lw_ret hx hb hr hlocks dL_law_807

