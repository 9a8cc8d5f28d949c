set_option maxHeartbeats 400000 in
set_option maxRecDepth 100000 in
theorem m_heard (l : Launch) (dC : Nat → ClassId) (dI : Nat → Nat → Nat) (sz : Nat) (h : Nat) (qa : Nat → Nat) (x2 x3 x4 x13 x14 x15 x16 x17 x18 x19 x20 x21 x22 x23 x24 x26 x27 x28 : Int32) (cI cB cJ cZ : ClassId) (g5 g8 g9 g10 g31 g48 g49 g51 g52 : Nat → Int32) (g50 : Nat → Int64) (cv : Nat) (kk : Nat) (hcv : cv < 4) (hk1 : 2000 ≤ kk) (hk2 : kk ≤ 16000) (r_g5 : rg 32 0 2000 g5) (r_g8 : rg 32 0 131070 g8) (r_g9 : rg 32 0 131070 g9) (r_g31 : rg 4 0 31 g31) (r_g48 : rg 4 0 2147483647 g48) (r_g50 : rgL 4 0 1099511627776 g50) : Met l yX11_heard (wsG (.code yX11_heard cX11_heard 4 (some .int))) ({ frames := 0, cells := 0, slots := 0, locals := 0 }) (va_Pc [.ref h, .int (nI cv)] (gP (dC, dI) [(cI, .int), (cB, .byte), (cJ, .long), (cZ, .boolean)] [(h, .inr (10, mdF qa (nI kk) x2 x3 x4 x13 x14 x15 x16 x17 x18 x19 x20 x21 x22 x23 x24 x26 x27 x28)), (qa 5, .inl (cI, 32, .inl g5)), (qa 8, .inl (cI, 32, .inl g8)), (qa 9, .inl (cI, 32, .inl g9)), (qa 10, .inl (cB, 64000, .inl g10)), (qa 31, .inl (cI, 4, .inl g31)), (qa 48, .inl (cI, 4, .inl g48)), (qa 49, .inl (cI, 4, .inl g49)), (qa 50, .inl (cJ, 4, .inr (.inl g50))), (qa 51, .inl (cZ, 4, .inl g51)), (qa 52, .inl (cZ, 4, .inl g52))] sz)) (va_Qi (fun (r : Int32) (u : va_W × gT) => ∃ (k51 : Nat → Int32) (k50 : Nat → Int64), u = ([(h, .inr (10, mdF qa (nI kk) x2 x3 x4 x13 x14 x15 x16 x17 x18 x19 x20 x21 x22 x23 x24 x26 x27 x28)), (qa 5, .inl (cI, 32, .inl g5)), (qa 8, .inl (cI, 32, .inl g8)), (qa 9, .inl (cI, 32, .inl g9)), (qa 10, .inl (cB, 64000, .inl g10)), (qa 31, .inl (cI, 4, .inl g31)), (qa 48, .inl (cI, 4, .inl g48)), (qa 49, .inl (cI, 4, .inl g49)), (qa 50, .inl (cJ, 4, .inr (.inl k50))), (qa 51, .inl (cZ, 4, .inl k51)), (qa 52, .inl (cZ, 4, .inl g52))], []) ∧ rgL 4 0 1099511627776 k50) (gB (dC, dI) (va_A [(h, .inr (10, mdF qa (nI kk) x2 x3 x4 x13 x14 x15 x16 x17 x18 x19 x20 x21 x22 x23 x24 x26 x27 x28)), (qa 5, .inl (cI, 32, .inl g5)), (qa 8, .inl (cI, 32, .inl g8)), (qa 9, .inl (cI, 32, .inl g9)), (qa 10, .inl (cB, 64000, .inl g10)), (qa 31, .inl (cI, 4, .inl g31)), (qa 48, .inl (cI, 4, .inl g48)), (qa 49, .inl (cI, 4, .inl g49)), (qa 50, .inl (cJ, 4, .inr (.inl g50))), (qa 51, .inl (cZ, 4, .inl g51)), (qa 52, .inl (cZ, 4, .inl g52))] sz)) (va_A [(h, .inr (10, mdF qa (nI kk) x2 x3 x4 x13 x14 x15 x16 x17 x18 x19 x20 x21 x22 x23 x24 x26 x27 x28)), (qa 5, .inl (cI, 32, .inl g5)), (qa 8, .inl (cI, 32, .inl g8)), (qa 9, .inl (cI, 32, .inl g9)), (qa 10, .inl (cB, 64000, .inl g10)), (qa 31, .inl (cI, 4, .inl g31)), (qa 48, .inl (cI, 4, .inl g48)), (qa 49, .inl (cI, 4, .inl g49)), (qa 50, .inl (cJ, 4, .inr (.inl g50))), (qa 51, .inl (cZ, 4, .inl g51)), (qa 52, .inl (cZ, 4, .inl g52))] sz)) 0 0 (va_A [(h, .inr (10, mdF qa (nI kk) x2 x3 x4 x13 x14 x15 x16 x17 x18 x19 x20 x21 x22 x23 x24 x26 x27 x28)), (qa 5, .inl (cI, 32, .inl g5)), (qa 8, .inl (cI, 32, .inl g8)), (qa 9, .inl (cI, 32, .inl g9)), (qa 10, .inl (cB, 64000, .inl g10)), (qa 31, .inl (cI, 4, .inl g31)), (qa 48, .inl (cI, 4, .inl g48)), (qa 49, .inl (cI, 4, .inl g49)), (qa 50, .inl (cJ, 4, .inr (.inl g50))), (qa 51, .inl (cZ, 4, .inl g51)), (qa 52, .inl (cZ, 4, .inl g52))] sz) := by
  refine Met.ofW (cc := cX11_heard) (maxL := 4) (ret := (some .int)) (by decide) rfl ?_
  intro p e s m args below meth c s₁ B hml hv
  obtain ⟨rfl, hsz, hP, hK, hD0, hN, hZ⟩ := hv
  have hx := B.exec
  have hb := B.bytes
  have hr := B.returns
  have hts := atoms_spec (ws := (wsG (.code yX11_heard cX11_heard 4 (some .int)))) B.pre
  have hown : s.vm.findClass RX11 = some m.cls := findClass_of_methodNamed B.named
  have hlocks := B.notSynchronized
  subst hsz
  have hD := hD0.self (sz := s.heap.size)
  generalize hAe : va_A [(h, .inr (10, mdF qa (nI kk) x2 x3 x4 x13 x14 x15 x16 x17 x18 x19 x20 x21 x22 x23 x24 x26 x27 x28)), (qa 5, .inl (cI, 32, .inl g5)), (qa 8, .inl (cI, 32, .inl g8)), (qa 9, .inl (cI, 32, .inl g9)), (qa 10, .inl (cB, 64000, .inl g10)), (qa 31, .inl (cI, 4, .inl g31)), (qa 48, .inl (cI, 4, .inl g48)), (qa 49, .inl (cI, 4, .inl g49)), (qa 50, .inl (cJ, 4, .inr (.inl g50))), (qa 51, .inl (cZ, 4, .inl g51)), (qa 52, .inl (cZ, 4, .inl g52))] s.heap.size = A at hD hZ ⊢
  have hA : ∀ q : Nat, s.heap.size ≤ q → A q := fun q h => by rw [← hAe]; exact Or.inr h
  have hl := lv_entry ([.ref h, .int (nI cv)]) (n := 4) (Nat.le_of_ble_eq_true rfl)
  rw [lg_entry_eq]
  generalize (lg_sl ([.ref h, .int (nI cv)]) ++ List.replicate (4 - (lg_sl ([.ref h, .int (nI cv)])).length) Slot.unset).toArray = ls at hl ⊢
  have hl : lv_has ls 4 [(0, .ref h), (1, .int (nI cv))] := hl
  refine g_start (A := A) hP (fun H locs hP hS => ?_)
  refine lv_aload_n hx hb dX11_heard_0 rfl (lv_at hl 0 rfl) ?_
  refine va_get (D := (dC, dI)) (ci := 10) (v := .ref (qa 51)) (C := RX11) (T := TX11) (N := 53) hx hb hts iwX11 hown hK hP 0 rfl rfl 51 (by decide) (hts (.fieldLink RX11 117 "ModulePlayerModel" "sounds" "[Z") (List.mem_cons_of_mem _ kw_207)) (fun _ h9 => h9) rfl dX11_heard_1 ?_
  refine lv_iload_n hx hb dX11_heard_4 rfl (lv_at hl 1 rfl) ?_
  refine g_zald hx hb hK hP 9 3 rfl rfl cv (nI_clamp (Nat.lt_trans (show cv < 4 from by omega) (by decide))) (vp_in_nI (by omega) (by decide)) dX11_heard_5 ?_
  refine lv_topi (fun tv_5 etv_5 => ?_)
  refine lv_if_eq (tgt := 18) hx hb dX11_heard_6 (by decide) (fun c_6 => ?_) (fun c_6 => ?_)
  · refine lv_iconst (v := 0) hx hb dX11_heard_18 (by decide) ?_
    have hP9 := hP
    have hD9 := hD
    have hK9 := hK.sub (tys' := []) [] rfl
    exact W.iret (v := 0) hx hb hr (fun t ht hW => ⟨⟨0, _, rfl, ⟨g51, g50, rfl, r_g50⟩, by rw [ht]; exact hP9, va_K.moved hW.alike hK9, hD9⟩, hS.F ht⟩) hS.2.2 dX11_heard_19
  refine lv_aload_n hx hb dX11_heard_9 rfl (lv_at hl 0 rfl) ?_
  refine va_get (D := (dC, dI)) (ci := 10) (v := .ref (qa 48)) (C := RX11) (T := TX11) (N := 53) hx hb hts iwX11 hown hK hP 0 rfl rfl 48 (by decide) (hts (.fieldLink RX11 107 "ModulePlayerModel" "soundPeriod" "[I") (List.mem_cons_of_mem _ kw_204)) (fun _ h9 => h9) rfl dX11_heard_10 ?_
  refine lv_iload_n hx hb dX11_heard_13 rfl (lv_at hl 1 rfl) ?_
  refine g_iald hx hb hK hP 6 0 rfl rfl cv (nI_clamp (Nat.lt_trans (show cv < 4 from by omega) (by decide))) (vp_in_nI (by omega) (by decide)) dX11_heard_14 ?_
  obtain ⟨jn_14, hjn_14, ejn_14⟩ := rg_nat (kx := cv) (mx := 2147483647) r_g48 (by omega) rfl
  refine g_topi (y := nI jn_14) ejn_14 ?_
  refine lv_if_ne (tgt := 20) hx hb dX11_heard_15 (by decide) (fun c_15 => ?_) (fun c_15 => ?_)
  · refine lv_aload_n hx hb dX11_heard_20 rfl (lv_at hl 0 rfl) ?_
    refine va_get (D := (dC, dI)) (ci := 10) (v := .ref (qa 31)) (C := RX11) (T := TX11) (N := 53) hx hb hts iwX11 hown hK hP 0 rfl rfl 31 (by decide) (hts (.fieldLink RX11 56 "ModulePlayerModel" "sample" "[I") (List.mem_cons_of_mem _ kw_187)) (fun _ h9 => h9) rfl dX11_heard_21 ?_
    refine lv_iload_n hx hb dX11_heard_24 rfl (lv_at hl 1 rfl) ?_
    refine g_iald hx hb hK hP 5 0 rfl rfl cv (nI_clamp (Nat.lt_trans (show cv < 4 from by omega) (by decide))) (vp_in_nI (by omega) (by decide)) dX11_heard_25 ?_
    obtain ⟨jn_25, hjn_25, ejn_25⟩ := rg_nat (kx := cv) (mx := 31) r_g31 (by omega) rfl
    refine g_topi (y := nI jn_25) ejn_25 ?_
    refine lv_istore_n (lv' := [(2, .int (nI jn_25)), (0, .ref h), (1, .int (nI cv))]) hx hb dX11_heard_26 rfl hl (by decide) rfl (fun ls hl => ?_)
    refine lv_aload_n hx hb dX11_heard_27 rfl (lv_at hl 1 rfl) ?_
    refine va_get (D := (dC, dI)) (ci := 10) (v := .ref (qa 50)) (C := RX11) (T := TX11) (N := 53) hx hb hts iwX11 hown hK hP 0 rfl rfl 50 (by decide) (hts (.fieldLink RX11 113 "ModulePlayerModel" "at" "[J") (List.mem_cons_of_mem _ kw_206)) (fun _ h9 => h9) rfl dX11_heard_28 ?_
    refine lv_iload_n hx hb dX11_heard_31 rfl (lv_at hl 2 rfl) ?_
    refine g_lald hx hb hK hP 8 2 rfl rfl cv (nI_clamp (Nat.lt_trans (show cv < 4 from by omega) (by decide))) (vp_in_nI (by omega) (by decide)) dX11_heard_32 ?_
    obtain ⟨jn_32, hjn_32, ejn_32⟩ := rgL_nat (kx := cv) (mx := 1099511627776) r_g50 (by omega) rfl
    refine g_topl (y := lN jn_32) ejn_32 ?_
    refine lv_ldc2 (v := 65536) hx hb hown (hts (.constantLong RX11 310 (65536)) (List.mem_cons_of_mem _ kw_922)) dX11_heard_33 ?_
    refine lv_aload_n hx hb dX11_heard_36 rfl (lv_at hl 1 rfl) ?_
    refine va_get (D := (dC, dI)) (ci := 10) (v := .ref (qa 5)) (C := RX11) (T := TX11) (N := 53) hx hb hts iwX11 hown hK hP 0 rfl rfl 5 (by decide) (hts (.fieldLink RX11 17 "ModulePlayerModel" "length" "[I") (List.mem_cons_of_mem _ kw_173)) (fun _ h9 => h9) rfl dX11_heard_37 ?_
    refine lv_iload_n hx hb dX11_heard_40 rfl (lv_at hl 0 rfl) ?_
    refine g_iald hx hb hK hP 1 0 rfl rfl jn_25 (nI_clamp (Nat.lt_trans (show jn_25 < 32 from by omega) (by decide))) (vp_in_nI (by omega) (by decide)) dX11_heard_41 ?_
    obtain ⟨jn_41, hjn_41, ejn_41⟩ := rg_nat (kx := jn_25) (mx := 2000) r_g5 (by omega) rfl
    refine g_topi (y := nI jn_41) ejn_41 ?_
    refine lv_i2l (v := (nI jn_41).toInt64) hx hb dX11_heard_42 rfl ?_
    refine g_topl (y := lN jn_41) (nI_l (by omega)) ?_
    refine lv_lmul hx hb dX11_heard_43 ?_
    refine g_topl (y := lN (65536 * jn_41)) (lN_mul 65536 _) ?_
    refine W.lcmp hx hb dX11_heard_44 ?_
    refine lv_if_lt (tgt := 57) hx hb dX11_heard_45 (by decide) (fun c_45 => ?_) (fun c_45 => ?_)
    · have hat : jn_32 < 65536 * jn_41 := lcmp_lt (by omega) (by omega) c_45
      refine lv_aload_n hx hb dX11_heard_57 rfl (lv_at hl 1 rfl) ?_
      refine va_get (D := (dC, dI)) (ci := 10) (v := .ref (qa 10)) (C := RX11) (T := TX11) (N := 53) hx hb hts iwX11 hown hK hP 0 rfl rfl 10 (by decide) (hts (.fieldLink RX11 34 "ModulePlayerModel" "waves" "[B") (List.mem_cons_of_mem _ kw_179)) (fun _ h9 => h9) rfl dX11_heard_58 ?_
      refine lv_sipush (v := 2000) hx hb dX11_heard_61 (by decide) ?_
      refine lv_iload_n hx hb dX11_heard_64 rfl (lv_at hl 0 rfl) ?_
      refine lv_imul hx hb dX11_heard_65 ?_
      refine g_topi (y := nI (2000 * jn_25)) (pk_mul 2000 _) ?_
      refine lv_aload_n hx hb dX11_heard_66 rfl (lv_at hl 1 rfl) ?_
      refine va_get (D := (dC, dI)) (ci := 10) (v := .ref (qa 50)) (C := RX11) (T := TX11) (N := 53) hx hb hts iwX11 hown hK hP 0 rfl rfl 50 (by decide) (hts (.fieldLink RX11 113 "ModulePlayerModel" "at" "[J") (List.mem_cons_of_mem _ kw_206)) (fun _ h9 => h9) rfl dX11_heard_67 ?_
      refine lv_iload_n hx hb dX11_heard_70 rfl (lv_at hl 2 rfl) ?_
      refine g_lald hx hb hK hP 8 2 rfl rfl cv (nI_clamp (Nat.lt_trans (show cv < 4 from by omega) (by decide))) (vp_in_nI (by omega) (by decide)) dX11_heard_71 ?_
      refine g_topl (y := lN jn_32) ejn_32 ?_
      refine lv_ldc2 (v := 65536) hx hb hown (hts (.constantLong RX11 310 (65536)) (List.mem_cons_of_mem _ kw_922)) dX11_heard_72 ?_
      refine lv_ldiv hx hb dX11_heard_75 (by decide) ?_
      refine g_topl (y := lN (jn_32 / 65536)) (pk_lDiv (by omega) (by decide) (by decide)) ?_
      refine lv_l2i (v := (lN (jn_32 / 65536)).toInt32) hx hb dX11_heard_76 rfl ?_
      refine g_topi (y := nI (jn_32 / 65536)) (lN_i _) ?_
      refine lv_iadd hx hb dX11_heard_77 ?_
      refine g_topi (y := nI (2000 * jn_25 + jn_32 / 65536)) (nI_add _ _) ?_
      refine g_bald hx hb hK hP 4 1 rfl rfl (2000 * jn_25 + jn_32 / 65536) (nI_clamp (Nat.lt_trans (show 2000 * jn_25 + jn_32 / 65536 < 64000 from by omega) (by decide))) (vp_in_nI (by omega) (by decide)) dX11_heard_78 ?_
      refine lv_topi (fun tv_78 etv_78 => ?_)
      refine lv_aload_n hx hb dX11_heard_79 rfl (lv_at hl 1 rfl) ?_
      refine va_get (D := (dC, dI)) (ci := 10) (v := .ref (qa 49)) (C := RX11) (T := TX11) (N := 53) hx hb hts iwX11 hown hK hP 0 rfl rfl 49 (by decide) (hts (.fieldLink RX11 110 "ModulePlayerModel" "soundVolume" "[I") (List.mem_cons_of_mem _ kw_205)) (fun _ h9 => h9) rfl dX11_heard_80 ?_
      refine lv_iload_n hx hb dX11_heard_83 rfl (lv_at hl 2 rfl) ?_
      refine g_iald hx hb hK hP 7 0 rfl rfl cv (nI_clamp (Nat.lt_trans (show cv < 4 from by omega) (by decide))) (vp_in_nI (by omega) (by decide)) dX11_heard_84 ?_
      refine lv_topi (fun tv_84 etv_84 => ?_)
      refine lv_imul hx hb dX11_heard_85 ?_
      refine lv_topi (fun tv_85 etv_85 => ?_)
      refine lv_istore_n (lv' := [(3, .int tv_85), (2, .int (nI jn_25)), (0, .ref h), (1, .int (nI cv))]) hx hb dX11_heard_86 rfl hl (by decide) rfl (fun ls hl => ?_)
      refine lv_aload_n hx hb dX11_heard_87 rfl (lv_at hl 2 rfl) ?_
      refine va_get (D := (dC, dI)) (ci := 10) (v := .ref (qa 50)) (C := RX11) (T := TX11) (N := 53) hx hb hts iwX11 hown hK hP 0 rfl rfl 50 (by decide) (hts (.fieldLink RX11 113 "ModulePlayerModel" "at" "[J") (List.mem_cons_of_mem _ kw_206)) (fun _ h9 => h9) rfl dX11_heard_88 ?_
      refine lv_iload_n hx hb dX11_heard_91 rfl (lv_at hl 3 rfl) ?_
      refine lv_dup2_11 hx hb dX11_heard_92 rfl rfl ?_
      refine g_lald hx hb hK hP 8 2 rfl rfl cv (nI_clamp (Nat.lt_trans (show cv < 4 from by omega) (by decide))) (vp_in_nI (by omega) (by decide)) dX11_heard_93 ?_
      refine g_topl (y := lN jn_32) ejn_32 ?_
      refine lv_ldc2 (v := 232449310720) hx hb hown (hts (.constantLong RX11 312 (232449310720)) (List.mem_cons_of_mem _ kw_923)) dX11_heard_94 ?_
      refine lv_aload_n hx hb dX11_heard_97 rfl (lv_at hl 2 rfl) ?_
      refine va_get (D := (dC, dI)) (ci := 10) (v := .ref (qa 48)) (C := RX11) (T := TX11) (N := 53) hx hb hts iwX11 hown hK hP 0 rfl rfl 48 (by decide) (hts (.fieldLink RX11 107 "ModulePlayerModel" "soundPeriod" "[I") (List.mem_cons_of_mem _ kw_204)) (fun _ h9 => h9) rfl dX11_heard_98 ?_
      refine lv_iload_n hx hb dX11_heard_101 rfl (lv_at hl 3 rfl) ?_
      refine g_iald hx hb hK hP 6 0 rfl rfl cv (nI_clamp (Nat.lt_trans (show cv < 4 from by omega) (by decide))) (vp_in_nI (by omega) (by decide)) dX11_heard_102 ?_
      refine g_topi (y := nI jn_14) ejn_14 ?_
      refine lv_i2l (v := (nI jn_14).toInt64) hx hb dX11_heard_103 rfl ?_
      refine g_topl (y := lN jn_14) (nI_l (by omega)) ?_
      refine lv_aload_n hx hb dX11_heard_104 rfl (lv_at hl 2 rfl) ?_
      refine va_get (D := (dC, dI)) (ci := 10) (v := .int (nI kk)) (C := RX11) (T := TX11) (N := 53) hx hb hts iwX11 hown hK hP 0 rfl rfl 0 (by decide) (hts (.fieldLink RX11 132 "ModulePlayerModel" "rate" "I") (List.mem_cons_of_mem _ kw_213)) (fun _ h9 => h9) rfl dX11_heard_105 ?_
      refine lv_i2l (v := (nI kk).toInt64) hx hb dX11_heard_108 rfl ?_
      refine g_topl (y := lN kk) (nI_l (by omega)) ?_
      refine lv_lmul hx hb dX11_heard_109 ?_
      refine g_topl (y := lN (jn_14 * kk)) (lN_mul _ _) ?_
      obtain ⟨sp_, hsp_, esp_, hsp1, hsp2⟩ := st_ex (nI_0' c_15) hk1 hjn_14 hk2
      refine lv_ldiv hx hb dX11_heard_110 (lN_ne0 hsp1 hsp2) ?_
      refine g_topl (y := lN sp_) (by rw [esp_]; exact pk_lDiv (by decide) hsp1 hsp2) ?_
      refine lv_ladd hx hb dX11_heard_111 ?_
      refine g_topl (y := lN (jn_32 + sp_)) (lN_add _ _) ?_
      refine g_last hx hb hK hP hD hS 8 2 rfl rfl cv (nI_clamp (Nat.lt_trans (show cv < 4 from by omega) (by decide))) (vp_in_nI (by omega) (by decide)) dX11_heard_112 (fun H locs hP hD hS => ?_)
      have hP : va_P (dC, dI) vwCl [(h, .inr (10, mdF qa (nI kk) x2 x3 x4 x13 x14 x15 x16 x17 x18 x19 x20 x21 x22 x23 x24 x26 x27 x28)), (qa 5, .inl (cI, 32, .inl g5)), (qa 8, .inl (cI, 32, .inl g8)), (qa 9, .inl (cI, 32, .inl g9)), (qa 10, .inl (cB, 64000, .inl g10)), (qa 31, .inl (cI, 4, .inl g31)), (qa 48, .inl (cI, 4, .inl g48)), (qa 49, .inl (cI, 4, .inl g49)), (qa 50, .inl (cJ, 4, .inr (.inl (vp_updL g50 cv (lN (jn_32 + sp_)))))), (qa 51, .inl (cZ, 4, .inl g51)), (qa 52, .inl (cZ, 4, .inl g52))] H := hP
      have hD : va_D A [(h, .inr (10, mdF qa (nI kk) x2 x3 x4 x13 x14 x15 x16 x17 x18 x19 x20 x21 x22 x23 x24 x26 x27 x28)), (qa 5, .inl (cI, 32, .inl g5)), (qa 8, .inl (cI, 32, .inl g8)), (qa 9, .inl (cI, 32, .inl g9)), (qa 10, .inl (cB, 64000, .inl g10)), (qa 31, .inl (cI, 4, .inl g31)), (qa 48, .inl (cI, 4, .inl g48)), (qa 49, .inl (cI, 4, .inl g49)), (qa 50, .inl (cJ, 4, .inr (.inl (vp_updL g50 cv (lN (jn_32 + sp_)))))), (qa 51, .inl (cZ, 4, .inl g51)), (qa 52, .inl (cZ, 4, .inl g52))] := hD
      obtain ⟨u50_112, r_u50_112, eu50_112⟩ : ∃ ff : Nat → Int64, rgL 4 0 1099511627776 ff ∧ ff = vp_updL g50 cv (lN (jn_32 + sp_)) := ⟨vp_updL g50 cv (lN (jn_32 + sp_)), rgL_upd2 r_g50 (lN_rg (by omega) (by omega) (by omega)), rfl⟩
      rw [← eu50_112] at hP hD
      refine lv_aload_n hx hb dX11_heard_113 rfl (lv_at hl 2 rfl) ?_
      refine va_get (D := (dC, dI)) (ci := 10) (v := .ref (qa 9)) (C := RX11) (T := TX11) (N := 53) hx hb hts iwX11 hown hK hP 0 rfl rfl 9 (by decide) (hts (.fieldLink RX11 30 "ModulePlayerModel" "round" "[I") (List.mem_cons_of_mem _ kw_177)) (fun _ h9 => h9) rfl dX11_heard_114 ?_
      refine lv_iload_n hx hb dX11_heard_117 rfl (lv_at hl 1 rfl) ?_
      refine g_iald hx hb hK hP 3 0 rfl rfl jn_25 (nI_clamp (Nat.lt_trans (show jn_25 < 32 from by omega) (by decide))) (vp_in_nI (by omega) (by decide)) dX11_heard_118 ?_
      obtain ⟨jn_118, hjn_118, ejn_118⟩ := rg_nat (kx := jn_25) (mx := 131070) r_g9 (by omega) rfl
      refine g_topi (y := nI jn_118) ejn_118 ?_
      refine lv_iconst (v := 2) hx hb dX11_heard_119 (by decide) ?_
      refine lv_icmp_le (tgt := 174) hx hb dX11_heard_120 (by decide) (fun c_120 => ?_) (fun c_120 => ?_)
      · refine lv_aload_n hx hb dX11_heard_174 rfl (lv_at hl 2 rfl) ?_
        refine va_get (D := (dC, dI)) (ci := 10) (v := .ref (qa 50)) (C := RX11) (T := TX11) (N := 53) hx hb hts iwX11 hown hK hP 0 rfl rfl 50 (by decide) (hts (.fieldLink RX11 113 "ModulePlayerModel" "at" "[J") (List.mem_cons_of_mem _ kw_206)) (fun _ h9 => h9) rfl dX11_heard_175 ?_
        refine lv_iload_n hx hb dX11_heard_178 rfl (lv_at hl 3 rfl) ?_
        refine g_lald hx hb hK hP 8 2 rfl rfl cv (nI_clamp (Nat.lt_trans (show cv < 4 from by omega) (by decide))) (vp_in_nI (by omega) (by decide)) dX11_heard_179 ?_
        obtain ⟨jn_179, hjn_179, ejn_179⟩ := rgL_nat (kx := cv) (mx := 1099511627776) r_u50_112 (by omega) rfl
        refine g_topl (y := lN jn_179) ejn_179 ?_
        refine lv_ldc2 (v := 65536) hx hb hown (hts (.constantLong RX11 310 (65536)) (List.mem_cons_of_mem _ kw_922)) dX11_heard_180 ?_
        refine lv_aload_n hx hb dX11_heard_183 rfl (lv_at hl 2 rfl) ?_
        refine va_get (D := (dC, dI)) (ci := 10) (v := .ref (qa 5)) (C := RX11) (T := TX11) (N := 53) hx hb hts iwX11 hown hK hP 0 rfl rfl 5 (by decide) (hts (.fieldLink RX11 17 "ModulePlayerModel" "length" "[I") (List.mem_cons_of_mem _ kw_173)) (fun _ h9 => h9) rfl dX11_heard_184 ?_
        refine lv_iload_n hx hb dX11_heard_187 rfl (lv_at hl 1 rfl) ?_
        refine g_iald hx hb hK hP 1 0 rfl rfl jn_25 (nI_clamp (Nat.lt_trans (show jn_25 < 32 from by omega) (by decide))) (vp_in_nI (by omega) (by decide)) dX11_heard_188 ?_
        obtain ⟨jn_188, hjn_188, ejn_188⟩ := rg_nat (kx := jn_25) (mx := 2000) r_g5 (by omega) rfl
        refine g_topi (y := nI jn_188) ejn_188 ?_
        refine lv_i2l (v := (nI jn_188).toInt64) hx hb dX11_heard_189 rfl ?_
        refine lv_topl (fun tv_189 etv_189 => ?_)
        refine lv_lmul hx hb dX11_heard_190 ?_
        refine lv_topl (fun tv_190 etv_190 => ?_)
        refine W.lcmp hx hb dX11_heard_191 ?_
        refine lv_topi (fun tv_191 etv_191 => ?_)
        refine lv_if_lt (tgt := 202) hx hb dX11_heard_192 (by decide) (fun c_192 => ?_) (fun c_192 => ?_)
        · refine lv_aload_n hx hb dX11_heard_202 rfl (lv_at hl 2 rfl) ?_
          refine va_get (D := (dC, dI)) (ci := 10) (v := .ref (qa 52)) (C := RX11) (T := TX11) (N := 53) hx hb hts iwX11 hown hK hP 0 rfl rfl 52 (by decide) (hts (.fieldLink RX11 120 "ModulePlayerModel" "isMute" "[Z") (List.mem_cons_of_mem _ kw_208)) (fun _ h9 => h9) rfl dX11_heard_203 ?_
          refine lv_iload_n hx hb dX11_heard_206 rfl (lv_at hl 3 rfl) ?_
          refine g_zald hx hb hK hP 10 3 rfl rfl cv (nI_clamp (Nat.lt_trans (show cv < 4 from by omega) (by decide))) (vp_in_nI (by omega) (by decide)) dX11_heard_207 ?_
          refine lv_if_eq (tgt := 215) hx hb dX11_heard_208 (by decide) (fun c_208 => ?_) (fun c_208 => ?_)
          · refine lv_iload_n hx hb dX11_heard_215 rfl (lv_at hl 0 rfl) ?_
            have hP9 := hP
            have hD9 := hD
            have hK9 := hK.sub (tys' := []) [] rfl
            exact W.iret (v := tv_85) hx hb hr (fun t ht hW => ⟨⟨tv_85, _, rfl, ⟨g51, u50_112, rfl, r_u50_112⟩, by rw [ht]; exact hP9, va_K.moved hW.alike hK9, hD9⟩, hS.F ht⟩) hS.2.2 dX11_heard_216
          refine lv_iconst (v := 0) hx hb dX11_heard_211 (by decide) ?_
          refine lv_goto (tgt := 216) hx hb dX11_heard_212 (by decide) ?_
          have hP9 := hP
          have hD9 := hD
          have hK9 := hK.sub (tys' := []) [] rfl
          exact W.iret (v := 0) hx hb hr (fun t ht hW => ⟨⟨0, _, rfl, ⟨g51, u50_112, rfl, r_u50_112⟩, by rw [ht]; exact hP9, va_K.moved hW.alike hK9, hD9⟩, hS.F ht⟩) hS.2.2 dX11_heard_216
        refine lv_aload_n hx hb dX11_heard_195 rfl (lv_at hl 2 rfl) ?_
        refine va_get (D := (dC, dI)) (ci := 10) (v := .ref (qa 51)) (C := RX11) (T := TX11) (N := 53) hx hb hts iwX11 hown hK hP 0 rfl rfl 51 (by decide) (hts (.fieldLink RX11 117 "ModulePlayerModel" "sounds" "[Z") (List.mem_cons_of_mem _ kw_207)) (fun _ h9 => h9) rfl dX11_heard_196 ?_
        refine lv_iload_n hx hb dX11_heard_199 rfl (lv_at hl 3 rfl) ?_
        refine lv_iconst (v := 0) hx hb dX11_heard_200 (by decide) ?_
        refine g_zast hx hb hK hP hD hS 9 3 rfl rfl (x' := 0) (by decide) cv (nI_clamp (Nat.lt_trans (show cv < 4 from by omega) (by decide))) (vp_in_nI (by omega) (by decide)) dX11_heard_201 (fun H locs hP hD hS => ?_)
        have hP : va_P (dC, dI) vwCl [(h, .inr (10, mdF qa (nI kk) x2 x3 x4 x13 x14 x15 x16 x17 x18 x19 x20 x21 x22 x23 x24 x26 x27 x28)), (qa 5, .inl (cI, 32, .inl g5)), (qa 8, .inl (cI, 32, .inl g8)), (qa 9, .inl (cI, 32, .inl g9)), (qa 10, .inl (cB, 64000, .inl g10)), (qa 31, .inl (cI, 4, .inl g31)), (qa 48, .inl (cI, 4, .inl g48)), (qa 49, .inl (cI, 4, .inl g49)), (qa 50, .inl (cJ, 4, .inr (.inl u50_112))), (qa 51, .inl (cZ, 4, .inl (upd g51 cv 0))), (qa 52, .inl (cZ, 4, .inl g52))] H := hP
        have hD : va_D A [(h, .inr (10, mdF qa (nI kk) x2 x3 x4 x13 x14 x15 x16 x17 x18 x19 x20 x21 x22 x23 x24 x26 x27 x28)), (qa 5, .inl (cI, 32, .inl g5)), (qa 8, .inl (cI, 32, .inl g8)), (qa 9, .inl (cI, 32, .inl g9)), (qa 10, .inl (cB, 64000, .inl g10)), (qa 31, .inl (cI, 4, .inl g31)), (qa 48, .inl (cI, 4, .inl g48)), (qa 49, .inl (cI, 4, .inl g49)), (qa 50, .inl (cJ, 4, .inr (.inl u50_112))), (qa 51, .inl (cZ, 4, .inl (upd g51 cv 0))), (qa 52, .inl (cZ, 4, .inl g52))] := hD
        generalize upd g51 cv 0 = u51_201 at hP hD
        refine lv_aload_n hx hb dX11_heard_202 rfl (lv_at hl 2 rfl) ?_
        refine va_get (D := (dC, dI)) (ci := 10) (v := .ref (qa 52)) (C := RX11) (T := TX11) (N := 53) hx hb hts iwX11 hown hK hP 0 rfl rfl 52 (by decide) (hts (.fieldLink RX11 120 "ModulePlayerModel" "isMute" "[Z") (List.mem_cons_of_mem _ kw_208)) (fun _ h9 => h9) rfl dX11_heard_203 ?_
        refine lv_iload_n hx hb dX11_heard_206 rfl (lv_at hl 3 rfl) ?_
        refine g_zald hx hb hK hP 10 3 rfl rfl cv (nI_clamp (Nat.lt_trans (show cv < 4 from by omega) (by decide))) (vp_in_nI (by omega) (by decide)) dX11_heard_207 ?_
        refine lv_if_eq (tgt := 215) hx hb dX11_heard_208 (by decide) (fun c_208 => ?_) (fun c_208 => ?_)
        · refine lv_iload_n hx hb dX11_heard_215 rfl (lv_at hl 0 rfl) ?_
          have hP9 := hP
          have hD9 := hD
          have hK9 := hK.sub (tys' := []) [] rfl
          exact W.iret (v := tv_85) hx hb hr (fun t ht hW => ⟨⟨tv_85, _, rfl, ⟨u51_201, u50_112, rfl, r_u50_112⟩, by rw [ht]; exact hP9, va_K.moved hW.alike hK9, hD9⟩, hS.F ht⟩) hS.2.2 dX11_heard_216
        refine lv_iconst (v := 0) hx hb dX11_heard_211 (by decide) ?_
        refine lv_goto (tgt := 216) hx hb dX11_heard_212 (by decide) ?_
        have hP9 := hP
        have hD9 := hD
        have hK9 := hK.sub (tys' := []) [] rfl
        exact W.iret (v := 0) hx hb hr (fun t ht hW => ⟨⟨0, _, rfl, ⟨u51_201, u50_112, rfl, r_u50_112⟩, by rw [ht]; exact hP9, va_K.moved hW.alike hK9, hD9⟩, hS.F ht⟩) hS.2.2 dX11_heard_216
      have hrd : 2 < jn_118 := nI_nle' (b := 2) c_120 (by decide)
      have LP123 : ∀ (fu123 : Nat) (a50 : Nat) (l50 : Nat → Int64) (ha50 : a50 ≤ 1099511627776) (ea50 : l50 cv = lN a50) (r_l50 : rgL 4 0 1099511627776 l50) (hm123 : a50 < fu123) (H : Heap) (locs : List Loc), va_P (dC, dI) vwCl [(h, .inr (10, mdF qa (nI kk) x2 x3 x4 x13 x14 x15 x16 x17 x18 x19 x20 x21 x22 x23 x24 x26 x27 x28)), (qa 5, .inl (cI, 32, .inl g5)), (qa 8, .inl (cI, 32, .inl g8)), (qa 9, .inl (cI, 32, .inl g9)), (qa 10, .inl (cB, 64000, .inl g10)), (qa 31, .inl (cI, 4, .inl g31)), (qa 48, .inl (cI, 4, .inl g48)), (qa 49, .inl (cI, 4, .inl g49)), (qa 50, .inl (cJ, 4, .inr (.inl l50))), (qa 51, .inl (cZ, 4, .inl g51)), (qa 52, .inl (cZ, 4, .inl g52))] H → va_D A [(h, .inr (10, mdF qa (nI kk) x2 x3 x4 x13 x14 x15 x16 x17 x18 x19 x20 x21 x22 x23 x24 x26 x27 x28)), (qa 5, .inl (cI, 32, .inl g5)), (qa 8, .inl (cI, 32, .inl g8)), (qa 9, .inl (cI, 32, .inl g9)), (qa 10, .inl (cB, 64000, .inl g10)), (qa 31, .inl (cI, 4, .inl g31)), (qa 48, .inl (cI, 4, .inl g48)), (qa 49, .inl (cI, 4, .inl g49)), (qa 50, .inl (cJ, 4, .inr (.inl l50))), (qa 51, .inl (cZ, 4, .inl g51)), (qa 52, .inl (cZ, 4, .inl g52))] → va_S A s.heap H locs → ∀ ls : Array Slot, lv_has ls 4 [(3, .int tv_85), (2, .int (nI jn_25)), (0, .ref h), (1, .int (nI cv))] → W p l e ({ frames := 0, cells := 0, slots := 0, locals := 0 }) s m ([.ref h, .int (nI cv)] : List Value).toArray below meth c H locs (0) (0) (MQ below (va_Qi (fun (r : Int32) (u : va_W × gT) => ∃ (k51 : Nat → Int32) (k50 : Nat → Int64), u = ([(h, .inr (10, mdF qa (nI kk) x2 x3 x4 x13 x14 x15 x16 x17 x18 x19 x20 x21 x22 x23 x24 x26 x27 x28)), (qa 5, .inl (cI, 32, .inl g5)), (qa 8, .inl (cI, 32, .inl g8)), (qa 9, .inl (cI, 32, .inl g9)), (qa 10, .inl (cB, 64000, .inl g10)), (qa 31, .inl (cI, 4, .inl g31)), (qa 48, .inl (cI, 4, .inl g48)), (qa 49, .inl (cI, 4, .inl g49)), (qa 50, .inl (cJ, 4, .inr (.inl k50))), (qa 51, .inl (cZ, 4, .inl k51)), (qa 52, .inl (cZ, 4, .inl g52))], []) ∧ rgL 4 0 1099511627776 k50) (gB (dC, dI) A) A) ([.ref h, .int (nI cv)] : List Value).toArray s 0 0 A) (F0 m 123 ls []) := by
        intro fu123
        induction fu123 with
        | zero => intro a50 l50 ha50 ea50 r_l50 hm123; exact absurd hm123 (Nat.not_lt_zero _)
        | succ fu123 ih123 =>
          intro a50 l50 ha50 ea50 r_l50 hm123 H locs hP hD hS ls hl
          refine lv_aload_n hx hb dX11_heard_123 rfl (lv_at hl 2 rfl) ?_
          refine va_get (D := (dC, dI)) (ci := 10) (v := .ref (qa 50)) (C := RX11) (T := TX11) (N := 53) hx hb hts iwX11 hown hK hP 0 rfl rfl 50 (by decide) (hts (.fieldLink RX11 113 "ModulePlayerModel" "at" "[J") (List.mem_cons_of_mem _ kw_206)) (fun _ h9 => h9) rfl dX11_heard_124 ?_
          refine lv_iload_n hx hb dX11_heard_127 rfl (lv_at hl 3 rfl) ?_
          refine g_lald hx hb hK hP 8 2 rfl rfl cv (nI_clamp (Nat.lt_trans (show cv < 4 from by omega) (by decide))) (vp_in_nI (by omega) (by decide)) dX11_heard_128 ?_
          refine g_topl (y := lN a50) ea50 ?_
          refine lv_ldc2 (v := 65536) hx hb hown (hts (.constantLong RX11 310 (65536)) (List.mem_cons_of_mem _ kw_922)) dX11_heard_129 ?_
          refine lv_aload_n hx hb dX11_heard_132 rfl (lv_at hl 2 rfl) ?_
          refine va_get (D := (dC, dI)) (ci := 10) (v := .ref (qa 8)) (C := RX11) (T := TX11) (N := 53) hx hb hts iwX11 hown hK hP 0 rfl rfl 8 (by decide) (hts (.fieldLink RX11 27 "ModulePlayerModel" "from" "[I") (List.mem_cons_of_mem _ kw_176)) (fun _ h9 => h9) rfl dX11_heard_133 ?_
          refine lv_iload_n hx hb dX11_heard_136 rfl (lv_at hl 1 rfl) ?_
          refine g_iald hx hb hK hP 2 0 rfl rfl jn_25 (nI_clamp (Nat.lt_trans (show jn_25 < 32 from by omega) (by decide))) (vp_in_nI (by omega) (by decide)) dX11_heard_137 ?_
          obtain ⟨jn_137, hjn_137, ejn_137⟩ := rg_nat (kx := jn_25) (mx := 131070) r_g8 (by omega) rfl
          refine g_topi (y := nI jn_137) ejn_137 ?_
          refine lv_aload_n hx hb dX11_heard_138 rfl (lv_at hl 2 rfl) ?_
          refine va_get (D := (dC, dI)) (ci := 10) (v := .ref (qa 9)) (C := RX11) (T := TX11) (N := 53) hx hb hts iwX11 hown hK hP 0 rfl rfl 9 (by decide) (hts (.fieldLink RX11 30 "ModulePlayerModel" "round" "[I") (List.mem_cons_of_mem _ kw_177)) (fun _ h9 => h9) rfl dX11_heard_139 ?_
          refine lv_iload_n hx hb dX11_heard_142 rfl (lv_at hl 1 rfl) ?_
          refine g_iald hx hb hK hP 3 0 rfl rfl jn_25 (nI_clamp (Nat.lt_trans (show jn_25 < 32 from by omega) (by decide))) (vp_in_nI (by omega) (by decide)) dX11_heard_143 ?_
          refine g_topi (y := nI jn_118) ejn_118 ?_
          refine lv_iadd hx hb dX11_heard_144 ?_
          refine g_topi (y := nI (jn_137 + jn_118)) (nI_add _ _) ?_
          refine lv_i2l (v := (nI (jn_137 + jn_118)).toInt64) hx hb dX11_heard_145 rfl ?_
          refine g_topl (y := lN (jn_137 + jn_118)) (nI_l (by omega)) ?_
          refine lv_lmul hx hb dX11_heard_146 ?_
          refine g_topl (y := lN (65536 * (jn_137 + jn_118))) (lN_mul 65536 _) ?_
          refine W.lcmp hx hb dX11_heard_147 ?_
          refine lv_if_lt (tgt := 202) hx hb dX11_heard_148 (by decide) (fun c_148 => ?_) (fun c_148 => ?_)
          · refine lv_aload_n hx hb dX11_heard_202 rfl (lv_at hl 2 rfl) ?_
            refine va_get (D := (dC, dI)) (ci := 10) (v := .ref (qa 52)) (C := RX11) (T := TX11) (N := 53) hx hb hts iwX11 hown hK hP 0 rfl rfl 52 (by decide) (hts (.fieldLink RX11 120 "ModulePlayerModel" "isMute" "[Z") (List.mem_cons_of_mem _ kw_208)) (fun _ h9 => h9) rfl dX11_heard_203 ?_
            refine lv_iload_n hx hb dX11_heard_206 rfl (lv_at hl 3 rfl) ?_
            refine g_zald hx hb hK hP 10 3 rfl rfl cv (nI_clamp (Nat.lt_trans (show cv < 4 from by omega) (by decide))) (vp_in_nI (by omega) (by decide)) dX11_heard_207 ?_
            refine lv_if_eq (tgt := 215) hx hb dX11_heard_208 (by decide) (fun c_208 => ?_) (fun c_208 => ?_)
            · refine lv_iload_n hx hb dX11_heard_215 rfl (lv_at hl 0 rfl) ?_
              have hP9 := hP
              have hD9 := hD
              have hK9 := hK.sub (tys' := []) [] rfl
              exact W.iret (v := tv_85) hx hb hr (fun t ht hW => ⟨⟨tv_85, _, rfl, ⟨g51, l50, rfl, r_l50⟩, by rw [ht]; exact hP9, va_K.moved hW.alike hK9, hD9⟩, hS.F ht⟩) hS.2.2 dX11_heard_216
            refine lv_iconst (v := 0) hx hb dX11_heard_211 (by decide) ?_
            refine lv_goto (tgt := 216) hx hb dX11_heard_212 (by decide) ?_
            have hP9 := hP
            have hD9 := hD
            have hK9 := hK.sub (tys' := []) [] rfl
            exact W.iret (v := 0) hx hb hr (fun t ht hW => ⟨⟨0, _, rfl, ⟨g51, l50, rfl, r_l50⟩, by rw [ht]; exact hP9, va_K.moved hW.alike hK9, hD9⟩, hS.F ht⟩) hS.2.2 dX11_heard_216
          have hge := lcmp_nlt (by omega) (by omega) c_148
          refine lv_aload_n hx hb dX11_heard_151 rfl (lv_at hl 2 rfl) ?_
          refine va_get (D := (dC, dI)) (ci := 10) (v := .ref (qa 50)) (C := RX11) (T := TX11) (N := 53) hx hb hts iwX11 hown hK hP 0 rfl rfl 50 (by decide) (hts (.fieldLink RX11 113 "ModulePlayerModel" "at" "[J") (List.mem_cons_of_mem _ kw_206)) (fun _ h9 => h9) rfl dX11_heard_152 ?_
          refine lv_iload_n hx hb dX11_heard_155 rfl (lv_at hl 3 rfl) ?_
          refine lv_dup2_11 hx hb dX11_heard_156 rfl rfl ?_
          refine g_lald hx hb hK hP 8 2 rfl rfl cv (nI_clamp (Nat.lt_trans (show cv < 4 from by omega) (by decide))) (vp_in_nI (by omega) (by decide)) dX11_heard_157 ?_
          refine g_topl (y := lN a50) ea50 ?_
          refine lv_ldc2 (v := 65536) hx hb hown (hts (.constantLong RX11 310 (65536)) (List.mem_cons_of_mem _ kw_922)) dX11_heard_158 ?_
          refine lv_aload_n hx hb dX11_heard_161 rfl (lv_at hl 2 rfl) ?_
          refine va_get (D := (dC, dI)) (ci := 10) (v := .ref (qa 9)) (C := RX11) (T := TX11) (N := 53) hx hb hts iwX11 hown hK hP 0 rfl rfl 9 (by decide) (hts (.fieldLink RX11 30 "ModulePlayerModel" "round" "[I") (List.mem_cons_of_mem _ kw_177)) (fun _ h9 => h9) rfl dX11_heard_162 ?_
          refine lv_iload_n hx hb dX11_heard_165 rfl (lv_at hl 1 rfl) ?_
          refine g_iald hx hb hK hP 3 0 rfl rfl jn_25 (nI_clamp (Nat.lt_trans (show jn_25 < 32 from by omega) (by decide))) (vp_in_nI (by omega) (by decide)) dX11_heard_166 ?_
          refine g_topi (y := nI jn_118) ejn_118 ?_
          refine lv_i2l (v := (nI jn_118).toInt64) hx hb dX11_heard_167 rfl ?_
          refine g_topl (y := lN jn_118) (nI_l (by omega)) ?_
          refine lv_lmul hx hb dX11_heard_168 ?_
          refine g_topl (y := lN (65536 * jn_118)) (lN_mul 65536 _) ?_
          refine lv_lsub hx hb dX11_heard_169 ?_
          refine g_topl (y := lN (a50 - 65536 * jn_118)) (lN_sub (by omega)) ?_
          refine g_last hx hb hK hP hD hS 8 2 rfl rfl cv (nI_clamp (Nat.lt_trans (show cv < 4 from by omega) (by decide))) (vp_in_nI (by omega) (by decide)) dX11_heard_170 (fun H locs hP hD hS => ?_)
          have hP : va_P (dC, dI) vwCl [(h, .inr (10, mdF qa (nI kk) x2 x3 x4 x13 x14 x15 x16 x17 x18 x19 x20 x21 x22 x23 x24 x26 x27 x28)), (qa 5, .inl (cI, 32, .inl g5)), (qa 8, .inl (cI, 32, .inl g8)), (qa 9, .inl (cI, 32, .inl g9)), (qa 10, .inl (cB, 64000, .inl g10)), (qa 31, .inl (cI, 4, .inl g31)), (qa 48, .inl (cI, 4, .inl g48)), (qa 49, .inl (cI, 4, .inl g49)), (qa 50, .inl (cJ, 4, .inr (.inl (vp_updL l50 cv (lN (a50 - 65536 * jn_118)))))), (qa 51, .inl (cZ, 4, .inl g51)), (qa 52, .inl (cZ, 4, .inl g52))] H := hP
          have hD : va_D A [(h, .inr (10, mdF qa (nI kk) x2 x3 x4 x13 x14 x15 x16 x17 x18 x19 x20 x21 x22 x23 x24 x26 x27 x28)), (qa 5, .inl (cI, 32, .inl g5)), (qa 8, .inl (cI, 32, .inl g8)), (qa 9, .inl (cI, 32, .inl g9)), (qa 10, .inl (cB, 64000, .inl g10)), (qa 31, .inl (cI, 4, .inl g31)), (qa 48, .inl (cI, 4, .inl g48)), (qa 49, .inl (cI, 4, .inl g49)), (qa 50, .inl (cJ, 4, .inr (.inl (vp_updL l50 cv (lN (a50 - 65536 * jn_118)))))), (qa 51, .inl (cZ, 4, .inl g51)), (qa 52, .inl (cZ, 4, .inl g52))] := hD
          obtain ⟨u50_170, r_u50_170, eu50_170⟩ : ∃ ff : Nat → Int64, rgL 4 0 1099511627776 ff ∧ ff = vp_updL l50 cv (lN (a50 - 65536 * jn_118)) := ⟨vp_updL l50 cv (lN (a50 - 65536 * jn_118)), rgL_upd2 r_l50 (lN_rg (by omega) (by omega) (by omega)), rfl⟩
          rw [← eu50_170] at hP hD
          refine lv_goto (tgt := 123) hx hb dX11_heard_171 (by decide) ?_
          exact ih123 (a50 - 65536 * jn_118) u50_170 (by omega) (by rw [eu50_170]; exact updL_self _ _ _) (r_u50_170) (by omega) _ _ hP hD hS _ (lv_sub hl [0, 1, 2, 3] rfl)
      exact LP123 _ (jn_32 + sp_) u50_112 (by omega) (by rw [eu50_112]; exact updL_self _ _ _) (r_u50_112) (Nat.lt_succ_self _) _ _ hP hD hS _ (lv_sub hl [0, 1, 2, 3] rfl)
    refine lv_aload_n hx hb dX11_heard_48 rfl (lv_at hl 1 rfl) ?_
    refine va_get (D := (dC, dI)) (ci := 10) (v := .ref (qa 51)) (C := RX11) (T := TX11) (N := 53) hx hb hts iwX11 hown hK hP 0 rfl rfl 51 (by decide) (hts (.fieldLink RX11 117 "ModulePlayerModel" "sounds" "[Z") (List.mem_cons_of_mem _ kw_207)) (fun _ h9 => h9) rfl dX11_heard_49 ?_
    refine lv_iload_n hx hb dX11_heard_52 rfl (lv_at hl 2 rfl) ?_
    refine lv_iconst (v := 0) hx hb dX11_heard_53 (by decide) ?_
    refine g_zast hx hb hK hP hD hS 9 3 rfl rfl (x' := 0) (by decide) cv (nI_clamp (Nat.lt_trans (show cv < 4 from by omega) (by decide))) (vp_in_nI (by omega) (by decide)) dX11_heard_54 (fun H locs hP hD hS => ?_)
    have hP : va_P (dC, dI) vwCl [(h, .inr (10, mdF qa (nI kk) x2 x3 x4 x13 x14 x15 x16 x17 x18 x19 x20 x21 x22 x23 x24 x26 x27 x28)), (qa 5, .inl (cI, 32, .inl g5)), (qa 8, .inl (cI, 32, .inl g8)), (qa 9, .inl (cI, 32, .inl g9)), (qa 10, .inl (cB, 64000, .inl g10)), (qa 31, .inl (cI, 4, .inl g31)), (qa 48, .inl (cI, 4, .inl g48)), (qa 49, .inl (cI, 4, .inl g49)), (qa 50, .inl (cJ, 4, .inr (.inl g50))), (qa 51, .inl (cZ, 4, .inl (upd g51 cv 0))), (qa 52, .inl (cZ, 4, .inl g52))] H := hP
    have hD : va_D A [(h, .inr (10, mdF qa (nI kk) x2 x3 x4 x13 x14 x15 x16 x17 x18 x19 x20 x21 x22 x23 x24 x26 x27 x28)), (qa 5, .inl (cI, 32, .inl g5)), (qa 8, .inl (cI, 32, .inl g8)), (qa 9, .inl (cI, 32, .inl g9)), (qa 10, .inl (cB, 64000, .inl g10)), (qa 31, .inl (cI, 4, .inl g31)), (qa 48, .inl (cI, 4, .inl g48)), (qa 49, .inl (cI, 4, .inl g49)), (qa 50, .inl (cJ, 4, .inr (.inl g50))), (qa 51, .inl (cZ, 4, .inl (upd g51 cv 0))), (qa 52, .inl (cZ, 4, .inl g52))] := hD
    generalize upd g51 cv 0 = u51_54 at hP hD
    refine lv_iconst (v := 0) hx hb dX11_heard_55 (by decide) ?_
    have hP9 := hP
    have hD9 := hD
    have hK9 := hK.sub (tys' := []) [] rfl
    exact W.iret (v := 0) hx hb hr (fun t ht hW => ⟨⟨0, _, rfl, ⟨u51_54, g50, rfl, r_g50⟩, by rw [ht]; exact hP9, va_K.moved hW.alike hK9, hD9⟩, hS.F ht⟩) hS.2.2 dX11_heard_56
  refine lv_iconst (v := 0) hx hb dX11_heard_18 (by decide) ?_
  have hP9 := hP
  have hD9 := hD
  have hK9 := hK.sub (tys' := []) [] rfl
  exact W.iret (v := 0) hx hb hr (fun t ht hW => ⟨⟨0, _, rfl, ⟨g51, g50, rfl, r_g50⟩, by rw [ht]; exact hP9, va_K.moved hW.alike hK9, hD9⟩, hS.F ht⟩) hS.2.2 dX11_heard_19

set_option maxHeartbeats 400000 in
set_option maxRecDepth 100000 in
theorem m_mix (l : Launch) (dC : Nat → ClassId) (dI : Nat → Nat → Nat) (sz : Nat) (h : Nat) (qa : Nat → Nat) (x2 x3 x4 x13 x14 x15 x16 x17 x18 x19 x20 x21 x22 x23 x24 x26 x27 x28 : Int32) (cI cB cJ cZ : ClassId) (g5 g8 g9 g10 g29 g30 g31 g48 g49 g51 g52 : Nat → Int32) (g50 : Nat → Int64) (kk : Nat) (hk1 : 2000 ≤ kk) (hk2 : kk ≤ 16000) (r_g5 : rg 32 0 2000 g5) (r_g8 : rg 32 0 131070 g8) (r_g9 : rg 32 0 131070 g9) (r_g31 : rg 4 0 31 g31) (r_g48 : rg 4 0 2147483647 g48) (r_g50 : rgL 4 0 1099511627776 g50) (h_x16 : tmo x16) : Met l yX11_mix (wsG (.code yX11_mix cX11_mix 4 none)) ({ frames := 1, cells := 0, slots := 0, locals := 23 }) (va_Pc [.ref h] (gP (dC, dI) [(cI, .int), (cB, .byte), (cJ, .long), (cZ, .boolean)] [(h, .inr (10, mdF qa (nI kk) x2 x3 x4 x13 x14 x15 x16 x17 x18 x19 x20 x21 x22 x23 x24 x26 x27 x28)), (qa 5, .inl (cI, 32, .inl g5)), (qa 8, .inl (cI, 32, .inl g8)), (qa 9, .inl (cI, 32, .inl g9)), (qa 10, .inl (cB, 64000, .inl g10)), (qa 29, .inl (cI, 1300, .inl g29)), (qa 30, .inl (cI, 1300, .inl g30)), (qa 31, .inl (cI, 4, .inl g31)), (qa 48, .inl (cI, 4, .inl g48)), (qa 49, .inl (cI, 4, .inl g49)), (qa 50, .inl (cJ, 4, .inr (.inl g50))), (qa 51, .inl (cZ, 4, .inl g51)), (qa 52, .inl (cZ, 4, .inl g52))] sz)) (va_Qv (fun u : va_W × gT => ∃ (y22 : Int32) (y24 : Int32) (k29 : Nat → Int32) (k30 : Nat → Int32) (k51 : Nat → Int32) (k50 : Nat → Int64), u = ([(h, .inr (10, mdF qa (nI kk) x2 x3 x4 x13 x14 x15 x16 x17 x18 x19 x20 x21 y22 x23 y24 x26 x27 x28)), (qa 5, .inl (cI, 32, .inl g5)), (qa 8, .inl (cI, 32, .inl g8)), (qa 9, .inl (cI, 32, .inl g9)), (qa 10, .inl (cB, 64000, .inl g10)), (qa 29, .inl (cI, 1300, .inl k29)), (qa 30, .inl (cI, 1300, .inl k30)), (qa 31, .inl (cI, 4, .inl g31)), (qa 48, .inl (cI, 4, .inl g48)), (qa 49, .inl (cI, 4, .inl g49)), (qa 50, .inl (cJ, 4, .inr (.inl k50))), (qa 51, .inl (cZ, 4, .inl k51)), (qa 52, .inl (cZ, 4, .inl g52))], []) ∧ rgL 4 0 1099511627776 k50 ∧ frm y24) (gB (dC, dI) (va_A [(h, .inr (10, mdF qa (nI kk) x2 x3 x4 x13 x14 x15 x16 x17 x18 x19 x20 x21 x22 x23 x24 x26 x27 x28)), (qa 5, .inl (cI, 32, .inl g5)), (qa 8, .inl (cI, 32, .inl g8)), (qa 9, .inl (cI, 32, .inl g9)), (qa 10, .inl (cB, 64000, .inl g10)), (qa 29, .inl (cI, 1300, .inl g29)), (qa 30, .inl (cI, 1300, .inl g30)), (qa 31, .inl (cI, 4, .inl g31)), (qa 48, .inl (cI, 4, .inl g48)), (qa 49, .inl (cI, 4, .inl g49)), (qa 50, .inl (cJ, 4, .inr (.inl g50))), (qa 51, .inl (cZ, 4, .inl g51)), (qa 52, .inl (cZ, 4, .inl g52))] sz)) (va_A [(h, .inr (10, mdF qa (nI kk) x2 x3 x4 x13 x14 x15 x16 x17 x18 x19 x20 x21 x22 x23 x24 x26 x27 x28)), (qa 5, .inl (cI, 32, .inl g5)), (qa 8, .inl (cI, 32, .inl g8)), (qa 9, .inl (cI, 32, .inl g9)), (qa 10, .inl (cB, 64000, .inl g10)), (qa 29, .inl (cI, 1300, .inl g29)), (qa 30, .inl (cI, 1300, .inl g30)), (qa 31, .inl (cI, 4, .inl g31)), (qa 48, .inl (cI, 4, .inl g48)), (qa 49, .inl (cI, 4, .inl g49)), (qa 50, .inl (cJ, 4, .inr (.inl g50))), (qa 51, .inl (cZ, 4, .inl g51)), (qa 52, .inl (cZ, 4, .inl g52))] sz)) 0 0 (va_A [(h, .inr (10, mdF qa (nI kk) x2 x3 x4 x13 x14 x15 x16 x17 x18 x19 x20 x21 x22 x23 x24 x26 x27 x28)), (qa 5, .inl (cI, 32, .inl g5)), (qa 8, .inl (cI, 32, .inl g8)), (qa 9, .inl (cI, 32, .inl g9)), (qa 10, .inl (cB, 64000, .inl g10)), (qa 29, .inl (cI, 1300, .inl g29)), (qa 30, .inl (cI, 1300, .inl g30)), (qa 31, .inl (cI, 4, .inl g31)), (qa 48, .inl (cI, 4, .inl g48)), (qa 49, .inl (cI, 4, .inl g49)), (qa 50, .inl (cJ, 4, .inr (.inl g50))), (qa 51, .inl (cZ, 4, .inl g51)), (qa 52, .inl (cZ, 4, .inl g52))] sz) := by
  refine Met.ofW (cc := cX11_mix) (maxL := 4) (ret := none) (by decide) rfl ?_
  intro p e s m args below meth c s₁ B hml hv
  obtain ⟨rfl, hsz, hP, hK, hD0, hN, hZ⟩ := hv
  have hx := B.exec
  have hb := B.bytes
  have hr := B.returns
  have hts := atoms_spec (ws := (wsG (.code yX11_mix cX11_mix 4 none))) B.pre
  have hown : s.vm.findClass RX11 = some m.cls := findClass_of_methodNamed B.named
  have hlocks := B.notSynchronized
  subst hsz
  have hD := hD0.self (sz := s.heap.size)
  generalize hAe : va_A [(h, .inr (10, mdF qa (nI kk) x2 x3 x4 x13 x14 x15 x16 x17 x18 x19 x20 x21 x22 x23 x24 x26 x27 x28)), (qa 5, .inl (cI, 32, .inl g5)), (qa 8, .inl (cI, 32, .inl g8)), (qa 9, .inl (cI, 32, .inl g9)), (qa 10, .inl (cB, 64000, .inl g10)), (qa 29, .inl (cI, 1300, .inl g29)), (qa 30, .inl (cI, 1300, .inl g30)), (qa 31, .inl (cI, 4, .inl g31)), (qa 48, .inl (cI, 4, .inl g48)), (qa 49, .inl (cI, 4, .inl g49)), (qa 50, .inl (cJ, 4, .inr (.inl g50))), (qa 51, .inl (cZ, 4, .inl g51)), (qa 52, .inl (cZ, 4, .inl g52))] s.heap.size = A at hD hZ ⊢
  have hA : ∀ q : Nat, s.heap.size ≤ q → A q := fun q h => by rw [← hAe]; exact Or.inr h
  have hl := lv_entry ([.ref h]) (n := 4) (Nat.le_of_ble_eq_true rfl)
  rw [lg_entry_eq]
  generalize (lg_sl ([.ref h]) ++ List.replicate (4 - (lg_sl ([.ref h])).length) Slot.unset).toArray = ls at hl ⊢
  have hl : lv_has ls 4 [(0, .ref h)] := hl
  refine g_start (A := A) hP (fun H locs hP hS => ?_)
  refine lv_aload_n hx hb dX11_mix_0 rfl (lv_at hl 0 rfl) ?_
  refine lv_aload_n hx hb dX11_mix_1 rfl (lv_at hl 0 rfl) ?_
  refine va_get (D := (dC, dI)) (ci := 10) (v := .int (nI kk)) (C := RX11) (T := TX11) (N := 53) hx hb hts iwX11 hown hK hP 0 rfl rfl 0 (by decide) (hts (.fieldLink RX11 132 "ModulePlayerModel" "rate" "I") (List.mem_cons_of_mem _ kw_213)) (fun _ h9 => h9) rfl dX11_mix_2 ?_
  refine lv_iconst (v := 5) hx hb dX11_mix_5 (by decide) ?_
  refine lv_imul hx hb dX11_mix_6 ?_
  refine g_topi (y := nI (kk * 5)) (pk_mul kk 5) ?_
  refine lv_iconst (v := 2) hx hb dX11_mix_7 (by decide) ?_
  refine lv_aload_n hx hb dX11_mix_8 rfl (lv_at hl 0 rfl) ?_
  refine va_get (D := (dC, dI)) (ci := 10) (v := .int x16) (C := RX11) (T := TX11) (N := 53) hx hb hts iwX11 hown hK hP 0 rfl rfl 16 (by decide) (hts (.fieldLink RX11 200 "ModulePlayerModel" "tempo" "I") (List.mem_cons_of_mem _ kw_219)) (fun _ h9 => h9) rfl dX11_mix_9 ?_
  obtain ⟨tm, htm1, htm2, etm⟩ := tmo_nat h_x16
  refine g_topi (y := nI tm) etm ?_
  refine lv_imul hx hb dX11_mix_12 ?_
  refine g_topi (y := nI (2 * tm)) (pk_mul 2 tm) ?_
  obtain ⟨mf, hmf, hmd⟩ := fr_ex (kk := kk) htm1
  refine lv_idiv hx hb dX11_mix_13 (nI_ne0 (by omega) (by omega)) ?_
  refine g_topi (y := nI mf) (by rw [hmd]; exact pk_div (by omega) (by omega) (by omega)) ?_
  refine va_put (D := (dC, dI)) (ci := 10) (v := .int (nI mf)) (ty := tyX11 24) (C := RX11) (T := TX11) (N := 53) hx hb hts iwX11 tyX11 tyX11_ok nmX11 hown hK hP hD hS 0 rfl rfl 24 (by decide) (hts (.fieldLink RX11 212 "ModulePlayerModel" "frames" "I") (List.mem_cons_of_mem _ kw_223)) (fun _ h9 => h9) rfl (by decide +kernel) (rfl) (rfl) (Nat.le_of_ble_eq_true rfl) dX11_mix_14 (fun H locs hP hD hS => ?_)
  have hP : va_P (dC, dI) vwCl [(h, .inr (10, mdF qa (nI kk) x2 x3 x4 x13 x14 x15 x16 x17 x18 x19 x20 x21 x22 x23 (nI mf) x26 x27 x28)), (qa 5, .inl (cI, 32, .inl g5)), (qa 8, .inl (cI, 32, .inl g8)), (qa 9, .inl (cI, 32, .inl g9)), (qa 10, .inl (cB, 64000, .inl g10)), (qa 29, .inl (cI, 1300, .inl g29)), (qa 30, .inl (cI, 1300, .inl g30)), (qa 31, .inl (cI, 4, .inl g31)), (qa 48, .inl (cI, 4, .inl g48)), (qa 49, .inl (cI, 4, .inl g49)), (qa 50, .inl (cJ, 4, .inr (.inl g50))), (qa 51, .inl (cZ, 4, .inl g51)), (qa 52, .inl (cZ, 4, .inl g52))] H := hP
  have hD : va_D A [(h, .inr (10, mdF qa (nI kk) x2 x3 x4 x13 x14 x15 x16 x17 x18 x19 x20 x21 x22 x23 (nI mf) x26 x27 x28)), (qa 5, .inl (cI, 32, .inl g5)), (qa 8, .inl (cI, 32, .inl g8)), (qa 9, .inl (cI, 32, .inl g9)), (qa 10, .inl (cB, 64000, .inl g10)), (qa 29, .inl (cI, 1300, .inl g29)), (qa 30, .inl (cI, 1300, .inl g30)), (qa 31, .inl (cI, 4, .inl g31)), (qa 48, .inl (cI, 4, .inl g48)), (qa 49, .inl (cI, 4, .inl g49)), (qa 50, .inl (cJ, 4, .inr (.inl g50))), (qa 51, .inl (cZ, 4, .inl g51)), (qa 52, .inl (cZ, 4, .inl g52))] := hD
  refine lv_iconst (v := 0) hx hb dX11_mix_17 (by decide) ?_
  refine lv_istore_n (lv' := [(1, .int 0), (0, .ref h)]) hx hb dX11_mix_18 rfl hl (by decide) rfl (fun ls hl => ?_)
  have LP19 : ∀ (fu19 : Nat) (q19 : Nat) (sm1 : Int32) (l29 : Nat → Int32) (l30 : Nat → Int32) (l50 : Nat → Int64) (l51 : Nat → Int32) (hq19 : q19 ≤ mf) (r_l50 : rgL 4 0 1099511627776 l50) (hm19 : mf - q19 < fu19) (H : Heap) (locs : List Loc), va_P (dC, dI) vwCl [(h, .inr (10, mdF qa (nI kk) x2 x3 x4 x13 x14 x15 x16 x17 x18 x19 x20 x21 sm1 x23 (nI mf) x26 x27 x28)), (qa 5, .inl (cI, 32, .inl g5)), (qa 8, .inl (cI, 32, .inl g8)), (qa 9, .inl (cI, 32, .inl g9)), (qa 10, .inl (cB, 64000, .inl g10)), (qa 29, .inl (cI, 1300, .inl l29)), (qa 30, .inl (cI, 1300, .inl l30)), (qa 31, .inl (cI, 4, .inl g31)), (qa 48, .inl (cI, 4, .inl g48)), (qa 49, .inl (cI, 4, .inl g49)), (qa 50, .inl (cJ, 4, .inr (.inl l50))), (qa 51, .inl (cZ, 4, .inl l51)), (qa 52, .inl (cZ, 4, .inl g52))] H → va_D A [(h, .inr (10, mdF qa (nI kk) x2 x3 x4 x13 x14 x15 x16 x17 x18 x19 x20 x21 sm1 x23 (nI mf) x26 x27 x28)), (qa 5, .inl (cI, 32, .inl g5)), (qa 8, .inl (cI, 32, .inl g8)), (qa 9, .inl (cI, 32, .inl g9)), (qa 10, .inl (cB, 64000, .inl g10)), (qa 29, .inl (cI, 1300, .inl l29)), (qa 30, .inl (cI, 1300, .inl l30)), (qa 31, .inl (cI, 4, .inl g31)), (qa 48, .inl (cI, 4, .inl g48)), (qa 49, .inl (cI, 4, .inl g49)), (qa 50, .inl (cJ, 4, .inr (.inl l50))), (qa 51, .inl (cZ, 4, .inl l51)), (qa 52, .inl (cZ, 4, .inl g52))] → va_S A s.heap H locs → ∀ ls : Array Slot, lv_has ls 4 [(1, .int (nI q19)), (0, .ref h)] → W p l e ({ frames := 1, cells := 0, slots := 0, locals := 23 }) s m ([.ref h] : List Value).toArray below meth c H locs (0) (0) (MQ below (va_Qv (fun u : va_W × gT => ∃ (y22 : Int32) (y24 : Int32) (k29 : Nat → Int32) (k30 : Nat → Int32) (k51 : Nat → Int32) (k50 : Nat → Int64), u = ([(h, .inr (10, mdF qa (nI kk) x2 x3 x4 x13 x14 x15 x16 x17 x18 x19 x20 x21 y22 x23 y24 x26 x27 x28)), (qa 5, .inl (cI, 32, .inl g5)), (qa 8, .inl (cI, 32, .inl g8)), (qa 9, .inl (cI, 32, .inl g9)), (qa 10, .inl (cB, 64000, .inl g10)), (qa 29, .inl (cI, 1300, .inl k29)), (qa 30, .inl (cI, 1300, .inl k30)), (qa 31, .inl (cI, 4, .inl g31)), (qa 48, .inl (cI, 4, .inl g48)), (qa 49, .inl (cI, 4, .inl g49)), (qa 50, .inl (cJ, 4, .inr (.inl k50))), (qa 51, .inl (cZ, 4, .inl k51)), (qa 52, .inl (cZ, 4, .inl g52))], []) ∧ rgL 4 0 1099511627776 k50 ∧ frm y24) (gB (dC, dI) A) A) ([.ref h] : List Value).toArray s 0 0 A) (F0 m 19 ls []) := by
    intro fu19
    induction fu19 with
    | zero => intro q19 sm1 l29 l30 l50 l51 hq19 r_l50 hm19; exact absurd hm19 (Nat.not_lt_zero _)
    | succ fu19 ih19 =>
      intro q19 sm1 l29 l30 l50 l51 hq19 r_l50 hm19 H locs hP hD hS ls hl
      refine lv_iload_n hx hb dX11_mix_19 rfl (lv_at hl 0 rfl) ?_
      refine lv_aload_n hx hb dX11_mix_20 rfl (lv_at hl 1 rfl) ?_
      refine va_get (D := (dC, dI)) (ci := 10) (v := .int (nI mf)) (C := RX11) (T := TX11) (N := 53) hx hb hts iwX11 hown hK hP 0 rfl rfl 24 (by decide) (hts (.fieldLink RX11 212 "ModulePlayerModel" "frames" "I") (List.mem_cons_of_mem _ kw_223)) (fun _ h9 => h9) rfl dX11_mix_21 ?_
      refine lv_icmp_ge (tgt := 101) hx hb dX11_mix_24 (by decide) (fun c_24 => ?_) (fun c_24 => ?_)
      · have hP9 := hP
        have hD9 := hD
        have hK9 := hK.sub (tys' := []) [] rfl
        exact W.vret hx hb hr (fun t ht hW => ⟨⟨_, rfl, ⟨sm1, (nI mf), l29, l30, l51, l50, rfl, r_l50, (nI_rg (by omega) (by omega) (by omega))⟩, by rw [ht]; exact hP9, va_K.moved hW.alike hK9, hD9⟩, hS.F ht⟩) hS.2.2 dX11_mix_101
      refine lv_aload_n hx hb dX11_mix_27 rfl (lv_at hl 1 rfl) ?_
      refine lv_iconst (v := 0) hx hb dX11_mix_28 (by decide) ?_
      refine g_calli (wr := [(qa 29, .inl (cI, 1300, .inl l29)), (qa 30, .inl (cI, 1300, .inl l30))]) (va_runV (As := [.int 0]) (rest := []) ⟨hx, hb, hml, hown, hts⟩ (m_heard l dC dI H.size h qa x2 x3 x4 x13 x14 x15 x16 x17 x18 x19 x20 x21 sm1 x23 (nI mf) x26 x27 x28 cI cB cJ cZ g5 g8 g9 g10 g31 g48 g49 l51 g52 l50 0 kk (by decide) (hk1) (hk2) (r_g5) (r_g8) (r_g9) (r_g31) (r_g48) (r_l50)) (cwV 1 hts (gG_V kw_918 kw_919 kw_920 kw_5 kw_921) rfl rfl rfl (by decide +kernel) ⟨Nat.le_of_ble_eq_true rfl, Nat.le_of_ble_eq_true rfl⟩) (g_preV (C := RX11) (T := TX11) (N := 53) hP hD hK hS hA hN hZ (q0 := 0) rfl rfl [0, 1, 2, 3, 4, 7, 8, 9, 10, 11, 12] (by decide +kernel) rfl [0, 1, 2, 3] rfl) rfl rfl hl.1 rfl (lv_room (Nat.le_of_ble_eq_true rfl)) dX11_mix_29 ⟨Nat.le_of_ble_eq_true rfl, Nat.le_of_ble_eq_true rfl⟩) hP hD hK hS hA [0, 1, 2, 3, 4, 7, 8, 9, 10, 11, 12] [5, 6] rfl rfl (by decide +kernel) (by decide +kernel) (fun r_29 w ty1 H locs hw_29 hP hD _ hS => ?_)
      rcases hw_29 with ⟨k51_29, k50_29, hu, r_k50_29⟩
      cases hu
      have hP : va_P (dC, dI) vwCl [(qa 29, .inl (cI, 1300, .inl l29)), (qa 30, .inl (cI, 1300, .inl l30)), (h, .inr (10, mdF qa (nI kk) x2 x3 x4 x13 x14 x15 x16 x17 x18 x19 x20 x21 sm1 x23 (nI mf) x26 x27 x28)), (qa 5, .inl (cI, 32, .inl g5)), (qa 8, .inl (cI, 32, .inl g8)), (qa 9, .inl (cI, 32, .inl g9)), (qa 10, .inl (cB, 64000, .inl g10)), (qa 31, .inl (cI, 4, .inl g31)), (qa 48, .inl (cI, 4, .inl g48)), (qa 49, .inl (cI, 4, .inl g49)), (qa 50, .inl (cJ, 4, .inr (.inl k50_29))), (qa 51, .inl (cZ, 4, .inl k51_29)), (qa 52, .inl (cZ, 4, .inl g52))] H := hP
      have hD : va_D A [(qa 29, .inl (cI, 1300, .inl l29)), (qa 30, .inl (cI, 1300, .inl l30)), (h, .inr (10, mdF qa (nI kk) x2 x3 x4 x13 x14 x15 x16 x17 x18 x19 x20 x21 sm1 x23 (nI mf) x26 x27 x28)), (qa 5, .inl (cI, 32, .inl g5)), (qa 8, .inl (cI, 32, .inl g8)), (qa 9, .inl (cI, 32, .inl g9)), (qa 10, .inl (cB, 64000, .inl g10)), (qa 31, .inl (cI, 4, .inl g31)), (qa 48, .inl (cI, 4, .inl g48)), (qa 49, .inl (cI, 4, .inl g49)), (qa 50, .inl (cJ, 4, .inr (.inl k50_29))), (qa 51, .inl (cZ, 4, .inl k51_29)), (qa 52, .inl (cZ, 4, .inl g52))] := hD
      refine lv_istore_n (lv' := [(2, .int r_29), (1, .int (nI q19)), (0, .ref h)]) hx hb dX11_mix_32 rfl hl (by decide) rfl (fun ls hl => ?_)
      refine lv_aload_n hx hb dX11_mix_33 rfl (lv_at hl 2 rfl) ?_
      refine lv_iconst (v := 1) hx hb dX11_mix_34 (by decide) ?_
      refine g_calli (wr := [(qa 29, .inl (cI, 1300, .inl l29)), (qa 30, .inl (cI, 1300, .inl l30))]) (va_runV (As := [.int 1]) (rest := []) ⟨hx, hb, hml, hown, hts⟩ (m_heard l dC dI H.size h qa x2 x3 x4 x13 x14 x15 x16 x17 x18 x19 x20 x21 sm1 x23 (nI mf) x26 x27 x28 cI cB cJ cZ g5 g8 g9 g10 g31 g48 g49 k51_29 g52 k50_29 1 kk (by decide) (hk1) (hk2) (r_g5) (r_g8) (r_g9) (r_g31) (r_g48) (r_k50_29)) (cwV 1 hts (gG_V kw_918 kw_919 kw_920 kw_5 kw_921) rfl rfl rfl (by decide +kernel) ⟨Nat.le_of_ble_eq_true rfl, Nat.le_of_ble_eq_true rfl⟩) (g_preV (C := RX11) (T := TX11) (N := 53) hP hD hK hS hA hN hZ (q0 := 2) rfl rfl [2, 3, 4, 5, 6, 7, 8, 9, 10, 11, 12] (by decide +kernel) rfl [0, 1, 2, 3] rfl) rfl rfl hl.1 rfl (lv_room (Nat.le_of_ble_eq_true rfl)) dX11_mix_35 ⟨Nat.le_of_ble_eq_true rfl, Nat.le_of_ble_eq_true rfl⟩) hP hD hK hS hA [2, 3, 4, 5, 6, 7, 8, 9, 10, 11, 12] [0, 1] rfl rfl (by decide +kernel) (by decide +kernel) (fun r_35 w ty1 H locs hw_35 hP hD _ hS => ?_)
      rcases hw_35 with ⟨k51_35, k50_35, hu, r_k50_35⟩
      cases hu
      have hP : va_P (dC, dI) vwCl [(qa 29, .inl (cI, 1300, .inl l29)), (qa 30, .inl (cI, 1300, .inl l30)), (h, .inr (10, mdF qa (nI kk) x2 x3 x4 x13 x14 x15 x16 x17 x18 x19 x20 x21 sm1 x23 (nI mf) x26 x27 x28)), (qa 5, .inl (cI, 32, .inl g5)), (qa 8, .inl (cI, 32, .inl g8)), (qa 9, .inl (cI, 32, .inl g9)), (qa 10, .inl (cB, 64000, .inl g10)), (qa 31, .inl (cI, 4, .inl g31)), (qa 48, .inl (cI, 4, .inl g48)), (qa 49, .inl (cI, 4, .inl g49)), (qa 50, .inl (cJ, 4, .inr (.inl k50_35))), (qa 51, .inl (cZ, 4, .inl k51_35)), (qa 52, .inl (cZ, 4, .inl g52))] H := hP
      have hD : va_D A [(qa 29, .inl (cI, 1300, .inl l29)), (qa 30, .inl (cI, 1300, .inl l30)), (h, .inr (10, mdF qa (nI kk) x2 x3 x4 x13 x14 x15 x16 x17 x18 x19 x20 x21 sm1 x23 (nI mf) x26 x27 x28)), (qa 5, .inl (cI, 32, .inl g5)), (qa 8, .inl (cI, 32, .inl g8)), (qa 9, .inl (cI, 32, .inl g9)), (qa 10, .inl (cB, 64000, .inl g10)), (qa 31, .inl (cI, 4, .inl g31)), (qa 48, .inl (cI, 4, .inl g48)), (qa 49, .inl (cI, 4, .inl g49)), (qa 50, .inl (cJ, 4, .inr (.inl k50_35))), (qa 51, .inl (cZ, 4, .inl k51_35)), (qa 52, .inl (cZ, 4, .inl g52))] := hD
      refine lv_istore_n (lv' := [(3, .int r_35), (2, .int r_29), (1, .int (nI q19)), (0, .ref h)]) hx hb dX11_mix_38 rfl hl (by decide) rfl (fun ls hl => ?_)
      refine lv_iload_n hx hb dX11_mix_39 rfl (lv_at hl 0 rfl) ?_
      refine lv_aload_n hx hb dX11_mix_40 rfl (lv_at hl 3 rfl) ?_
      refine lv_iconst (v := 2) hx hb dX11_mix_41 (by decide) ?_
      refine g_calli (wr := [(qa 29, .inl (cI, 1300, .inl l29)), (qa 30, .inl (cI, 1300, .inl l30))]) (va_runV (As := [.int 2]) (rest := [.int r_35]) ⟨hx, hb, hml, hown, hts⟩ (m_heard l dC dI H.size h qa x2 x3 x4 x13 x14 x15 x16 x17 x18 x19 x20 x21 sm1 x23 (nI mf) x26 x27 x28 cI cB cJ cZ g5 g8 g9 g10 g31 g48 g49 k51_35 g52 k50_35 2 kk (by decide) (hk1) (hk2) (r_g5) (r_g8) (r_g9) (r_g31) (r_g48) (r_k50_35)) (cwV 1 hts (gG_V kw_918 kw_919 kw_920 kw_5 kw_921) rfl rfl rfl (by decide +kernel) ⟨Nat.le_of_ble_eq_true rfl, Nat.le_of_ble_eq_true rfl⟩) (g_preV (C := RX11) (T := TX11) (N := 53) hP hD hK hS hA hN hZ (q0 := 2) rfl rfl [2, 3, 4, 5, 6, 7, 8, 9, 10, 11, 12] (by decide +kernel) rfl [0, 1, 2, 3] rfl) rfl rfl hl.1 rfl (lv_room (Nat.le_of_ble_eq_true rfl)) dX11_mix_42 ⟨Nat.le_of_ble_eq_true rfl, Nat.le_of_ble_eq_true rfl⟩) hP hD hK hS hA [2, 3, 4, 5, 6, 7, 8, 9, 10, 11, 12] [0, 1] rfl rfl (by decide +kernel) (by decide +kernel) (fun r_42 w ty1 H locs hw_42 hP hD _ hS => ?_)
      rcases hw_42 with ⟨k51_42, k50_42, hu, r_k50_42⟩
      cases hu
      have hP : va_P (dC, dI) vwCl [(qa 29, .inl (cI, 1300, .inl l29)), (qa 30, .inl (cI, 1300, .inl l30)), (h, .inr (10, mdF qa (nI kk) x2 x3 x4 x13 x14 x15 x16 x17 x18 x19 x20 x21 sm1 x23 (nI mf) x26 x27 x28)), (qa 5, .inl (cI, 32, .inl g5)), (qa 8, .inl (cI, 32, .inl g8)), (qa 9, .inl (cI, 32, .inl g9)), (qa 10, .inl (cB, 64000, .inl g10)), (qa 31, .inl (cI, 4, .inl g31)), (qa 48, .inl (cI, 4, .inl g48)), (qa 49, .inl (cI, 4, .inl g49)), (qa 50, .inl (cJ, 4, .inr (.inl k50_42))), (qa 51, .inl (cZ, 4, .inl k51_42)), (qa 52, .inl (cZ, 4, .inl g52))] H := hP
      have hD : va_D A [(qa 29, .inl (cI, 1300, .inl l29)), (qa 30, .inl (cI, 1300, .inl l30)), (h, .inr (10, mdF qa (nI kk) x2 x3 x4 x13 x14 x15 x16 x17 x18 x19 x20 x21 sm1 x23 (nI mf) x26 x27 x28)), (qa 5, .inl (cI, 32, .inl g5)), (qa 8, .inl (cI, 32, .inl g8)), (qa 9, .inl (cI, 32, .inl g9)), (qa 10, .inl (cB, 64000, .inl g10)), (qa 31, .inl (cI, 4, .inl g31)), (qa 48, .inl (cI, 4, .inl g48)), (qa 49, .inl (cI, 4, .inl g49)), (qa 50, .inl (cJ, 4, .inr (.inl k50_42))), (qa 51, .inl (cZ, 4, .inl k51_42)), (qa 52, .inl (cZ, 4, .inl g52))] := hD
      refine lv_iadd hx hb dX11_mix_45 ?_
      refine lv_topi (fun tv_45 etv_45 => ?_)
      refine lv_istore_n (lv' := [(3, .int tv_45), (2, .int r_29), (1, .int (nI q19)), (0, .ref h)]) hx hb dX11_mix_46 rfl hl (by decide) rfl (fun ls hl => ?_)
      refine lv_iload_n hx hb dX11_mix_47 rfl (lv_at hl 1 rfl) ?_
      refine lv_aload_n hx hb dX11_mix_48 rfl (lv_at hl 3 rfl) ?_
      refine lv_iconst (v := 3) hx hb dX11_mix_49 (by decide) ?_
      refine g_calli (wr := [(qa 29, .inl (cI, 1300, .inl l29)), (qa 30, .inl (cI, 1300, .inl l30))]) (va_runV (As := [.int 3]) (rest := [.int r_29]) ⟨hx, hb, hml, hown, hts⟩ (m_heard l dC dI H.size h qa x2 x3 x4 x13 x14 x15 x16 x17 x18 x19 x20 x21 sm1 x23 (nI mf) x26 x27 x28 cI cB cJ cZ g5 g8 g9 g10 g31 g48 g49 k51_42 g52 k50_42 3 kk (by decide) (hk1) (hk2) (r_g5) (r_g8) (r_g9) (r_g31) (r_g48) (r_k50_42)) (cwV 1 hts (gG_V kw_918 kw_919 kw_920 kw_5 kw_921) rfl rfl rfl (by decide +kernel) ⟨Nat.le_of_ble_eq_true rfl, Nat.le_of_ble_eq_true rfl⟩) (g_preV (C := RX11) (T := TX11) (N := 53) hP hD hK hS hA hN hZ (q0 := 2) rfl rfl [2, 3, 4, 5, 6, 7, 8, 9, 10, 11, 12] (by decide +kernel) rfl [0, 1, 2, 3] rfl) rfl rfl hl.1 rfl (lv_room (Nat.le_of_ble_eq_true rfl)) dX11_mix_50 ⟨Nat.le_of_ble_eq_true rfl, Nat.le_of_ble_eq_true rfl⟩) hP hD hK hS hA [2, 3, 4, 5, 6, 7, 8, 9, 10, 11, 12] [0, 1] rfl rfl (by decide +kernel) (by decide +kernel) (fun r_50 w ty1 H locs hw_50 hP hD _ hS => ?_)
      rcases hw_50 with ⟨k51_50, k50_50, hu, r_k50_50⟩
      cases hu
      have hP : va_P (dC, dI) vwCl [(qa 29, .inl (cI, 1300, .inl l29)), (qa 30, .inl (cI, 1300, .inl l30)), (h, .inr (10, mdF qa (nI kk) x2 x3 x4 x13 x14 x15 x16 x17 x18 x19 x20 x21 sm1 x23 (nI mf) x26 x27 x28)), (qa 5, .inl (cI, 32, .inl g5)), (qa 8, .inl (cI, 32, .inl g8)), (qa 9, .inl (cI, 32, .inl g9)), (qa 10, .inl (cB, 64000, .inl g10)), (qa 31, .inl (cI, 4, .inl g31)), (qa 48, .inl (cI, 4, .inl g48)), (qa 49, .inl (cI, 4, .inl g49)), (qa 50, .inl (cJ, 4, .inr (.inl k50_50))), (qa 51, .inl (cZ, 4, .inl k51_50)), (qa 52, .inl (cZ, 4, .inl g52))] H := hP
      have hD : va_D A [(qa 29, .inl (cI, 1300, .inl l29)), (qa 30, .inl (cI, 1300, .inl l30)), (h, .inr (10, mdF qa (nI kk) x2 x3 x4 x13 x14 x15 x16 x17 x18 x19 x20 x21 sm1 x23 (nI mf) x26 x27 x28)), (qa 5, .inl (cI, 32, .inl g5)), (qa 8, .inl (cI, 32, .inl g8)), (qa 9, .inl (cI, 32, .inl g9)), (qa 10, .inl (cB, 64000, .inl g10)), (qa 31, .inl (cI, 4, .inl g31)), (qa 48, .inl (cI, 4, .inl g48)), (qa 49, .inl (cI, 4, .inl g49)), (qa 50, .inl (cJ, 4, .inr (.inl k50_50))), (qa 51, .inl (cZ, 4, .inl k51_50)), (qa 52, .inl (cZ, 4, .inl g52))] := hD
      refine lv_iadd hx hb dX11_mix_53 ?_
      refine lv_topi (fun tv_53 etv_53 => ?_)
      refine lv_istore_n (lv' := [(2, .int tv_53), (3, .int tv_45), (1, .int (nI q19)), (0, .ref h)]) hx hb dX11_mix_54 rfl hl (by decide) rfl (fun ls hl => ?_)
      refine lv_aload_n hx hb dX11_mix_55 rfl (lv_at hl 3 rfl) ?_
      refine va_get (D := (dC, dI)) (ci := 10) (v := .ref (qa 29)) (C := RX11) (T := TX11) (N := 53) hx hb hts iwX11 hown hK hP 2 rfl rfl 29 (by decide) (hts (.fieldLink RX11 50 "ModulePlayerModel" "mixLeft" "[I") (List.mem_cons_of_mem _ kw_185)) (fun _ h9 => h9) rfl dX11_mix_56 ?_
      refine lv_iload_n hx hb dX11_mix_59 rfl (lv_at hl 2 rfl) ?_
      refine lv_iload_n hx hb dX11_mix_60 rfl (lv_at hl 0 rfl) ?_
      refine g_iast hx hb hK hP hD hS 0 0 rfl rfl q19 (nI_clamp (by omega)) (vp_in_nI (by have := nI_nle' c_24 (by omega); omega) (by decide)) dX11_mix_61 (fun H locs hP hD hS => ?_)
      have hP : va_P (dC, dI) vwCl [(qa 29, .inl (cI, 1300, .inl (upd l29 q19 tv_53))), (qa 30, .inl (cI, 1300, .inl l30)), (h, .inr (10, mdF qa (nI kk) x2 x3 x4 x13 x14 x15 x16 x17 x18 x19 x20 x21 sm1 x23 (nI mf) x26 x27 x28)), (qa 5, .inl (cI, 32, .inl g5)), (qa 8, .inl (cI, 32, .inl g8)), (qa 9, .inl (cI, 32, .inl g9)), (qa 10, .inl (cB, 64000, .inl g10)), (qa 31, .inl (cI, 4, .inl g31)), (qa 48, .inl (cI, 4, .inl g48)), (qa 49, .inl (cI, 4, .inl g49)), (qa 50, .inl (cJ, 4, .inr (.inl k50_50))), (qa 51, .inl (cZ, 4, .inl k51_50)), (qa 52, .inl (cZ, 4, .inl g52))] H := hP
      have hD : va_D A [(qa 29, .inl (cI, 1300, .inl (upd l29 q19 tv_53))), (qa 30, .inl (cI, 1300, .inl l30)), (h, .inr (10, mdF qa (nI kk) x2 x3 x4 x13 x14 x15 x16 x17 x18 x19 x20 x21 sm1 x23 (nI mf) x26 x27 x28)), (qa 5, .inl (cI, 32, .inl g5)), (qa 8, .inl (cI, 32, .inl g8)), (qa 9, .inl (cI, 32, .inl g9)), (qa 10, .inl (cB, 64000, .inl g10)), (qa 31, .inl (cI, 4, .inl g31)), (qa 48, .inl (cI, 4, .inl g48)), (qa 49, .inl (cI, 4, .inl g49)), (qa 50, .inl (cJ, 4, .inr (.inl k50_50))), (qa 51, .inl (cZ, 4, .inl k51_50)), (qa 52, .inl (cZ, 4, .inl g52))] := hD
      generalize upd l29 q19 tv_53 = u29_61 at hP hD
      refine lv_aload_n hx hb dX11_mix_62 rfl (lv_at hl 3 rfl) ?_
      refine va_get (D := (dC, dI)) (ci := 10) (v := .ref (qa 30)) (C := RX11) (T := TX11) (N := 53) hx hb hts iwX11 hown hK hP 2 rfl rfl 30 (by decide) (hts (.fieldLink RX11 53 "ModulePlayerModel" "mixRight" "[I") (List.mem_cons_of_mem _ kw_186)) (fun _ h9 => h9) rfl dX11_mix_63 ?_
      refine lv_iload_n hx hb dX11_mix_66 rfl (lv_at hl 2 rfl) ?_
      refine lv_iload_n hx hb dX11_mix_67 rfl (lv_at hl 1 rfl) ?_
      refine g_iast hx hb hK hP hD hS 1 0 rfl rfl q19 (nI_clamp (by omega)) (vp_in_nI (by have := nI_nle' c_24 (by omega); omega) (by decide)) dX11_mix_68 (fun H locs hP hD hS => ?_)
      have hP : va_P (dC, dI) vwCl [(qa 29, .inl (cI, 1300, .inl u29_61)), (qa 30, .inl (cI, 1300, .inl (upd l30 q19 tv_45))), (h, .inr (10, mdF qa (nI kk) x2 x3 x4 x13 x14 x15 x16 x17 x18 x19 x20 x21 sm1 x23 (nI mf) x26 x27 x28)), (qa 5, .inl (cI, 32, .inl g5)), (qa 8, .inl (cI, 32, .inl g8)), (qa 9, .inl (cI, 32, .inl g9)), (qa 10, .inl (cB, 64000, .inl g10)), (qa 31, .inl (cI, 4, .inl g31)), (qa 48, .inl (cI, 4, .inl g48)), (qa 49, .inl (cI, 4, .inl g49)), (qa 50, .inl (cJ, 4, .inr (.inl k50_50))), (qa 51, .inl (cZ, 4, .inl k51_50)), (qa 52, .inl (cZ, 4, .inl g52))] H := hP
      have hD : va_D A [(qa 29, .inl (cI, 1300, .inl u29_61)), (qa 30, .inl (cI, 1300, .inl (upd l30 q19 tv_45))), (h, .inr (10, mdF qa (nI kk) x2 x3 x4 x13 x14 x15 x16 x17 x18 x19 x20 x21 sm1 x23 (nI mf) x26 x27 x28)), (qa 5, .inl (cI, 32, .inl g5)), (qa 8, .inl (cI, 32, .inl g8)), (qa 9, .inl (cI, 32, .inl g9)), (qa 10, .inl (cB, 64000, .inl g10)), (qa 31, .inl (cI, 4, .inl g31)), (qa 48, .inl (cI, 4, .inl g48)), (qa 49, .inl (cI, 4, .inl g49)), (qa 50, .inl (cJ, 4, .inr (.inl k50_50))), (qa 51, .inl (cZ, 4, .inl k51_50)), (qa 52, .inl (cZ, 4, .inl g52))] := hD
      generalize upd l30 q19 tv_45 = u30_68 at hP hD
      refine lv_aload_n hx hb dX11_mix_69 rfl (lv_at hl 3 rfl) ?_
      refine lv_bipush (v := 31) hx hb dX11_mix_70 (by decide) ?_
      refine lv_aload_n hx hb dX11_mix_72 rfl (lv_at hl 3 rfl) ?_
      refine va_get (D := (dC, dI)) (ci := 10) (v := .int sm1) (C := RX11) (T := TX11) (N := 53) hx hb hts iwX11 hown hK hP 2 rfl rfl 22 (by decide) (hts (.fieldLink RX11 221 "ModulePlayerModel" "sum" "I") (List.mem_cons_of_mem _ kw_226)) (fun _ h9 => h9) rfl dX11_mix_73 ?_
      refine lv_imul hx hb dX11_mix_76 ?_
      refine lv_topi (fun tv_76 etv_76 => ?_)
      refine lv_iload_n hx hb dX11_mix_77 rfl (lv_at hl 0 rfl) ?_
      refine lv_iadd hx hb dX11_mix_78 ?_
      refine lv_topi (fun tv_78 etv_78 => ?_)
      refine va_put (D := (dC, dI)) (ci := 10) (v := .int tv_78) (ty := tyX11 22) (C := RX11) (T := TX11) (N := 53) hx hb hts iwX11 tyX11 tyX11_ok nmX11 hown hK hP hD hS 2 rfl rfl 22 (by decide) (hts (.fieldLink RX11 221 "ModulePlayerModel" "sum" "I") (List.mem_cons_of_mem _ kw_226)) (fun _ h9 => h9) rfl (by decide +kernel) (rfl) (rfl) (Nat.le_of_ble_eq_true rfl) dX11_mix_79 (fun H locs hP hD hS => ?_)
      have hP : va_P (dC, dI) vwCl [(qa 29, .inl (cI, 1300, .inl u29_61)), (qa 30, .inl (cI, 1300, .inl u30_68)), (h, .inr (10, mdF qa (nI kk) x2 x3 x4 x13 x14 x15 x16 x17 x18 x19 x20 x21 tv_78 x23 (nI mf) x26 x27 x28)), (qa 5, .inl (cI, 32, .inl g5)), (qa 8, .inl (cI, 32, .inl g8)), (qa 9, .inl (cI, 32, .inl g9)), (qa 10, .inl (cB, 64000, .inl g10)), (qa 31, .inl (cI, 4, .inl g31)), (qa 48, .inl (cI, 4, .inl g48)), (qa 49, .inl (cI, 4, .inl g49)), (qa 50, .inl (cJ, 4, .inr (.inl k50_50))), (qa 51, .inl (cZ, 4, .inl k51_50)), (qa 52, .inl (cZ, 4, .inl g52))] H := hP
      have hD : va_D A [(qa 29, .inl (cI, 1300, .inl u29_61)), (qa 30, .inl (cI, 1300, .inl u30_68)), (h, .inr (10, mdF qa (nI kk) x2 x3 x4 x13 x14 x15 x16 x17 x18 x19 x20 x21 tv_78 x23 (nI mf) x26 x27 x28)), (qa 5, .inl (cI, 32, .inl g5)), (qa 8, .inl (cI, 32, .inl g8)), (qa 9, .inl (cI, 32, .inl g9)), (qa 10, .inl (cB, 64000, .inl g10)), (qa 31, .inl (cI, 4, .inl g31)), (qa 48, .inl (cI, 4, .inl g48)), (qa 49, .inl (cI, 4, .inl g49)), (qa 50, .inl (cJ, 4, .inr (.inl k50_50))), (qa 51, .inl (cZ, 4, .inl k51_50)), (qa 52, .inl (cZ, 4, .inl g52))] := hD
      refine lv_aload_n hx hb dX11_mix_82 rfl (lv_at hl 3 rfl) ?_
      refine lv_bipush (v := 31) hx hb dX11_mix_83 (by decide) ?_
      refine lv_aload_n hx hb dX11_mix_85 rfl (lv_at hl 3 rfl) ?_
      refine va_get (D := (dC, dI)) (ci := 10) (v := .int tv_78) (C := RX11) (T := TX11) (N := 53) hx hb hts iwX11 hown hK hP 2 rfl rfl 22 (by decide) (hts (.fieldLink RX11 221 "ModulePlayerModel" "sum" "I") (List.mem_cons_of_mem _ kw_226)) (fun _ h9 => h9) rfl dX11_mix_86 ?_
      refine lv_imul hx hb dX11_mix_89 ?_
      refine lv_topi (fun tv_89 etv_89 => ?_)
      refine lv_iload_n hx hb dX11_mix_90 rfl (lv_at hl 1 rfl) ?_
      refine lv_iadd hx hb dX11_mix_91 ?_
      refine lv_topi (fun tv_91 etv_91 => ?_)
      refine va_put (D := (dC, dI)) (ci := 10) (v := .int tv_91) (ty := tyX11 22) (C := RX11) (T := TX11) (N := 53) hx hb hts iwX11 tyX11 tyX11_ok nmX11 hown hK hP hD hS 2 rfl rfl 22 (by decide) (hts (.fieldLink RX11 221 "ModulePlayerModel" "sum" "I") (List.mem_cons_of_mem _ kw_226)) (fun _ h9 => h9) rfl (by decide +kernel) (rfl) (rfl) (Nat.le_of_ble_eq_true rfl) dX11_mix_92 (fun H locs hP hD hS => ?_)
      have hP : va_P (dC, dI) vwCl [(qa 29, .inl (cI, 1300, .inl u29_61)), (qa 30, .inl (cI, 1300, .inl u30_68)), (h, .inr (10, mdF qa (nI kk) x2 x3 x4 x13 x14 x15 x16 x17 x18 x19 x20 x21 tv_91 x23 (nI mf) x26 x27 x28)), (qa 5, .inl (cI, 32, .inl g5)), (qa 8, .inl (cI, 32, .inl g8)), (qa 9, .inl (cI, 32, .inl g9)), (qa 10, .inl (cB, 64000, .inl g10)), (qa 31, .inl (cI, 4, .inl g31)), (qa 48, .inl (cI, 4, .inl g48)), (qa 49, .inl (cI, 4, .inl g49)), (qa 50, .inl (cJ, 4, .inr (.inl k50_50))), (qa 51, .inl (cZ, 4, .inl k51_50)), (qa 52, .inl (cZ, 4, .inl g52))] H := hP
      have hD : va_D A [(qa 29, .inl (cI, 1300, .inl u29_61)), (qa 30, .inl (cI, 1300, .inl u30_68)), (h, .inr (10, mdF qa (nI kk) x2 x3 x4 x13 x14 x15 x16 x17 x18 x19 x20 x21 tv_91 x23 (nI mf) x26 x27 x28)), (qa 5, .inl (cI, 32, .inl g5)), (qa 8, .inl (cI, 32, .inl g8)), (qa 9, .inl (cI, 32, .inl g9)), (qa 10, .inl (cB, 64000, .inl g10)), (qa 31, .inl (cI, 4, .inl g31)), (qa 48, .inl (cI, 4, .inl g48)), (qa 49, .inl (cI, 4, .inl g49)), (qa 50, .inl (cJ, 4, .inr (.inl k50_50))), (qa 51, .inl (cZ, 4, .inl k51_50)), (qa 52, .inl (cZ, 4, .inl g52))] := hD
      refine lv_iinc (v := nI (q19 + 1)) (lv' := [(1, .int (nI (q19 + 1))), (2, .int tv_53), (3, .int tv_45), (0, .ref h)]) hx hb dX11_mix_95 hl (k := 2) rfl (nI_1 q19) (by decide) rfl (fun ls hl => ?_)
      refine lv_goto (tgt := 19) hx hb dX11_mix_98 (by decide) ?_
      exact ih19 (q19 + 1) tv_91 u29_61 u30_68 k50_50 k51_50 (by have := nI_nle' c_24 (by omega); omega) (r_k50_50) (by have := nI_nle' c_24 (by omega); omega) _ _ (hP.sub [2, 3, 4, 5, 6, 0, 1, 7, 8, 9, 10, 11, 12] rfl) (hD.sub [2, 3, 4, 5, 6, 0, 1, 7, 8, 9, 10, 11, 12] (by decide +kernel) rfl) hS _ (lv_sub hl [0, 3] rfl)
  exact LP19 _ 0 x22 g29 g30 g50 g51 (Nat.zero_le _) (r_g50) (Nat.lt_succ_self _) _ _ hP hD hS _ (lv_sub hl [0, 1] rfl)

set_option maxHeartbeats 400000 in
set_option maxRecDepth 100000 in
theorem m_behind (l : Launch) (dC : Nat → ClassId) (dI : Nat → Nat → Nat) (sz : Nat) (h : Nat) (qa : Nat → Nat) (x0 x2 x3 x4 x13 x14 x15 x16 x17 x18 x19 x20 x21 x22 x23 x24 x26 x27 x28 : Int32) (pv : Int32) (hp : 0 ≤ pv.toInt) (h_x13 : plc x13) (h_x14 : rst x14) : Met l yX11_behind (wsG (.code yX11_behind cX11_behind 2 (some .int))) ({ frames := 0, cells := 0, slots := 0, locals := 0 }) (va_Pc [.ref h, .int pv] (gP (dC, dI) [] [(h, .inr (10, mdF qa x0 x2 x3 x4 x13 x14 x15 x16 x17 x18 x19 x20 x21 x22 x23 x24 x26 x27 x28))] sz)) (va_Qi (fun (r : Int32) (u : va_W × gT) => u = ([(h, .inr (10, mdF qa x0 x2 x3 x4 x13 x14 x15 x16 x17 x18 x19 x20 x21 x22 x23 x24 x26 x27 x28))], []) ∧ rg1 0 127 r) (gB (dC, dI) (va_A [(h, .inr (10, mdF qa x0 x2 x3 x4 x13 x14 x15 x16 x17 x18 x19 x20 x21 x22 x23 x24 x26 x27 x28))] sz)) (va_A [(h, .inr (10, mdF qa x0 x2 x3 x4 x13 x14 x15 x16 x17 x18 x19 x20 x21 x22 x23 x24 x26 x27 x28))] sz)) 0 0 (va_A [(h, .inr (10, mdF qa x0 x2 x3 x4 x13 x14 x15 x16 x17 x18 x19 x20 x21 x22 x23 x24 x26 x27 x28))] sz) := by
  refine Met.ofW (cc := cX11_behind) (maxL := 2) (ret := (some .int)) (by decide) rfl ?_
  intro p e s m args below meth c s₁ B hml hv
  obtain ⟨rfl, hsz, hP, hK, hD0, hN, hZ⟩ := hv
  have hx := B.exec
  have hb := B.bytes
  have hr := B.returns
  have hts := atoms_spec (ws := (wsG (.code yX11_behind cX11_behind 2 (some .int)))) B.pre
  have hown : s.vm.findClass RX11 = some m.cls := findClass_of_methodNamed B.named
  have hlocks := B.notSynchronized
  subst hsz
  have hD := hD0.self (sz := s.heap.size)
  generalize hAe : va_A [(h, .inr (10, mdF qa x0 x2 x3 x4 x13 x14 x15 x16 x17 x18 x19 x20 x21 x22 x23 x24 x26 x27 x28))] s.heap.size = A at hD hZ ⊢
  have hA : ∀ q : Nat, s.heap.size ≤ q → A q := fun q h => by rw [← hAe]; exact Or.inr h
  have hl := lv_entry ([.ref h, .int pv]) (n := 2) (Nat.le_of_ble_eq_true rfl)
  rw [lg_entry_eq]
  generalize (lg_sl ([.ref h, .int pv]) ++ List.replicate (2 - (lg_sl ([.ref h, .int pv])).length) Slot.unset).toArray = ls at hl ⊢
  have hl : lv_has ls 2 [(0, .ref h), (1, .int pv)] := hl
  refine g_start (A := A) hP (fun H locs hP hS => ?_)
  refine lv_iload_n hx hb dX11_behind_0 rfl (lv_at hl 1 rfl) ?_
  refine lv_aload_n hx hb dX11_behind_1 rfl (lv_at hl 0 rfl) ?_
  refine va_get (D := (dC, dI)) (ci := 10) (v := .int x13) (C := RX11) (T := TX11) (N := 53) hx hb hts iwX11 hown hK hP 0 rfl rfl 13 (by decide) (hts (.fieldLink RX11 43 "ModulePlayerModel" "places" "I") (List.mem_cons_of_mem _ kw_182)) (fun _ h9 => h9) rfl dX11_behind_2 ?_
  refine lv_icmp_ge (tgt := 10) hx hb dX11_behind_5 (by decide) (fun c_5 => ?_) (fun c_5 => ?_)
  · refine lv_aload_n hx hb dX11_behind_10 rfl (lv_at hl 0 rfl) ?_
    refine va_get (D := (dC, dI)) (ci := 10) (v := .int x14) (C := RX11) (T := TX11) (N := 53) hx hb hts iwX11 hown hK hP 0 rfl rfl 14 (by decide) (hts (.fieldLink RX11 172 "ModulePlayerModel" "restart" "I") (List.mem_cons_of_mem _ kw_425)) (fun _ h9 => h9) rfl dX11_behind_11 ?_
    refine lv_aload_n hx hb dX11_behind_14 rfl (lv_at hl 0 rfl) ?_
    refine va_get (D := (dC, dI)) (ci := 10) (v := .int x13) (C := RX11) (T := TX11) (N := 53) hx hb hts iwX11 hown hK hP 0 rfl rfl 13 (by decide) (hts (.fieldLink RX11 43 "ModulePlayerModel" "places" "I") (List.mem_cons_of_mem _ kw_182)) (fun _ h9 => h9) rfl dX11_behind_15 ?_
    refine lv_icmp_ge (tgt := 28) hx hb dX11_behind_18 (by decide) (fun c_18 => ?_) (fun c_18 => ?_)
    · refine lv_iconst (v := 0) hx hb dX11_behind_28 (by decide) ?_
      have hP9 := hP
      have hD9 := hD
      have hK9 := hK.sub (tys' := []) [] rfl
      exact W.iret (v := 0) hx hb hr (fun t ht hW => ⟨⟨0, _, rfl, ⟨rfl, (by unfold rg1; decide)⟩, by rw [ht]; exact hP9, va_K.moved hW.alike hK9, hD9⟩, hS.F ht⟩) hS.2.2 dX11_behind_29
    refine lv_aload_n hx hb dX11_behind_21 rfl (lv_at hl 0 rfl) ?_
    refine va_get (D := (dC, dI)) (ci := 10) (v := .int x14) (C := RX11) (T := TX11) (N := 53) hx hb hts iwX11 hown hK hP 0 rfl rfl 14 (by decide) (hts (.fieldLink RX11 172 "ModulePlayerModel" "restart" "I") (List.mem_cons_of_mem _ kw_425)) (fun _ h9 => h9) rfl dX11_behind_22 ?_
    refine lv_goto (tgt := 29) hx hb dX11_behind_25 (by decide) ?_
    have hP9 := hP
    have hD9 := hD
    have hK9 := hK.sub (tys' := []) [] rfl
    exact W.iret (v := x14) hx hb hr (fun t ht hW => ⟨⟨x14, _, rfl, ⟨rfl, (lt_127 h_x14.1 h_x13 (i_nle.mp c_18))⟩, by rw [ht]; exact hP9, va_K.moved hW.alike hK9, hD9⟩, hS.F ht⟩) hS.2.2 dX11_behind_29
  refine lv_iload_n hx hb dX11_behind_8 rfl (lv_at hl 1 rfl) ?_
  have hP9 := hP
  have hD9 := hD
  have hK9 := hK.sub (tys' := []) [] rfl
  exact W.iret (v := pv) hx hb hr (fun t ht hW => ⟨⟨pv, _, rfl, ⟨rfl, (lt_127 hp h_x13 (i_nle.mp c_5))⟩, by rw [ht]; exact hP9, va_K.moved hW.alike hK9, hD9⟩, hS.F ht⟩) hS.2.2 dX11_behind_9

set_option maxHeartbeats 400000 in
set_option maxRecDepth 100000 in
theorem m_goOn (l : Launch) (dC : Nat → ClassId) (dI : Nat → Nat → Nat) (sz : Nat) (h : Nat) (qa : Nat → Nat) (x0 x2 x3 x4 x13 x14 x15 x16 x17 x18 x19 x20 x21 x22 x23 x24 x26 x27 x28 : Int32) (h_x13 : plc x13) (h_x14 : rst x14) (h_x17 : rg1 0 127 x17) (h_x18 : rg1 0 63 x18) (h_x26 : jmp x26) (h_x27 : stp x27) (h_x28 : stp x28) : Met l yX11_goOn (wsG (.code yX11_goOn cX11_goOn 1 none)) ({ frames := 1, cells := 0, slots := 0, locals := 21 }) (va_Pc [.ref h] (gP (dC, dI) [] [(h, .inr (10, mdF qa x0 x2 x3 x4 x13 x14 x15 x16 x17 x18 x19 x20 x21 x22 x23 x24 x26 x27 x28))] sz)) (va_Qv (fun u : va_W × gT => ∃ (y17 : Int32) (y18 : Int32), u = ([(h, .inr (10, mdF qa x0 x2 x3 x4 x13 x14 x15 x16 y17 y18 x19 x20 x21 x22 x23 x24 x26 x27 x28))], []) ∧ rg1 0 127 y17 ∧ rg1 0 63 y18) (gB (dC, dI) (va_A [(h, .inr (10, mdF qa x0 x2 x3 x4 x13 x14 x15 x16 x17 x18 x19 x20 x21 x22 x23 x24 x26 x27 x28))] sz)) (va_A [(h, .inr (10, mdF qa x0 x2 x3 x4 x13 x14 x15 x16 x17 x18 x19 x20 x21 x22 x23 x24 x26 x27 x28))] sz)) 0 0 (va_A [(h, .inr (10, mdF qa x0 x2 x3 x4 x13 x14 x15 x16 x17 x18 x19 x20 x21 x22 x23 x24 x26 x27 x28))] sz) := by
  refine Met.ofW (cc := cX11_goOn) (maxL := 1) (ret := none) (by decide) rfl ?_
  intro p e s m args below meth c s₁ B hml hv
  obtain ⟨rfl, hsz, hP, hK, hD0, hN, hZ⟩ := hv
  have hx := B.exec
  have hb := B.bytes
  have hr := B.returns
  have hts := atoms_spec (ws := (wsG (.code yX11_goOn cX11_goOn 1 none))) B.pre
  have hown : s.vm.findClass RX11 = some m.cls := findClass_of_methodNamed B.named
  have hlocks := B.notSynchronized
  subst hsz
  have hD := hD0.self (sz := s.heap.size)
  generalize hAe : va_A [(h, .inr (10, mdF qa x0 x2 x3 x4 x13 x14 x15 x16 x17 x18 x19 x20 x21 x22 x23 x24 x26 x27 x28))] s.heap.size = A at hD hZ ⊢
  have hA : ∀ q : Nat, s.heap.size ≤ q → A q := fun q h => by rw [← hAe]; exact Or.inr h
  have hl := lv_entry ([.ref h]) (n := 1) (Nat.le_of_ble_eq_true rfl)
  rw [lg_entry_eq]
  generalize (lg_sl ([.ref h]) ++ List.replicate (1 - (lg_sl ([.ref h])).length) Slot.unset).toArray = ls at hl ⊢
  have hl : lv_has ls 1 [(0, .ref h)] := hl
  refine g_start (A := A) hP (fun H locs hP hS => ?_)
  refine lv_aload_n hx hb dX11_goOn_0 rfl (lv_at hl 0 rfl) ?_
  refine va_get (D := (dC, dI)) (ci := 10) (v := .int x28) (C := RX11) (T := TX11) (N := 53) hx hb hts iwX11 hown hK hP 0 rfl rfl 28 (by decide) (hts (.fieldLink RX11 242 "ModulePlayerModel" "loopTo" "I") (List.mem_cons_of_mem _ kw_843)) (fun _ h9 => h9) rfl dX11_goOn_1 ?_
  refine lv_iconst (v := (-1)) hx hb dX11_goOn_4 (by decide) ?_
  refine lv_icmp_eq (tgt := 19) hx hb dX11_goOn_5 (by decide) (fun c_5 => ?_) (fun c_5 => ?_)
  · refine lv_aload_n hx hb dX11_goOn_19 rfl (lv_at hl 0 rfl) ?_
    refine va_get (D := (dC, dI)) (ci := 10) (v := .int x26) (C := RX11) (T := TX11) (N := 53) hx hb hts iwX11 hown hK hP 0 rfl rfl 26 (by decide) (hts (.fieldLink RX11 245 "ModulePlayerModel" "jump" "I") (List.mem_cons_of_mem _ kw_841)) (fun _ h9 => h9) rfl dX11_goOn_20 ?_
    refine lv_iconst (v := (-1)) hx hb dX11_goOn_23 (by decide) ?_
    refine lv_icmp_ne (tgt := 35) hx hb dX11_goOn_24 (by decide) (fun c_24 => ?_) (fun c_24 => ?_)
    · refine lv_aload_n hx hb dX11_goOn_35 rfl (lv_at hl 0 rfl) ?_
      refine lv_aload_n hx hb dX11_goOn_36 rfl (lv_at hl 0 rfl) ?_
      refine va_get (D := (dC, dI)) (ci := 10) (v := .int x26) (C := RX11) (T := TX11) (N := 53) hx hb hts iwX11 hown hK hP 0 rfl rfl 26 (by decide) (hts (.fieldLink RX11 245 "ModulePlayerModel" "jump" "I") (List.mem_cons_of_mem _ kw_841)) (fun _ h9 => h9) rfl dX11_goOn_37 ?_
      refine lv_iconst (v := (-1)) hx hb dX11_goOn_40 (by decide) ?_
      refine lv_icmp_ne (tgt := 57) hx hb dX11_goOn_41 (by decide) (fun c_41 => ?_) (fun c_41 => ?_)
      · refine lv_aload_n hx hb dX11_goOn_57 rfl (lv_at hl 0 rfl) ?_
        refine va_get (D := (dC, dI)) (ci := 10) (v := .int x26) (C := RX11) (T := TX11) (N := 53) hx hb hts iwX11 hown hK hP 0 rfl rfl 26 (by decide) (hts (.fieldLink RX11 245 "ModulePlayerModel" "jump" "I") (List.mem_cons_of_mem _ kw_841)) (fun _ h9 => h9) rfl dX11_goOn_58 ?_
        refine lv_aload_n hx hb dX11_goOn_61 rfl (lv_at hl 0 rfl) ?_
        refine va_get (D := (dC, dI)) (ci := 10) (v := .int x13) (C := RX11) (T := TX11) (N := 53) hx hb hts iwX11 hown hK hP 0 rfl rfl 13 (by decide) (hts (.fieldLink RX11 43 "ModulePlayerModel" "places" "I") (List.mem_cons_of_mem _ kw_182)) (fun _ h9 => h9) rfl dX11_goOn_62 ?_
        refine lv_icmp_lt (tgt := 72) hx hb dX11_goOn_65 (by decide) (fun c_65 => ?_) (fun c_65 => ?_)
        · refine lv_aload_n hx hb dX11_goOn_72 rfl (lv_at hl 0 rfl) ?_
          refine va_get (D := (dC, dI)) (ci := 10) (v := .int x26) (C := RX11) (T := TX11) (N := 53) hx hb hts iwX11 hown hK hP 0 rfl rfl 26 (by decide) (hts (.fieldLink RX11 245 "ModulePlayerModel" "jump" "I") (List.mem_cons_of_mem _ kw_841)) (fun _ h9 => h9) rfl dX11_goOn_73 ?_
          obtain ⟨w76_, ew76_⟩ : ∃ xx : Int32, xx = x26 := ⟨_, rfl⟩
          have h_w76_ : rg1 0 127 w76_ := by rw [ew76_]; exact jmp_n h_x26 c_41 h_x13 c_65
          refine g_topi (y := w76_) ew76_.symm ?_
          refine va_put (D := (dC, dI)) (ci := 10) (v := .int w76_) (ty := tyX11 17) (C := RX11) (T := TX11) (N := 53) hx hb hts iwX11 tyX11 tyX11_ok nmX11 hown hK hP hD hS 0 rfl rfl 17 (by decide) (hts (.fieldLink RX11 203 "ModulePlayerModel" "place" "I") (List.mem_cons_of_mem _ kw_220)) (fun _ h9 => h9) rfl (by decide +kernel) (rfl) (rfl) (Nat.le_of_ble_eq_true rfl) dX11_goOn_76 (fun H locs hP hD hS => ?_)
          have hP : va_P (dC, dI) vwCl [(h, .inr (10, mdF qa x0 x2 x3 x4 x13 x14 x15 x16 w76_ x18 x19 x20 x21 x22 x23 x24 x26 x27 x28))] H := hP
          have hD : va_D A [(h, .inr (10, mdF qa x0 x2 x3 x4 x13 x14 x15 x16 w76_ x18 x19 x20 x21 x22 x23 x24 x26 x27 x28))] := hD
          refine lv_aload_n hx hb dX11_goOn_79 rfl (lv_at hl 0 rfl) ?_
          refine lv_aload_n hx hb dX11_goOn_80 rfl (lv_at hl 0 rfl) ?_
          refine va_get (D := (dC, dI)) (ci := 10) (v := .int x27) (C := RX11) (T := TX11) (N := 53) hx hb hts iwX11 hown hK hP 0 rfl rfl 27 (by decide) (hts (.fieldLink RX11 248 "ModulePlayerModel" "stop" "I") (List.mem_cons_of_mem _ kw_842)) (fun _ h9 => h9) rfl dX11_goOn_81 ?_
          refine lv_iconst (v := (-1)) hx hb dX11_goOn_84 (by decide) ?_
          refine lv_icmp_ne (tgt := 92) hx hb dX11_goOn_85 (by decide) (fun c_85 => ?_) (fun c_85 => ?_)
          · refine lv_aload_n hx hb dX11_goOn_92 rfl (lv_at hl 0 rfl) ?_
            refine va_get (D := (dC, dI)) (ci := 10) (v := .int x27) (C := RX11) (T := TX11) (N := 53) hx hb hts iwX11 hown hK hP 0 rfl rfl 27 (by decide) (hts (.fieldLink RX11 248 "ModulePlayerModel" "stop" "I") (List.mem_cons_of_mem _ kw_842)) (fun _ h9 => h9) rfl dX11_goOn_93 ?_
            obtain ⟨w96_, ew96_⟩ : ∃ xx : Int32, xx = x27 := ⟨_, rfl⟩
            have h_w96_ : rg1 0 63 w96_ := by rw [ew96_]; exact stp_n h_x27 c_85
            refine g_topi (y := w96_) ew96_.symm ?_
            refine va_put (D := (dC, dI)) (ci := 10) (v := .int w96_) (ty := tyX11 18) (C := RX11) (T := TX11) (N := 53) hx hb hts iwX11 tyX11 tyX11_ok nmX11 hown hK hP hD hS 0 rfl rfl 18 (by decide) (hts (.fieldLink RX11 206 "ModulePlayerModel" "row" "I") (List.mem_cons_of_mem _ kw_221)) (fun _ h9 => h9) rfl (by decide +kernel) (rfl) (rfl) (Nat.le_of_ble_eq_true rfl) dX11_goOn_96 (fun H locs hP hD hS => ?_)
            have hP : va_P (dC, dI) vwCl [(h, .inr (10, mdF qa x0 x2 x3 x4 x13 x14 x15 x16 w76_ w96_ x19 x20 x21 x22 x23 x24 x26 x27 x28))] H := hP
            have hD : va_D A [(h, .inr (10, mdF qa x0 x2 x3 x4 x13 x14 x15 x16 w76_ w96_ x19 x20 x21 x22 x23 x24 x26 x27 x28))] := hD
            refine lv_goto (tgt := 143) hx hb dX11_goOn_99 (by decide) ?_
            have hP9 := hP
            have hD9 := hD
            have hK9 := hK.sub (tys' := []) [] rfl
            exact W.vret hx hb hr (fun t ht hW => ⟨⟨_, rfl, ⟨w76_, w96_, rfl, h_w76_, h_w96_⟩, by rw [ht]; exact hP9, va_K.moved hW.alike hK9, hD9⟩, hS.F ht⟩) hS.2.2 dX11_goOn_143
          refine lv_iconst (v := 0) hx hb dX11_goOn_88 (by decide) ?_
          refine lv_goto (tgt := 96) hx hb dX11_goOn_89 (by decide) ?_
          refine va_put (D := (dC, dI)) (ci := 10) (v := .int 0) (ty := tyX11 18) (C := RX11) (T := TX11) (N := 53) hx hb hts iwX11 tyX11 tyX11_ok nmX11 hown hK hP hD hS 0 rfl rfl 18 (by decide) (hts (.fieldLink RX11 206 "ModulePlayerModel" "row" "I") (List.mem_cons_of_mem _ kw_221)) (fun _ h9 => h9) rfl (by decide +kernel) (rfl) (rfl) (Nat.le_of_ble_eq_true rfl) dX11_goOn_96 (fun H locs hP hD hS => ?_)
          have hP : va_P (dC, dI) vwCl [(h, .inr (10, mdF qa x0 x2 x3 x4 x13 x14 x15 x16 w76_ 0 x19 x20 x21 x22 x23 x24 x26 x27 x28))] H := hP
          have hD : va_D A [(h, .inr (10, mdF qa x0 x2 x3 x4 x13 x14 x15 x16 w76_ 0 x19 x20 x21 x22 x23 x24 x26 x27 x28))] := hD
          refine lv_goto (tgt := 143) hx hb dX11_goOn_99 (by decide) ?_
          have hP9 := hP
          have hD9 := hD
          have hK9 := hK.sub (tys' := []) [] rfl
          exact W.vret hx hb hr (fun t ht hW => ⟨⟨_, rfl, ⟨w76_, 0, rfl, h_w76_, (by unfold rg1; decide)⟩, by rw [ht]; exact hP9, va_K.moved hW.alike hK9, hD9⟩, hS.F ht⟩) hS.2.2 dX11_goOn_143
        refine lv_iconst (v := 0) hx hb dX11_goOn_68 (by decide) ?_
        refine lv_goto (tgt := 76) hx hb dX11_goOn_69 (by decide) ?_
        refine va_put (D := (dC, dI)) (ci := 10) (v := .int 0) (ty := tyX11 17) (C := RX11) (T := TX11) (N := 53) hx hb hts iwX11 tyX11 tyX11_ok nmX11 hown hK hP hD hS 0 rfl rfl 17 (by decide) (hts (.fieldLink RX11 203 "ModulePlayerModel" "place" "I") (List.mem_cons_of_mem _ kw_220)) (fun _ h9 => h9) rfl (by decide +kernel) (rfl) (rfl) (Nat.le_of_ble_eq_true rfl) dX11_goOn_76 (fun H locs hP hD hS => ?_)
        have hP : va_P (dC, dI) vwCl [(h, .inr (10, mdF qa x0 x2 x3 x4 x13 x14 x15 x16 0 x18 x19 x20 x21 x22 x23 x24 x26 x27 x28))] H := hP
        have hD : va_D A [(h, .inr (10, mdF qa x0 x2 x3 x4 x13 x14 x15 x16 0 x18 x19 x20 x21 x22 x23 x24 x26 x27 x28))] := hD
        refine lv_aload_n hx hb dX11_goOn_79 rfl (lv_at hl 0 rfl) ?_
        refine lv_aload_n hx hb dX11_goOn_80 rfl (lv_at hl 0 rfl) ?_
        refine va_get (D := (dC, dI)) (ci := 10) (v := .int x27) (C := RX11) (T := TX11) (N := 53) hx hb hts iwX11 hown hK hP 0 rfl rfl 27 (by decide) (hts (.fieldLink RX11 248 "ModulePlayerModel" "stop" "I") (List.mem_cons_of_mem _ kw_842)) (fun _ h9 => h9) rfl dX11_goOn_81 ?_
        refine lv_iconst (v := (-1)) hx hb dX11_goOn_84 (by decide) ?_
        refine lv_icmp_ne (tgt := 92) hx hb dX11_goOn_85 (by decide) (fun c_85 => ?_) (fun c_85 => ?_)
        · refine lv_aload_n hx hb dX11_goOn_92 rfl (lv_at hl 0 rfl) ?_
          refine va_get (D := (dC, dI)) (ci := 10) (v := .int x27) (C := RX11) (T := TX11) (N := 53) hx hb hts iwX11 hown hK hP 0 rfl rfl 27 (by decide) (hts (.fieldLink RX11 248 "ModulePlayerModel" "stop" "I") (List.mem_cons_of_mem _ kw_842)) (fun _ h9 => h9) rfl dX11_goOn_93 ?_
          obtain ⟨w96_, ew96_⟩ : ∃ xx : Int32, xx = x27 := ⟨_, rfl⟩
          have h_w96_ : rg1 0 63 w96_ := by rw [ew96_]; exact stp_n h_x27 c_85
          refine g_topi (y := w96_) ew96_.symm ?_
          refine va_put (D := (dC, dI)) (ci := 10) (v := .int w96_) (ty := tyX11 18) (C := RX11) (T := TX11) (N := 53) hx hb hts iwX11 tyX11 tyX11_ok nmX11 hown hK hP hD hS 0 rfl rfl 18 (by decide) (hts (.fieldLink RX11 206 "ModulePlayerModel" "row" "I") (List.mem_cons_of_mem _ kw_221)) (fun _ h9 => h9) rfl (by decide +kernel) (rfl) (rfl) (Nat.le_of_ble_eq_true rfl) dX11_goOn_96 (fun H locs hP hD hS => ?_)
          have hP : va_P (dC, dI) vwCl [(h, .inr (10, mdF qa x0 x2 x3 x4 x13 x14 x15 x16 0 w96_ x19 x20 x21 x22 x23 x24 x26 x27 x28))] H := hP
          have hD : va_D A [(h, .inr (10, mdF qa x0 x2 x3 x4 x13 x14 x15 x16 0 w96_ x19 x20 x21 x22 x23 x24 x26 x27 x28))] := hD
          refine lv_goto (tgt := 143) hx hb dX11_goOn_99 (by decide) ?_
          have hP9 := hP
          have hD9 := hD
          have hK9 := hK.sub (tys' := []) [] rfl
          exact W.vret hx hb hr (fun t ht hW => ⟨⟨_, rfl, ⟨0, w96_, rfl, (by unfold rg1; decide), h_w96_⟩, by rw [ht]; exact hP9, va_K.moved hW.alike hK9, hD9⟩, hS.F ht⟩) hS.2.2 dX11_goOn_143
        refine lv_iconst (v := 0) hx hb dX11_goOn_88 (by decide) ?_
        refine lv_goto (tgt := 96) hx hb dX11_goOn_89 (by decide) ?_
        refine va_put (D := (dC, dI)) (ci := 10) (v := .int 0) (ty := tyX11 18) (C := RX11) (T := TX11) (N := 53) hx hb hts iwX11 tyX11 tyX11_ok nmX11 hown hK hP hD hS 0 rfl rfl 18 (by decide) (hts (.fieldLink RX11 206 "ModulePlayerModel" "row" "I") (List.mem_cons_of_mem _ kw_221)) (fun _ h9 => h9) rfl (by decide +kernel) (rfl) (rfl) (Nat.le_of_ble_eq_true rfl) dX11_goOn_96 (fun H locs hP hD hS => ?_)
        have hP : va_P (dC, dI) vwCl [(h, .inr (10, mdF qa x0 x2 x3 x4 x13 x14 x15 x16 0 0 x19 x20 x21 x22 x23 x24 x26 x27 x28))] H := hP
        have hD : va_D A [(h, .inr (10, mdF qa x0 x2 x3 x4 x13 x14 x15 x16 0 0 x19 x20 x21 x22 x23 x24 x26 x27 x28))] := hD
        refine lv_goto (tgt := 143) hx hb dX11_goOn_99 (by decide) ?_
        have hP9 := hP
        have hD9 := hD
        have hK9 := hK.sub (tys' := []) [] rfl
        exact W.vret hx hb hr (fun t ht hW => ⟨⟨_, rfl, ⟨0, 0, rfl, (by unfold rg1; decide), (by unfold rg1; decide)⟩, by rw [ht]; exact hP9, va_K.moved hW.alike hK9, hD9⟩, hS.F ht⟩) hS.2.2 dX11_goOn_143
      refine lv_aload_n hx hb dX11_goOn_44 rfl (lv_at hl 0 rfl) ?_
      refine lv_aload_n hx hb dX11_goOn_45 rfl (lv_at hl 0 rfl) ?_
      refine va_get (D := (dC, dI)) (ci := 10) (v := .int x17) (C := RX11) (T := TX11) (N := 53) hx hb hts iwX11 hown hK hP 0 rfl rfl 17 (by decide) (hts (.fieldLink RX11 203 "ModulePlayerModel" "place" "I") (List.mem_cons_of_mem _ kw_220)) (fun _ h9 => h9) rfl dX11_goOn_46 ?_
      refine lv_iconst (v := 1) hx hb dX11_goOn_49 (by decide) ?_
      refine lv_iadd hx hb dX11_goOn_50 ?_
      refine g_calli (wr := []) (va_runV (As := [.int (x17 + 1)]) (rest := [.ref h]) ⟨hx, hb, hml, hown, hts⟩ (m_behind l dC dI H.size h qa x0 x2 x3 x4 x13 x14 x15 x16 x17 x18 x19 x20 x21 x22 x23 x24 x26 x27 x28 (x17 + 1) (rg1_s h_x17) (h_x13) (h_x14)) (cwV 1 hts (gG_V kw_848 kw_849 kw_850 kw_5 kw_851) rfl rfl rfl (by decide +kernel) ⟨Nat.le_of_ble_eq_true rfl, Nat.le_of_ble_eq_true rfl⟩) (g_preV (C := RX11) (T := TX11) (N := 53) hP hD hK hS hA hN hZ (q0 := 0) rfl rfl [0] (by decide +kernel) rfl [] rfl) rfl rfl hl.1 rfl (lv_room (Nat.le_of_ble_eq_true rfl)) dX11_goOn_51 ⟨Nat.le_of_ble_eq_true rfl, Nat.le_of_ble_eq_true rfl⟩) hP hD hK hS hA [0] [] rfl rfl (by decide +kernel) (by decide +kernel) (fun r_51 w ty1 H locs hw_51 hP hD _ hS => ?_)
      rcases hw_51 with ⟨hu, hb__51⟩
      cases hu
      have hP : va_P (dC, dI) vwCl [(h, .inr (10, mdF qa x0 x2 x3 x4 x13 x14 x15 x16 x17 x18 x19 x20 x21 x22 x23 x24 x26 x27 x28))] H := hP
      have hD : va_D A [(h, .inr (10, mdF qa x0 x2 x3 x4 x13 x14 x15 x16 x17 x18 x19 x20 x21 x22 x23 x24 x26 x27 x28))] := hD
      refine lv_goto (tgt := 76) hx hb dX11_goOn_54 (by decide) ?_
      obtain ⟨w76_, ew76_⟩ : ∃ xx : Int32, xx = r_51 := ⟨_, rfl⟩
      have h_w76_ : rg1 0 127 w76_ := by rw [ew76_]; exact hb__51
      refine g_topi (y := w76_) ew76_.symm ?_
      refine va_put (D := (dC, dI)) (ci := 10) (v := .int w76_) (ty := tyX11 17) (C := RX11) (T := TX11) (N := 53) hx hb hts iwX11 tyX11 tyX11_ok nmX11 hown hK hP hD hS 0 rfl rfl 17 (by decide) (hts (.fieldLink RX11 203 "ModulePlayerModel" "place" "I") (List.mem_cons_of_mem _ kw_220)) (fun _ h9 => h9) rfl (by decide +kernel) (rfl) (rfl) (Nat.le_of_ble_eq_true rfl) dX11_goOn_76 (fun H locs hP hD hS => ?_)
      have hP : va_P (dC, dI) vwCl [(h, .inr (10, mdF qa x0 x2 x3 x4 x13 x14 x15 x16 w76_ x18 x19 x20 x21 x22 x23 x24 x26 x27 x28))] H := hP
      have hD : va_D A [(h, .inr (10, mdF qa x0 x2 x3 x4 x13 x14 x15 x16 w76_ x18 x19 x20 x21 x22 x23 x24 x26 x27 x28))] := hD
      refine lv_aload_n hx hb dX11_goOn_79 rfl (lv_at hl 0 rfl) ?_
      refine lv_aload_n hx hb dX11_goOn_80 rfl (lv_at hl 0 rfl) ?_
      refine va_get (D := (dC, dI)) (ci := 10) (v := .int x27) (C := RX11) (T := TX11) (N := 53) hx hb hts iwX11 hown hK hP 0 rfl rfl 27 (by decide) (hts (.fieldLink RX11 248 "ModulePlayerModel" "stop" "I") (List.mem_cons_of_mem _ kw_842)) (fun _ h9 => h9) rfl dX11_goOn_81 ?_
      refine lv_iconst (v := (-1)) hx hb dX11_goOn_84 (by decide) ?_
      refine lv_icmp_ne (tgt := 92) hx hb dX11_goOn_85 (by decide) (fun c_85 => ?_) (fun c_85 => ?_)
      · refine lv_aload_n hx hb dX11_goOn_92 rfl (lv_at hl 0 rfl) ?_
        refine va_get (D := (dC, dI)) (ci := 10) (v := .int x27) (C := RX11) (T := TX11) (N := 53) hx hb hts iwX11 hown hK hP 0 rfl rfl 27 (by decide) (hts (.fieldLink RX11 248 "ModulePlayerModel" "stop" "I") (List.mem_cons_of_mem _ kw_842)) (fun _ h9 => h9) rfl dX11_goOn_93 ?_
        obtain ⟨w96_, ew96_⟩ : ∃ xx : Int32, xx = x27 := ⟨_, rfl⟩
        have h_w96_ : rg1 0 63 w96_ := by rw [ew96_]; exact stp_n h_x27 c_85
        refine g_topi (y := w96_) ew96_.symm ?_
        refine va_put (D := (dC, dI)) (ci := 10) (v := .int w96_) (ty := tyX11 18) (C := RX11) (T := TX11) (N := 53) hx hb hts iwX11 tyX11 tyX11_ok nmX11 hown hK hP hD hS 0 rfl rfl 18 (by decide) (hts (.fieldLink RX11 206 "ModulePlayerModel" "row" "I") (List.mem_cons_of_mem _ kw_221)) (fun _ h9 => h9) rfl (by decide +kernel) (rfl) (rfl) (Nat.le_of_ble_eq_true rfl) dX11_goOn_96 (fun H locs hP hD hS => ?_)
        have hP : va_P (dC, dI) vwCl [(h, .inr (10, mdF qa x0 x2 x3 x4 x13 x14 x15 x16 w76_ w96_ x19 x20 x21 x22 x23 x24 x26 x27 x28))] H := hP
        have hD : va_D A [(h, .inr (10, mdF qa x0 x2 x3 x4 x13 x14 x15 x16 w76_ w96_ x19 x20 x21 x22 x23 x24 x26 x27 x28))] := hD
        refine lv_goto (tgt := 143) hx hb dX11_goOn_99 (by decide) ?_
        have hP9 := hP
        have hD9 := hD
        have hK9 := hK.sub (tys' := []) [] rfl
        exact W.vret hx hb hr (fun t ht hW => ⟨⟨_, rfl, ⟨w76_, w96_, rfl, h_w76_, h_w96_⟩, by rw [ht]; exact hP9, va_K.moved hW.alike hK9, hD9⟩, hS.F ht⟩) hS.2.2 dX11_goOn_143
      refine lv_iconst (v := 0) hx hb dX11_goOn_88 (by decide) ?_
      refine lv_goto (tgt := 96) hx hb dX11_goOn_89 (by decide) ?_
      refine va_put (D := (dC, dI)) (ci := 10) (v := .int 0) (ty := tyX11 18) (C := RX11) (T := TX11) (N := 53) hx hb hts iwX11 tyX11 tyX11_ok nmX11 hown hK hP hD hS 0 rfl rfl 18 (by decide) (hts (.fieldLink RX11 206 "ModulePlayerModel" "row" "I") (List.mem_cons_of_mem _ kw_221)) (fun _ h9 => h9) rfl (by decide +kernel) (rfl) (rfl) (Nat.le_of_ble_eq_true rfl) dX11_goOn_96 (fun H locs hP hD hS => ?_)
      have hP : va_P (dC, dI) vwCl [(h, .inr (10, mdF qa x0 x2 x3 x4 x13 x14 x15 x16 w76_ 0 x19 x20 x21 x22 x23 x24 x26 x27 x28))] H := hP
      have hD : va_D A [(h, .inr (10, mdF qa x0 x2 x3 x4 x13 x14 x15 x16 w76_ 0 x19 x20 x21 x22 x23 x24 x26 x27 x28))] := hD
      refine lv_goto (tgt := 143) hx hb dX11_goOn_99 (by decide) ?_
      have hP9 := hP
      have hD9 := hD
      have hK9 := hK.sub (tys' := []) [] rfl
      exact W.vret hx hb hr (fun t ht hW => ⟨⟨_, rfl, ⟨w76_, 0, rfl, h_w76_, (by unfold rg1; decide)⟩, by rw [ht]; exact hP9, va_K.moved hW.alike hK9, hD9⟩, hS.F ht⟩) hS.2.2 dX11_goOn_143
    refine lv_aload_n hx hb dX11_goOn_27 rfl (lv_at hl 0 rfl) ?_
    refine va_get (D := (dC, dI)) (ci := 10) (v := .int x27) (C := RX11) (T := TX11) (N := 53) hx hb hts iwX11 hown hK hP 0 rfl rfl 27 (by decide) (hts (.fieldLink RX11 248 "ModulePlayerModel" "stop" "I") (List.mem_cons_of_mem _ kw_842)) (fun _ h9 => h9) rfl dX11_goOn_28 ?_
    refine lv_iconst (v := (-1)) hx hb dX11_goOn_31 (by decide) ?_
    refine lv_icmp_eq (tgt := 102) hx hb dX11_goOn_32 (by decide) (fun c_32 => ?_) (fun c_32 => ?_)
    · refine lv_aload_n hx hb dX11_goOn_102 rfl (lv_at hl 0 rfl) ?_
      refine va_get (D := (dC, dI)) (ci := 10) (v := .int x18) (C := RX11) (T := TX11) (N := 53) hx hb hts iwX11 hown hK hP 0 rfl rfl 18 (by decide) (hts (.fieldLink RX11 206 "ModulePlayerModel" "row" "I") (List.mem_cons_of_mem _ kw_221)) (fun _ h9 => h9) rfl dX11_goOn_103 ?_
      refine lv_bipush (v := 63) hx hb dX11_goOn_106 (by decide) ?_
      refine lv_icmp_ge (tgt := 124) hx hb dX11_goOn_108 (by decide) (fun c_108 => ?_) (fun c_108 => ?_)
      · refine lv_aload_n hx hb dX11_goOn_124 rfl (lv_at hl 0 rfl) ?_
        refine lv_aload_n hx hb dX11_goOn_125 rfl (lv_at hl 0 rfl) ?_
        refine lv_aload_n hx hb dX11_goOn_126 rfl (lv_at hl 0 rfl) ?_
        refine va_get (D := (dC, dI)) (ci := 10) (v := .int x17) (C := RX11) (T := TX11) (N := 53) hx hb hts iwX11 hown hK hP 0 rfl rfl 17 (by decide) (hts (.fieldLink RX11 203 "ModulePlayerModel" "place" "I") (List.mem_cons_of_mem _ kw_220)) (fun _ h9 => h9) rfl dX11_goOn_127 ?_
        refine lv_iconst (v := 1) hx hb dX11_goOn_130 (by decide) ?_
        refine lv_iadd hx hb dX11_goOn_131 ?_
        refine g_calli (wr := []) (va_runV (As := [.int (x17 + 1)]) (rest := [.ref h]) ⟨hx, hb, hml, hown, hts⟩ (m_behind l dC dI H.size h qa x0 x2 x3 x4 x13 x14 x15 x16 x17 x18 x19 x20 x21 x22 x23 x24 x26 x27 x28 (x17 + 1) (rg1_s h_x17) (h_x13) (h_x14)) (cwV 1 hts (gG_V kw_848 kw_849 kw_850 kw_5 kw_851) rfl rfl rfl (by decide +kernel) ⟨Nat.le_of_ble_eq_true rfl, Nat.le_of_ble_eq_true rfl⟩) (g_preV (C := RX11) (T := TX11) (N := 53) hP hD hK hS hA hN hZ (q0 := 0) rfl rfl [0] (by decide +kernel) rfl [] rfl) rfl rfl hl.1 rfl (lv_room (Nat.le_of_ble_eq_true rfl)) dX11_goOn_132 ⟨Nat.le_of_ble_eq_true rfl, Nat.le_of_ble_eq_true rfl⟩) hP hD hK hS hA [0] [] rfl rfl (by decide +kernel) (by decide +kernel) (fun r_132 w ty1 H locs hw_132 hP hD _ hS => ?_)
        rcases hw_132 with ⟨hu, hb__132⟩
        cases hu
        have hP : va_P (dC, dI) vwCl [(h, .inr (10, mdF qa x0 x2 x3 x4 x13 x14 x15 x16 x17 x18 x19 x20 x21 x22 x23 x24 x26 x27 x28))] H := hP
        have hD : va_D A [(h, .inr (10, mdF qa x0 x2 x3 x4 x13 x14 x15 x16 x17 x18 x19 x20 x21 x22 x23 x24 x26 x27 x28))] := hD
        obtain ⟨w135_, ew135_⟩ : ∃ xx : Int32, xx = r_132 := ⟨_, rfl⟩
        have h_w135_ : rg1 0 127 w135_ := by rw [ew135_]; exact hb__132
        refine g_topi (y := w135_) ew135_.symm ?_
        refine va_put (D := (dC, dI)) (ci := 10) (v := .int w135_) (ty := tyX11 17) (C := RX11) (T := TX11) (N := 53) hx hb hts iwX11 tyX11 tyX11_ok nmX11 hown hK hP hD hS 0 rfl rfl 17 (by decide) (hts (.fieldLink RX11 203 "ModulePlayerModel" "place" "I") (List.mem_cons_of_mem _ kw_220)) (fun _ h9 => h9) rfl (by decide +kernel) (rfl) (rfl) (Nat.le_of_ble_eq_true rfl) dX11_goOn_135 (fun H locs hP hD hS => ?_)
        have hP : va_P (dC, dI) vwCl [(h, .inr (10, mdF qa x0 x2 x3 x4 x13 x14 x15 x16 w135_ x18 x19 x20 x21 x22 x23 x24 x26 x27 x28))] H := hP
        have hD : va_D A [(h, .inr (10, mdF qa x0 x2 x3 x4 x13 x14 x15 x16 w135_ x18 x19 x20 x21 x22 x23 x24 x26 x27 x28))] := hD
        refine lv_aload_n hx hb dX11_goOn_138 rfl (lv_at hl 0 rfl) ?_
        refine lv_iconst (v := 0) hx hb dX11_goOn_139 (by decide) ?_
        refine va_put (D := (dC, dI)) (ci := 10) (v := .int 0) (ty := tyX11 18) (C := RX11) (T := TX11) (N := 53) hx hb hts iwX11 tyX11 tyX11_ok nmX11 hown hK hP hD hS 0 rfl rfl 18 (by decide) (hts (.fieldLink RX11 206 "ModulePlayerModel" "row" "I") (List.mem_cons_of_mem _ kw_221)) (fun _ h9 => h9) rfl (by decide +kernel) (rfl) (rfl) (Nat.le_of_ble_eq_true rfl) dX11_goOn_140 (fun H locs hP hD hS => ?_)
        have hP : va_P (dC, dI) vwCl [(h, .inr (10, mdF qa x0 x2 x3 x4 x13 x14 x15 x16 w135_ 0 x19 x20 x21 x22 x23 x24 x26 x27 x28))] H := hP
        have hD : va_D A [(h, .inr (10, mdF qa x0 x2 x3 x4 x13 x14 x15 x16 w135_ 0 x19 x20 x21 x22 x23 x24 x26 x27 x28))] := hD
        have hP9 := hP
        have hD9 := hD
        have hK9 := hK.sub (tys' := []) [] rfl
        exact W.vret hx hb hr (fun t ht hW => ⟨⟨_, rfl, ⟨w135_, 0, rfl, h_w135_, (by unfold rg1; decide)⟩, by rw [ht]; exact hP9, va_K.moved hW.alike hK9, hD9⟩, hS.F ht⟩) hS.2.2 dX11_goOn_143
      refine lv_aload_n hx hb dX11_goOn_111 rfl (lv_at hl 0 rfl) ?_
      refine lv_dup hx hb dX11_goOn_112 rfl ?_
      refine va_get (D := (dC, dI)) (ci := 10) (v := .int x18) (C := RX11) (T := TX11) (N := 53) hx hb hts iwX11 hown hK hP 0 rfl rfl 18 (by decide) (hts (.fieldLink RX11 206 "ModulePlayerModel" "row" "I") (List.mem_cons_of_mem _ kw_221)) (fun _ h9 => h9) rfl dX11_goOn_113 ?_
      refine lv_iconst (v := 1) hx hb dX11_goOn_116 (by decide) ?_
      refine lv_iadd hx hb dX11_goOn_117 ?_
      refine lv_topi (fun tv_117 etv_117 => ?_)
      obtain ⟨w118_, ew118_⟩ : ∃ xx : Int32, xx = tv_117 := ⟨_, rfl⟩
      have h_w118_ : rg1 0 63 w118_ := by rw [ew118_]; exact rg1_r h_x18 (i_nle.mp c_108) etv_117
      refine g_topi (y := w118_) ew118_.symm ?_
      refine va_put (D := (dC, dI)) (ci := 10) (v := .int w118_) (ty := tyX11 18) (C := RX11) (T := TX11) (N := 53) hx hb hts iwX11 tyX11 tyX11_ok nmX11 hown hK hP hD hS 0 rfl rfl 18 (by decide) (hts (.fieldLink RX11 206 "ModulePlayerModel" "row" "I") (List.mem_cons_of_mem _ kw_221)) (fun _ h9 => h9) rfl (by decide +kernel) (rfl) (rfl) (Nat.le_of_ble_eq_true rfl) dX11_goOn_118 (fun H locs hP hD hS => ?_)
      have hP : va_P (dC, dI) vwCl [(h, .inr (10, mdF qa x0 x2 x3 x4 x13 x14 x15 x16 x17 w118_ x19 x20 x21 x22 x23 x24 x26 x27 x28))] H := hP
      have hD : va_D A [(h, .inr (10, mdF qa x0 x2 x3 x4 x13 x14 x15 x16 x17 w118_ x19 x20 x21 x22 x23 x24 x26 x27 x28))] := hD
      refine lv_goto (tgt := 143) hx hb dX11_goOn_121 (by decide) ?_
      have hP9 := hP
      have hD9 := hD
      have hK9 := hK.sub (tys' := []) [] rfl
      exact W.vret hx hb hr (fun t ht hW => ⟨⟨_, rfl, ⟨x17, w118_, rfl, h_x17, h_w118_⟩, by rw [ht]; exact hP9, va_K.moved hW.alike hK9, hD9⟩, hS.F ht⟩) hS.2.2 dX11_goOn_143
    refine lv_aload_n hx hb dX11_goOn_35 rfl (lv_at hl 0 rfl) ?_
    refine lv_aload_n hx hb dX11_goOn_36 rfl (lv_at hl 0 rfl) ?_
    refine va_get (D := (dC, dI)) (ci := 10) (v := .int x26) (C := RX11) (T := TX11) (N := 53) hx hb hts iwX11 hown hK hP 0 rfl rfl 26 (by decide) (hts (.fieldLink RX11 245 "ModulePlayerModel" "jump" "I") (List.mem_cons_of_mem _ kw_841)) (fun _ h9 => h9) rfl dX11_goOn_37 ?_
    refine lv_iconst (v := (-1)) hx hb dX11_goOn_40 (by decide) ?_
    refine lv_icmp_ne (tgt := 57) hx hb dX11_goOn_41 (by decide) (fun c_41 => ?_) (fun c_41 => ?_)
    · refine lv_aload_n hx hb dX11_goOn_57 rfl (lv_at hl 0 rfl) ?_
      refine va_get (D := (dC, dI)) (ci := 10) (v := .int x26) (C := RX11) (T := TX11) (N := 53) hx hb hts iwX11 hown hK hP 0 rfl rfl 26 (by decide) (hts (.fieldLink RX11 245 "ModulePlayerModel" "jump" "I") (List.mem_cons_of_mem _ kw_841)) (fun _ h9 => h9) rfl dX11_goOn_58 ?_
      refine lv_aload_n hx hb dX11_goOn_61 rfl (lv_at hl 0 rfl) ?_
      refine va_get (D := (dC, dI)) (ci := 10) (v := .int x13) (C := RX11) (T := TX11) (N := 53) hx hb hts iwX11 hown hK hP 0 rfl rfl 13 (by decide) (hts (.fieldLink RX11 43 "ModulePlayerModel" "places" "I") (List.mem_cons_of_mem _ kw_182)) (fun _ h9 => h9) rfl dX11_goOn_62 ?_
      refine lv_icmp_lt (tgt := 72) hx hb dX11_goOn_65 (by decide) (fun c_65 => ?_) (fun c_65 => ?_)
      · refine lv_aload_n hx hb dX11_goOn_72 rfl (lv_at hl 0 rfl) ?_
        refine va_get (D := (dC, dI)) (ci := 10) (v := .int x26) (C := RX11) (T := TX11) (N := 53) hx hb hts iwX11 hown hK hP 0 rfl rfl 26 (by decide) (hts (.fieldLink RX11 245 "ModulePlayerModel" "jump" "I") (List.mem_cons_of_mem _ kw_841)) (fun _ h9 => h9) rfl dX11_goOn_73 ?_
        obtain ⟨w76_, ew76_⟩ : ∃ xx : Int32, xx = x26 := ⟨_, rfl⟩
        have h_w76_ : rg1 0 127 w76_ := by rw [ew76_]; exact jmp_n h_x26 c_41 h_x13 c_65
        refine g_topi (y := w76_) ew76_.symm ?_
        refine va_put (D := (dC, dI)) (ci := 10) (v := .int w76_) (ty := tyX11 17) (C := RX11) (T := TX11) (N := 53) hx hb hts iwX11 tyX11 tyX11_ok nmX11 hown hK hP hD hS 0 rfl rfl 17 (by decide) (hts (.fieldLink RX11 203 "ModulePlayerModel" "place" "I") (List.mem_cons_of_mem _ kw_220)) (fun _ h9 => h9) rfl (by decide +kernel) (rfl) (rfl) (Nat.le_of_ble_eq_true rfl) dX11_goOn_76 (fun H locs hP hD hS => ?_)
        have hP : va_P (dC, dI) vwCl [(h, .inr (10, mdF qa x0 x2 x3 x4 x13 x14 x15 x16 w76_ x18 x19 x20 x21 x22 x23 x24 x26 x27 x28))] H := hP
        have hD : va_D A [(h, .inr (10, mdF qa x0 x2 x3 x4 x13 x14 x15 x16 w76_ x18 x19 x20 x21 x22 x23 x24 x26 x27 x28))] := hD
        refine lv_aload_n hx hb dX11_goOn_79 rfl (lv_at hl 0 rfl) ?_
        refine lv_aload_n hx hb dX11_goOn_80 rfl (lv_at hl 0 rfl) ?_
        refine va_get (D := (dC, dI)) (ci := 10) (v := .int x27) (C := RX11) (T := TX11) (N := 53) hx hb hts iwX11 hown hK hP 0 rfl rfl 27 (by decide) (hts (.fieldLink RX11 248 "ModulePlayerModel" "stop" "I") (List.mem_cons_of_mem _ kw_842)) (fun _ h9 => h9) rfl dX11_goOn_81 ?_
        refine lv_iconst (v := (-1)) hx hb dX11_goOn_84 (by decide) ?_
        refine lv_icmp_ne (tgt := 92) hx hb dX11_goOn_85 (by decide) (fun c_85 => ?_) (fun c_85 => ?_)
        · refine lv_aload_n hx hb dX11_goOn_92 rfl (lv_at hl 0 rfl) ?_
          refine va_get (D := (dC, dI)) (ci := 10) (v := .int x27) (C := RX11) (T := TX11) (N := 53) hx hb hts iwX11 hown hK hP 0 rfl rfl 27 (by decide) (hts (.fieldLink RX11 248 "ModulePlayerModel" "stop" "I") (List.mem_cons_of_mem _ kw_842)) (fun _ h9 => h9) rfl dX11_goOn_93 ?_
          obtain ⟨w96_, ew96_⟩ : ∃ xx : Int32, xx = x27 := ⟨_, rfl⟩
          have h_w96_ : rg1 0 63 w96_ := by rw [ew96_]; exact stp_n h_x27 c_85
          refine g_topi (y := w96_) ew96_.symm ?_
          refine va_put (D := (dC, dI)) (ci := 10) (v := .int w96_) (ty := tyX11 18) (C := RX11) (T := TX11) (N := 53) hx hb hts iwX11 tyX11 tyX11_ok nmX11 hown hK hP hD hS 0 rfl rfl 18 (by decide) (hts (.fieldLink RX11 206 "ModulePlayerModel" "row" "I") (List.mem_cons_of_mem _ kw_221)) (fun _ h9 => h9) rfl (by decide +kernel) (rfl) (rfl) (Nat.le_of_ble_eq_true rfl) dX11_goOn_96 (fun H locs hP hD hS => ?_)
          have hP : va_P (dC, dI) vwCl [(h, .inr (10, mdF qa x0 x2 x3 x4 x13 x14 x15 x16 w76_ w96_ x19 x20 x21 x22 x23 x24 x26 x27 x28))] H := hP
          have hD : va_D A [(h, .inr (10, mdF qa x0 x2 x3 x4 x13 x14 x15 x16 w76_ w96_ x19 x20 x21 x22 x23 x24 x26 x27 x28))] := hD
          refine lv_goto (tgt := 143) hx hb dX11_goOn_99 (by decide) ?_
          have hP9 := hP
          have hD9 := hD
          have hK9 := hK.sub (tys' := []) [] rfl
          exact W.vret hx hb hr (fun t ht hW => ⟨⟨_, rfl, ⟨w76_, w96_, rfl, h_w76_, h_w96_⟩, by rw [ht]; exact hP9, va_K.moved hW.alike hK9, hD9⟩, hS.F ht⟩) hS.2.2 dX11_goOn_143
        refine lv_iconst (v := 0) hx hb dX11_goOn_88 (by decide) ?_
        refine lv_goto (tgt := 96) hx hb dX11_goOn_89 (by decide) ?_
        refine va_put (D := (dC, dI)) (ci := 10) (v := .int 0) (ty := tyX11 18) (C := RX11) (T := TX11) (N := 53) hx hb hts iwX11 tyX11 tyX11_ok nmX11 hown hK hP hD hS 0 rfl rfl 18 (by decide) (hts (.fieldLink RX11 206 "ModulePlayerModel" "row" "I") (List.mem_cons_of_mem _ kw_221)) (fun _ h9 => h9) rfl (by decide +kernel) (rfl) (rfl) (Nat.le_of_ble_eq_true rfl) dX11_goOn_96 (fun H locs hP hD hS => ?_)
        have hP : va_P (dC, dI) vwCl [(h, .inr (10, mdF qa x0 x2 x3 x4 x13 x14 x15 x16 w76_ 0 x19 x20 x21 x22 x23 x24 x26 x27 x28))] H := hP
        have hD : va_D A [(h, .inr (10, mdF qa x0 x2 x3 x4 x13 x14 x15 x16 w76_ 0 x19 x20 x21 x22 x23 x24 x26 x27 x28))] := hD
        refine lv_goto (tgt := 143) hx hb dX11_goOn_99 (by decide) ?_
        have hP9 := hP
        have hD9 := hD
        have hK9 := hK.sub (tys' := []) [] rfl
        exact W.vret hx hb hr (fun t ht hW => ⟨⟨_, rfl, ⟨w76_, 0, rfl, h_w76_, (by unfold rg1; decide)⟩, by rw [ht]; exact hP9, va_K.moved hW.alike hK9, hD9⟩, hS.F ht⟩) hS.2.2 dX11_goOn_143
      refine lv_iconst (v := 0) hx hb dX11_goOn_68 (by decide) ?_
      refine lv_goto (tgt := 76) hx hb dX11_goOn_69 (by decide) ?_
      refine va_put (D := (dC, dI)) (ci := 10) (v := .int 0) (ty := tyX11 17) (C := RX11) (T := TX11) (N := 53) hx hb hts iwX11 tyX11 tyX11_ok nmX11 hown hK hP hD hS 0 rfl rfl 17 (by decide) (hts (.fieldLink RX11 203 "ModulePlayerModel" "place" "I") (List.mem_cons_of_mem _ kw_220)) (fun _ h9 => h9) rfl (by decide +kernel) (rfl) (rfl) (Nat.le_of_ble_eq_true rfl) dX11_goOn_76 (fun H locs hP hD hS => ?_)
      have hP : va_P (dC, dI) vwCl [(h, .inr (10, mdF qa x0 x2 x3 x4 x13 x14 x15 x16 0 x18 x19 x20 x21 x22 x23 x24 x26 x27 x28))] H := hP
      have hD : va_D A [(h, .inr (10, mdF qa x0 x2 x3 x4 x13 x14 x15 x16 0 x18 x19 x20 x21 x22 x23 x24 x26 x27 x28))] := hD
      refine lv_aload_n hx hb dX11_goOn_79 rfl (lv_at hl 0 rfl) ?_
      refine lv_aload_n hx hb dX11_goOn_80 rfl (lv_at hl 0 rfl) ?_
      refine va_get (D := (dC, dI)) (ci := 10) (v := .int x27) (C := RX11) (T := TX11) (N := 53) hx hb hts iwX11 hown hK hP 0 rfl rfl 27 (by decide) (hts (.fieldLink RX11 248 "ModulePlayerModel" "stop" "I") (List.mem_cons_of_mem _ kw_842)) (fun _ h9 => h9) rfl dX11_goOn_81 ?_
      refine lv_iconst (v := (-1)) hx hb dX11_goOn_84 (by decide) ?_
      refine lv_icmp_ne (tgt := 92) hx hb dX11_goOn_85 (by decide) (fun c_85 => ?_) (fun c_85 => ?_)
      · refine lv_aload_n hx hb dX11_goOn_92 rfl (lv_at hl 0 rfl) ?_
        refine va_get (D := (dC, dI)) (ci := 10) (v := .int x27) (C := RX11) (T := TX11) (N := 53) hx hb hts iwX11 hown hK hP 0 rfl rfl 27 (by decide) (hts (.fieldLink RX11 248 "ModulePlayerModel" "stop" "I") (List.mem_cons_of_mem _ kw_842)) (fun _ h9 => h9) rfl dX11_goOn_93 ?_
        obtain ⟨w96_, ew96_⟩ : ∃ xx : Int32, xx = x27 := ⟨_, rfl⟩
        have h_w96_ : rg1 0 63 w96_ := by rw [ew96_]; exact stp_n h_x27 c_85
        refine g_topi (y := w96_) ew96_.symm ?_
        refine va_put (D := (dC, dI)) (ci := 10) (v := .int w96_) (ty := tyX11 18) (C := RX11) (T := TX11) (N := 53) hx hb hts iwX11 tyX11 tyX11_ok nmX11 hown hK hP hD hS 0 rfl rfl 18 (by decide) (hts (.fieldLink RX11 206 "ModulePlayerModel" "row" "I") (List.mem_cons_of_mem _ kw_221)) (fun _ h9 => h9) rfl (by decide +kernel) (rfl) (rfl) (Nat.le_of_ble_eq_true rfl) dX11_goOn_96 (fun H locs hP hD hS => ?_)
        have hP : va_P (dC, dI) vwCl [(h, .inr (10, mdF qa x0 x2 x3 x4 x13 x14 x15 x16 0 w96_ x19 x20 x21 x22 x23 x24 x26 x27 x28))] H := hP
        have hD : va_D A [(h, .inr (10, mdF qa x0 x2 x3 x4 x13 x14 x15 x16 0 w96_ x19 x20 x21 x22 x23 x24 x26 x27 x28))] := hD
        refine lv_goto (tgt := 143) hx hb dX11_goOn_99 (by decide) ?_
        have hP9 := hP
        have hD9 := hD
        have hK9 := hK.sub (tys' := []) [] rfl
        exact W.vret hx hb hr (fun t ht hW => ⟨⟨_, rfl, ⟨0, w96_, rfl, (by unfold rg1; decide), h_w96_⟩, by rw [ht]; exact hP9, va_K.moved hW.alike hK9, hD9⟩, hS.F ht⟩) hS.2.2 dX11_goOn_143
      refine lv_iconst (v := 0) hx hb dX11_goOn_88 (by decide) ?_
      refine lv_goto (tgt := 96) hx hb dX11_goOn_89 (by decide) ?_
      refine va_put (D := (dC, dI)) (ci := 10) (v := .int 0) (ty := tyX11 18) (C := RX11) (T := TX11) (N := 53) hx hb hts iwX11 tyX11 tyX11_ok nmX11 hown hK hP hD hS 0 rfl rfl 18 (by decide) (hts (.fieldLink RX11 206 "ModulePlayerModel" "row" "I") (List.mem_cons_of_mem _ kw_221)) (fun _ h9 => h9) rfl (by decide +kernel) (rfl) (rfl) (Nat.le_of_ble_eq_true rfl) dX11_goOn_96 (fun H locs hP hD hS => ?_)
      have hP : va_P (dC, dI) vwCl [(h, .inr (10, mdF qa x0 x2 x3 x4 x13 x14 x15 x16 0 0 x19 x20 x21 x22 x23 x24 x26 x27 x28))] H := hP
      have hD : va_D A [(h, .inr (10, mdF qa x0 x2 x3 x4 x13 x14 x15 x16 0 0 x19 x20 x21 x22 x23 x24 x26 x27 x28))] := hD
      refine lv_goto (tgt := 143) hx hb dX11_goOn_99 (by decide) ?_
      have hP9 := hP
      have hD9 := hD
      have hK9 := hK.sub (tys' := []) [] rfl
      exact W.vret hx hb hr (fun t ht hW => ⟨⟨_, rfl, ⟨0, 0, rfl, (by unfold rg1; decide), (by unfold rg1; decide)⟩, by rw [ht]; exact hP9, va_K.moved hW.alike hK9, hD9⟩, hS.F ht⟩) hS.2.2 dX11_goOn_143
    refine lv_aload_n hx hb dX11_goOn_44 rfl (lv_at hl 0 rfl) ?_
    refine lv_aload_n hx hb dX11_goOn_45 rfl (lv_at hl 0 rfl) ?_
    refine va_get (D := (dC, dI)) (ci := 10) (v := .int x17) (C := RX11) (T := TX11) (N := 53) hx hb hts iwX11 hown hK hP 0 rfl rfl 17 (by decide) (hts (.fieldLink RX11 203 "ModulePlayerModel" "place" "I") (List.mem_cons_of_mem _ kw_220)) (fun _ h9 => h9) rfl dX11_goOn_46 ?_
    refine lv_iconst (v := 1) hx hb dX11_goOn_49 (by decide) ?_
    refine lv_iadd hx hb dX11_goOn_50 ?_
    refine g_calli (wr := []) (va_runV (As := [.int (x17 + 1)]) (rest := [.ref h]) ⟨hx, hb, hml, hown, hts⟩ (m_behind l dC dI H.size h qa x0 x2 x3 x4 x13 x14 x15 x16 x17 x18 x19 x20 x21 x22 x23 x24 x26 x27 x28 (x17 + 1) (rg1_s h_x17) (h_x13) (h_x14)) (cwV 1 hts (gG_V kw_848 kw_849 kw_850 kw_5 kw_851) rfl rfl rfl (by decide +kernel) ⟨Nat.le_of_ble_eq_true rfl, Nat.le_of_ble_eq_true rfl⟩) (g_preV (C := RX11) (T := TX11) (N := 53) hP hD hK hS hA hN hZ (q0 := 0) rfl rfl [0] (by decide +kernel) rfl [] rfl) rfl rfl hl.1 rfl (lv_room (Nat.le_of_ble_eq_true rfl)) dX11_goOn_51 ⟨Nat.le_of_ble_eq_true rfl, Nat.le_of_ble_eq_true rfl⟩) hP hD hK hS hA [0] [] rfl rfl (by decide +kernel) (by decide +kernel) (fun r_51 w ty1 H locs hw_51 hP hD _ hS => ?_)
    rcases hw_51 with ⟨hu, hb__51⟩
    cases hu
    have hP : va_P (dC, dI) vwCl [(h, .inr (10, mdF qa x0 x2 x3 x4 x13 x14 x15 x16 x17 x18 x19 x20 x21 x22 x23 x24 x26 x27 x28))] H := hP
    have hD : va_D A [(h, .inr (10, mdF qa x0 x2 x3 x4 x13 x14 x15 x16 x17 x18 x19 x20 x21 x22 x23 x24 x26 x27 x28))] := hD
    refine lv_goto (tgt := 76) hx hb dX11_goOn_54 (by decide) ?_
    obtain ⟨w76_, ew76_⟩ : ∃ xx : Int32, xx = r_51 := ⟨_, rfl⟩
    have h_w76_ : rg1 0 127 w76_ := by rw [ew76_]; exact hb__51
    refine g_topi (y := w76_) ew76_.symm ?_
    refine va_put (D := (dC, dI)) (ci := 10) (v := .int w76_) (ty := tyX11 17) (C := RX11) (T := TX11) (N := 53) hx hb hts iwX11 tyX11 tyX11_ok nmX11 hown hK hP hD hS 0 rfl rfl 17 (by decide) (hts (.fieldLink RX11 203 "ModulePlayerModel" "place" "I") (List.mem_cons_of_mem _ kw_220)) (fun _ h9 => h9) rfl (by decide +kernel) (rfl) (rfl) (Nat.le_of_ble_eq_true rfl) dX11_goOn_76 (fun H locs hP hD hS => ?_)
    have hP : va_P (dC, dI) vwCl [(h, .inr (10, mdF qa x0 x2 x3 x4 x13 x14 x15 x16 w76_ x18 x19 x20 x21 x22 x23 x24 x26 x27 x28))] H := hP
    have hD : va_D A [(h, .inr (10, mdF qa x0 x2 x3 x4 x13 x14 x15 x16 w76_ x18 x19 x20 x21 x22 x23 x24 x26 x27 x28))] := hD
    refine lv_aload_n hx hb dX11_goOn_79 rfl (lv_at hl 0 rfl) ?_
    refine lv_aload_n hx hb dX11_goOn_80 rfl (lv_at hl 0 rfl) ?_
    refine va_get (D := (dC, dI)) (ci := 10) (v := .int x27) (C := RX11) (T := TX11) (N := 53) hx hb hts iwX11 hown hK hP 0 rfl rfl 27 (by decide) (hts (.fieldLink RX11 248 "ModulePlayerModel" "stop" "I") (List.mem_cons_of_mem _ kw_842)) (fun _ h9 => h9) rfl dX11_goOn_81 ?_
    refine lv_iconst (v := (-1)) hx hb dX11_goOn_84 (by decide) ?_
    refine lv_icmp_ne (tgt := 92) hx hb dX11_goOn_85 (by decide) (fun c_85 => ?_) (fun c_85 => ?_)
    · refine lv_aload_n hx hb dX11_goOn_92 rfl (lv_at hl 0 rfl) ?_
      refine va_get (D := (dC, dI)) (ci := 10) (v := .int x27) (C := RX11) (T := TX11) (N := 53) hx hb hts iwX11 hown hK hP 0 rfl rfl 27 (by decide) (hts (.fieldLink RX11 248 "ModulePlayerModel" "stop" "I") (List.mem_cons_of_mem _ kw_842)) (fun _ h9 => h9) rfl dX11_goOn_93 ?_
      obtain ⟨w96_, ew96_⟩ : ∃ xx : Int32, xx = x27 := ⟨_, rfl⟩
      have h_w96_ : rg1 0 63 w96_ := by rw [ew96_]; exact stp_n h_x27 c_85
      refine g_topi (y := w96_) ew96_.symm ?_
      refine va_put (D := (dC, dI)) (ci := 10) (v := .int w96_) (ty := tyX11 18) (C := RX11) (T := TX11) (N := 53) hx hb hts iwX11 tyX11 tyX11_ok nmX11 hown hK hP hD hS 0 rfl rfl 18 (by decide) (hts (.fieldLink RX11 206 "ModulePlayerModel" "row" "I") (List.mem_cons_of_mem _ kw_221)) (fun _ h9 => h9) rfl (by decide +kernel) (rfl) (rfl) (Nat.le_of_ble_eq_true rfl) dX11_goOn_96 (fun H locs hP hD hS => ?_)
      have hP : va_P (dC, dI) vwCl [(h, .inr (10, mdF qa x0 x2 x3 x4 x13 x14 x15 x16 w76_ w96_ x19 x20 x21 x22 x23 x24 x26 x27 x28))] H := hP
      have hD : va_D A [(h, .inr (10, mdF qa x0 x2 x3 x4 x13 x14 x15 x16 w76_ w96_ x19 x20 x21 x22 x23 x24 x26 x27 x28))] := hD
      refine lv_goto (tgt := 143) hx hb dX11_goOn_99 (by decide) ?_
      have hP9 := hP
      have hD9 := hD
      have hK9 := hK.sub (tys' := []) [] rfl
      exact W.vret hx hb hr (fun t ht hW => ⟨⟨_, rfl, ⟨w76_, w96_, rfl, h_w76_, h_w96_⟩, by rw [ht]; exact hP9, va_K.moved hW.alike hK9, hD9⟩, hS.F ht⟩) hS.2.2 dX11_goOn_143
    refine lv_iconst (v := 0) hx hb dX11_goOn_88 (by decide) ?_
    refine lv_goto (tgt := 96) hx hb dX11_goOn_89 (by decide) ?_
    refine va_put (D := (dC, dI)) (ci := 10) (v := .int 0) (ty := tyX11 18) (C := RX11) (T := TX11) (N := 53) hx hb hts iwX11 tyX11 tyX11_ok nmX11 hown hK hP hD hS 0 rfl rfl 18 (by decide) (hts (.fieldLink RX11 206 "ModulePlayerModel" "row" "I") (List.mem_cons_of_mem _ kw_221)) (fun _ h9 => h9) rfl (by decide +kernel) (rfl) (rfl) (Nat.le_of_ble_eq_true rfl) dX11_goOn_96 (fun H locs hP hD hS => ?_)
    have hP : va_P (dC, dI) vwCl [(h, .inr (10, mdF qa x0 x2 x3 x4 x13 x14 x15 x16 w76_ 0 x19 x20 x21 x22 x23 x24 x26 x27 x28))] H := hP
    have hD : va_D A [(h, .inr (10, mdF qa x0 x2 x3 x4 x13 x14 x15 x16 w76_ 0 x19 x20 x21 x22 x23 x24 x26 x27 x28))] := hD
    refine lv_goto (tgt := 143) hx hb dX11_goOn_99 (by decide) ?_
    have hP9 := hP
    have hD9 := hD
    have hK9 := hK.sub (tys' := []) [] rfl
    exact W.vret hx hb hr (fun t ht hW => ⟨⟨_, rfl, ⟨w76_, 0, rfl, h_w76_, (by unfold rg1; decide)⟩, by rw [ht]; exact hP9, va_K.moved hW.alike hK9, hD9⟩, hS.F ht⟩) hS.2.2 dX11_goOn_143
  refine lv_aload_n hx hb dX11_goOn_8 rfl (lv_at hl 0 rfl) ?_
  refine lv_aload_n hx hb dX11_goOn_9 rfl (lv_at hl 0 rfl) ?_
  refine va_get (D := (dC, dI)) (ci := 10) (v := .int x28) (C := RX11) (T := TX11) (N := 53) hx hb hts iwX11 hown hK hP 0 rfl rfl 28 (by decide) (hts (.fieldLink RX11 242 "ModulePlayerModel" "loopTo" "I") (List.mem_cons_of_mem _ kw_843)) (fun _ h9 => h9) rfl dX11_goOn_10 ?_
  obtain ⟨w13_, ew13_⟩ : ∃ xx : Int32, xx = x28 := ⟨_, rfl⟩
  have h_w13_ : rg1 0 63 w13_ := by rw [ew13_]; exact stp_n h_x28 c_5
  refine g_topi (y := w13_) ew13_.symm ?_
  refine va_put (D := (dC, dI)) (ci := 10) (v := .int w13_) (ty := tyX11 18) (C := RX11) (T := TX11) (N := 53) hx hb hts iwX11 tyX11 tyX11_ok nmX11 hown hK hP hD hS 0 rfl rfl 18 (by decide) (hts (.fieldLink RX11 206 "ModulePlayerModel" "row" "I") (List.mem_cons_of_mem _ kw_221)) (fun _ h9 => h9) rfl (by decide +kernel) (rfl) (rfl) (Nat.le_of_ble_eq_true rfl) dX11_goOn_13 (fun H locs hP hD hS => ?_)
  have hP : va_P (dC, dI) vwCl [(h, .inr (10, mdF qa x0 x2 x3 x4 x13 x14 x15 x16 x17 w13_ x19 x20 x21 x22 x23 x24 x26 x27 x28))] H := hP
  have hD : va_D A [(h, .inr (10, mdF qa x0 x2 x3 x4 x13 x14 x15 x16 x17 w13_ x19 x20 x21 x22 x23 x24 x26 x27 x28))] := hD
  refine lv_goto (tgt := 143) hx hb dX11_goOn_16 (by decide) ?_
  have hP9 := hP
  have hD9 := hD
  have hK9 := hK.sub (tys' := []) [] rfl
  exact W.vret hx hb hr (fun t ht hW => ⟨⟨_, rfl, ⟨x17, w13_, rfl, h_x17, h_w13_⟩, by rw [ht]; exact hP9, va_K.moved hW.alike hK9, hD9⟩, hS.F ht⟩) hS.2.2 dX11_goOn_143

set_option maxHeartbeats 400000 in
set_option maxRecDepth 100000 in
theorem m_beginRow (l : Launch) (dC : Nat → ClassId) (dI : Nat → Nat → Nat) (sz : Nat) (h : Nat) (qa : Nat → Nat) (x0 x2 x3 x4 x13 x14 x15 x16 x17 x18 x19 x20 x21 x22 x23 x24 x26 x27 x28 : Int32) (cI cZ : ClassId) (g11 g12 g25 g46 g47 : Nat → Int32) (hpr : prOk x23 x17 x18 x26 x27 x28) (r_g12 : rg 128 0 7 g12) (h_x13 : plc x13) (h_x14 : rst x14) : Met l yX11_beginRow (wsG (.code yX11_beginRow cX11_beginRow 4 none)) ({ frames := 2, cells := 0, slots := 0, locals := 41 }) (va_Pc [.ref h] (gP (dC, dI) [(cI, .int), (cZ, .boolean)] [(h, .inr (10, mdF qa x0 x2 x3 x4 x13 x14 x15 x16 x17 x18 x19 x20 x21 x22 x23 x24 x26 x27 x28)), (qa 11, .inl (cI, 2048, .inl g11)), (qa 12, .inl (cI, 128, .inl g12)), (qa 25, .inl (cZ, 8192, .inl g25)), (qa 46, .inl (cI, 4, .inl g46)), (qa 47, .inl (cI, 4, .inl g47))] sz)) (va_Qv (fun u : va_W × gT => ∃ (y17 : Int32) (y18 : Int32) (y19 : Int32) (y20 : Int32) (y21 : Int32) (y26 : Int32) (y27 : Int32) (y28 : Int32) (k25 : Nat → Int32) (k47 : Nat → Int32), u = ([(h, .inr (10, mdF qa x0 x2 x3 x4 x13 x14 x15 x16 y17 y18 y19 y20 y21 x22 x23 x24 y26 y27 y28)), (qa 11, .inl (cI, 2048, .inl g11)), (qa 12, .inl (cI, 128, .inl g12)), (qa 25, .inl (cZ, 8192, .inl k25)), (qa 46, .inl (cI, 4, .inl g46)), (qa 47, .inl (cI, 4, .inl k47))], []) ∧ rg1 0 127 y17 ∧ rg1 0 63 y18 ∧ jmp y26 ∧ stp y27 ∧ stp y28) (gB (dC, dI) (va_A [(h, .inr (10, mdF qa x0 x2 x3 x4 x13 x14 x15 x16 x17 x18 x19 x20 x21 x22 x23 x24 x26 x27 x28)), (qa 11, .inl (cI, 2048, .inl g11)), (qa 12, .inl (cI, 128, .inl g12)), (qa 25, .inl (cZ, 8192, .inl g25)), (qa 46, .inl (cI, 4, .inl g46)), (qa 47, .inl (cI, 4, .inl g47))] sz)) (va_A [(h, .inr (10, mdF qa x0 x2 x3 x4 x13 x14 x15 x16 x17 x18 x19 x20 x21 x22 x23 x24 x26 x27 x28)), (qa 11, .inl (cI, 2048, .inl g11)), (qa 12, .inl (cI, 128, .inl g12)), (qa 25, .inl (cZ, 8192, .inl g25)), (qa 46, .inl (cI, 4, .inl g46)), (qa 47, .inl (cI, 4, .inl g47))] sz)) 0 0 (va_A [(h, .inr (10, mdF qa x0 x2 x3 x4 x13 x14 x15 x16 x17 x18 x19 x20 x21 x22 x23 x24 x26 x27 x28)), (qa 11, .inl (cI, 2048, .inl g11)), (qa 12, .inl (cI, 128, .inl g12)), (qa 25, .inl (cZ, 8192, .inl g25)), (qa 46, .inl (cI, 4, .inl g46)), (qa 47, .inl (cI, 4, .inl g47))] sz) := by
  refine Met.ofW (cc := cX11_beginRow) (maxL := 4) (ret := none) (by decide) rfl ?_
  intro p e s m args below meth c s₁ B hml hv
  obtain ⟨rfl, hsz, hP, hK, hD0, hN, hZ⟩ := hv
  have hx := B.exec
  have hb := B.bytes
  have hr := B.returns
  have hts := atoms_spec (ws := (wsG (.code yX11_beginRow cX11_beginRow 4 none))) B.pre
  have hown : s.vm.findClass RX11 = some m.cls := findClass_of_methodNamed B.named
  have hlocks := B.notSynchronized
  subst hsz
  have hD := hD0.self (sz := s.heap.size)
  generalize hAe : va_A [(h, .inr (10, mdF qa x0 x2 x3 x4 x13 x14 x15 x16 x17 x18 x19 x20 x21 x22 x23 x24 x26 x27 x28)), (qa 11, .inl (cI, 2048, .inl g11)), (qa 12, .inl (cI, 128, .inl g12)), (qa 25, .inl (cZ, 8192, .inl g25)), (qa 46, .inl (cI, 4, .inl g46)), (qa 47, .inl (cI, 4, .inl g47))] s.heap.size = A at hD hZ ⊢
  have hA : ∀ q : Nat, s.heap.size ≤ q → A q := fun q h => by rw [← hAe]; exact Or.inr h
  have hl := lv_entry ([.ref h]) (n := 4) (Nat.le_of_ble_eq_true rfl)
  rw [lg_entry_eq]
  generalize (lg_sl ([.ref h]) ++ List.replicate (4 - (lg_sl ([.ref h])).length) Slot.unset).toArray = ls at hl ⊢
  have hl : lv_has ls 4 [(0, .ref h)] := hl
  refine g_start (A := A) hP (fun H locs hP hS => ?_)
  have LP24 : ∀ (jp_17 : Int32) (jp_18 : Int32) (h_jp_17 : rg1 0 127 jp_17) (h_jp_18 : rg1 0 63 jp_18) (H : Heap) (locs : List Loc), va_P (dC, dI) vwCl [(h, .inr (10, mdF qa x0 x2 x3 x4 x13 x14 x15 x16 jp_17 jp_18 x19 x20 x21 x22 x23 x24 x26 x27 x28)), (qa 11, .inl (cI, 2048, .inl g11)), (qa 12, .inl (cI, 128, .inl g12)), (qa 25, .inl (cZ, 8192, .inl g25)), (qa 46, .inl (cI, 4, .inl g46)), (qa 47, .inl (cI, 4, .inl g47))] H → va_D A [(h, .inr (10, mdF qa x0 x2 x3 x4 x13 x14 x15 x16 jp_17 jp_18 x19 x20 x21 x22 x23 x24 x26 x27 x28)), (qa 11, .inl (cI, 2048, .inl g11)), (qa 12, .inl (cI, 128, .inl g12)), (qa 25, .inl (cZ, 8192, .inl g25)), (qa 46, .inl (cI, 4, .inl g46)), (qa 47, .inl (cI, 4, .inl g47))] → va_S A s.heap H locs → ∀ ls : Array Slot, lv_has ls 4 [(0, .ref h)] → W p l e ({ frames := 2, cells := 0, slots := 0, locals := 41 }) s m ([.ref h] : List Value).toArray below meth c H locs (0) (0) (MQ below (va_Qv (fun u : va_W × gT => ∃ (y17 : Int32) (y18 : Int32) (y19 : Int32) (y20 : Int32) (y21 : Int32) (y26 : Int32) (y27 : Int32) (y28 : Int32) (k25 : Nat → Int32) (k47 : Nat → Int32), u = ([(h, .inr (10, mdF qa x0 x2 x3 x4 x13 x14 x15 x16 y17 y18 y19 y20 y21 x22 x23 x24 y26 y27 y28)), (qa 11, .inl (cI, 2048, .inl g11)), (qa 12, .inl (cI, 128, .inl g12)), (qa 25, .inl (cZ, 8192, .inl k25)), (qa 46, .inl (cI, 4, .inl g46)), (qa 47, .inl (cI, 4, .inl k47))], []) ∧ rg1 0 127 y17 ∧ rg1 0 63 y18 ∧ jmp y26 ∧ stp y27 ∧ stp y28) (gB (dC, dI) A) A) ([.ref h] : List Value).toArray s 0 0 A) (F0 m 24 ls []) := by
    intro jp_17 jp_18 h_jp_17 h_jp_18 H locs hP hD hS ls hl
    obtain ⟨pn_, hpn_, epn_⟩ := rg1_nat (mx := 127) (show rg1 0 127 jp_17 from h_jp_17) rfl
    obtain ⟨rn_, hrn_, ern_⟩ := rg1_nat (mx := 63) (show rg1 0 63 jp_18 from h_jp_18) rfl
    refine lv_bipush (v := 64) hx hb dX11_beginRow_24 (by decide) ?_
    refine lv_aload_n hx hb dX11_beginRow_26 rfl (lv_at hl 0 rfl) ?_
    refine va_get (D := (dC, dI)) (ci := 10) (v := .int jp_17) (C := RX11) (T := TX11) (N := 53) hx hb hts iwX11 hown hK hP 0 rfl rfl 17 (by decide) (hts (.fieldLink RX11 203 "ModulePlayerModel" "place" "I") (List.mem_cons_of_mem _ kw_220)) (fun _ h9 => h9) rfl dX11_beginRow_27 ?_
    refine g_topi (y := nI pn_) epn_ ?_
    refine lv_imul hx hb dX11_beginRow_30 ?_
    refine g_topi (y := nI (64 * pn_)) (pk_mul 64 _) ?_
    refine lv_aload_n hx hb dX11_beginRow_31 rfl (lv_at hl 0 rfl) ?_
    refine va_get (D := (dC, dI)) (ci := 10) (v := .int jp_18) (C := RX11) (T := TX11) (N := 53) hx hb hts iwX11 hown hK hP 0 rfl rfl 18 (by decide) (hts (.fieldLink RX11 206 "ModulePlayerModel" "row" "I") (List.mem_cons_of_mem _ kw_221)) (fun _ h9 => h9) rfl dX11_beginRow_32 ?_
    refine g_topi (y := nI rn_) ern_ ?_
    refine lv_iadd hx hb dX11_beginRow_35 ?_
    refine g_topi (y := nI (64 * pn_ + rn_)) (nI_add _ _) ?_
    refine lv_istore_n (lv' := [(1, .int (nI (64 * pn_ + rn_))), (0, .ref h)]) hx hb dX11_beginRow_36 rfl hl (by decide) rfl (fun ls hl => ?_)
    refine lv_iconst (v := 0) hx hb dX11_beginRow_37 (by decide) ?_
    refine lv_istore_n (lv' := [(2, .int 0), (1, .int (nI (64 * pn_ + rn_))), (0, .ref h)]) hx hb dX11_beginRow_38 rfl hl (by decide) rfl (fun ls hl => ?_)
    have LP71 : ∀ (il_ : Int32) (H : Heap) (locs : List Loc), va_P (dC, dI) vwCl [(h, .inr (10, mdF qa x0 x2 x3 x4 x13 x14 x15 x16 jp_17 jp_18 x19 x20 x21 x22 x23 x24 x26 x27 x28)), (qa 11, .inl (cI, 2048, .inl g11)), (qa 12, .inl (cI, 128, .inl g12)), (qa 25, .inl (cZ, 8192, .inl g25)), (qa 46, .inl (cI, 4, .inl g46)), (qa 47, .inl (cI, 4, .inl g47))] H → va_D A [(h, .inr (10, mdF qa x0 x2 x3 x4 x13 x14 x15 x16 jp_17 jp_18 x19 x20 x21 x22 x23 x24 x26 x27 x28)), (qa 11, .inl (cI, 2048, .inl g11)), (qa 12, .inl (cI, 128, .inl g12)), (qa 25, .inl (cZ, 8192, .inl g25)), (qa 46, .inl (cI, 4, .inl g46)), (qa 47, .inl (cI, 4, .inl g47))] → va_S A s.heap H locs → ∀ ls : Array Slot, lv_has ls 4 [(2, .int il_), (1, .int (nI (64 * pn_ + rn_))), (0, .ref h)] → W p l e ({ frames := 2, cells := 0, slots := 0, locals := 41 }) s m ([.ref h] : List Value).toArray below meth c H locs (0) (0) (MQ below (va_Qv (fun u : va_W × gT => ∃ (y17 : Int32) (y18 : Int32) (y19 : Int32) (y20 : Int32) (y21 : Int32) (y26 : Int32) (y27 : Int32) (y28 : Int32) (k25 : Nat → Int32) (k47 : Nat → Int32), u = ([(h, .inr (10, mdF qa x0 x2 x3 x4 x13 x14 x15 x16 y17 y18 y19 y20 y21 x22 x23 x24 y26 y27 y28)), (qa 11, .inl (cI, 2048, .inl g11)), (qa 12, .inl (cI, 128, .inl g12)), (qa 25, .inl (cZ, 8192, .inl k25)), (qa 46, .inl (cI, 4, .inl g46)), (qa 47, .inl (cI, 4, .inl k47))], []) ∧ rg1 0 127 y17 ∧ rg1 0 63 y18 ∧ jmp y26 ∧ stp y27 ∧ stp y28) (gB (dC, dI) A) A) ([.ref h] : List Value).toArray s 0 0 A) (F0 m 71 ls []) := by
      intro il_  H locs hP hD hS ls hl
      have LP94 : ∀ (ag_ : Int32) (H : Heap) (locs : List Loc), va_P (dC, dI) vwCl [(h, .inr (10, mdF qa x0 x2 x3 x4 x13 x14 x15 x16 jp_17 jp_18 x19 x20 ag_ x22 x23 x24 x26 x27 x28)), (qa 11, .inl (cI, 2048, .inl g11)), (qa 12, .inl (cI, 128, .inl g12)), (qa 25, .inl (cZ, 8192, .inl g25)), (qa 46, .inl (cI, 4, .inl g46)), (qa 47, .inl (cI, 4, .inl g47))] H → va_D A [(h, .inr (10, mdF qa x0 x2 x3 x4 x13 x14 x15 x16 jp_17 jp_18 x19 x20 ag_ x22 x23 x24 x26 x27 x28)), (qa 11, .inl (cI, 2048, .inl g11)), (qa 12, .inl (cI, 128, .inl g12)), (qa 25, .inl (cZ, 8192, .inl g25)), (qa 46, .inl (cI, 4, .inl g46)), (qa 47, .inl (cI, 4, .inl g47))] → va_S A s.heap H locs → ∀ ls : Array Slot, lv_has ls 4 [(1, .int (nI (64 * pn_ + rn_))), (0, .ref h)] → W p l e ({ frames := 2, cells := 0, slots := 0, locals := 41 }) s m ([.ref h] : List Value).toArray below meth c H locs (0) (0) (MQ below (va_Qv (fun u : va_W × gT => ∃ (y17 : Int32) (y18 : Int32) (y19 : Int32) (y20 : Int32) (y21 : Int32) (y26 : Int32) (y27 : Int32) (y28 : Int32) (k25 : Nat → Int32) (k47 : Nat → Int32), u = ([(h, .inr (10, mdF qa x0 x2 x3 x4 x13 x14 x15 x16 y17 y18 y19 y20 y21 x22 x23 x24 y26 y27 y28)), (qa 11, .inl (cI, 2048, .inl g11)), (qa 12, .inl (cI, 128, .inl g12)), (qa 25, .inl (cZ, 8192, .inl k25)), (qa 46, .inl (cI, 4, .inl g46)), (qa 47, .inl (cI, 4, .inl k47))], []) ∧ rg1 0 127 y17 ∧ rg1 0 63 y18 ∧ jmp y26 ∧ stp y27 ∧ stp y28) (gB (dC, dI) A) A) ([.ref h] : List Value).toArray s 0 0 A) (F0 m 94 ls []) := by
        intro ag_  H locs hP hD hS ls hl
        refine lv_aload_n hx hb dX11_beginRow_94 rfl (lv_at hl 1 rfl) ?_
        refine va_get (D := (dC, dI)) (ci := 10) (v := .ref (qa 25)) (C := RX11) (T := TX11) (N := 53) hx hb hts iwX11 hown hK hP 0 rfl rfl 25 (by decide) (hts (.fieldLink RX11 46 "ModulePlayerModel" "begun" "[Z") (List.mem_cons_of_mem _ kw_184)) (fun _ h9 => h9) rfl dX11_beginRow_95 ?_
        refine lv_iload_n hx hb dX11_beginRow_98 rfl (lv_at hl 0 rfl) ?_
        refine lv_iconst (v := 1) hx hb dX11_beginRow_99 (by decide) ?_
        refine g_zast hx hb hK hP hD hS 3 1 rfl rfl (x' := 1) (by decide) (64 * pn_ + rn_) (nI_clamp (Nat.lt_trans (show 64 * pn_ + rn_ < 8192 from by omega) (by decide))) (vp_in_nI (by omega) (by decide)) dX11_beginRow_100 (fun H locs hP hD hS => ?_)
        have hP : va_P (dC, dI) vwCl [(h, .inr (10, mdF qa x0 x2 x3 x4 x13 x14 x15 x16 jp_17 jp_18 x19 x20 ag_ x22 x23 x24 x26 x27 x28)), (qa 11, .inl (cI, 2048, .inl g11)), (qa 12, .inl (cI, 128, .inl g12)), (qa 25, .inl (cZ, 8192, .inl (upd g25 (64 * pn_ + rn_) 1))), (qa 46, .inl (cI, 4, .inl g46)), (qa 47, .inl (cI, 4, .inl g47))] H := hP
        have hD : va_D A [(h, .inr (10, mdF qa x0 x2 x3 x4 x13 x14 x15 x16 jp_17 jp_18 x19 x20 ag_ x22 x23 x24 x26 x27 x28)), (qa 11, .inl (cI, 2048, .inl g11)), (qa 12, .inl (cI, 128, .inl g12)), (qa 25, .inl (cZ, 8192, .inl (upd g25 (64 * pn_ + rn_) 1))), (qa 46, .inl (cI, 4, .inl g46)), (qa 47, .inl (cI, 4, .inl g47))] := hD
        generalize upd g25 (64 * pn_ + rn_) 1 = u25_100 at hP hD
        refine lv_aload_n hx hb dX11_beginRow_101 rfl (lv_at hl 1 rfl) ?_
        refine lv_iconst (v := 0) hx hb dX11_beginRow_102 (by decide) ?_
        refine va_put (D := (dC, dI)) (ci := 10) (v := .int 0) (ty := tyX11 19) (C := RX11) (T := TX11) (N := 53) hx hb hts iwX11 tyX11 tyX11_ok nmX11 hown hK hP hD hS 0 rfl rfl 19 (by decide) (hts (.fieldLink RX11 209 "ModulePlayerModel" "tick" "I") (List.mem_cons_of_mem _ kw_222)) (fun _ h9 => h9) rfl (by decide +kernel) (rfl) (rfl) (Nat.le_of_ble_eq_true rfl) dX11_beginRow_103 (fun H locs hP hD hS => ?_)
        have hP : va_P (dC, dI) vwCl [(h, .inr (10, mdF qa x0 x2 x3 x4 x13 x14 x15 x16 jp_17 jp_18 0 x20 ag_ x22 x23 x24 x26 x27 x28)), (qa 11, .inl (cI, 2048, .inl g11)), (qa 12, .inl (cI, 128, .inl g12)), (qa 25, .inl (cZ, 8192, .inl u25_100)), (qa 46, .inl (cI, 4, .inl g46)), (qa 47, .inl (cI, 4, .inl g47))] H := hP
        have hD : va_D A [(h, .inr (10, mdF qa x0 x2 x3 x4 x13 x14 x15 x16 jp_17 jp_18 0 x20 ag_ x22 x23 x24 x26 x27 x28)), (qa 11, .inl (cI, 2048, .inl g11)), (qa 12, .inl (cI, 128, .inl g12)), (qa 25, .inl (cZ, 8192, .inl u25_100)), (qa 46, .inl (cI, 4, .inl g46)), (qa 47, .inl (cI, 4, .inl g47))] := hD
        refine lv_aload_n hx hb dX11_beginRow_106 rfl (lv_at hl 1 rfl) ?_
        refine lv_iconst (v := 0) hx hb dX11_beginRow_107 (by decide) ?_
        refine va_put (D := (dC, dI)) (ci := 10) (v := .int 0) (ty := tyX11 20) (C := RX11) (T := TX11) (N := 53) hx hb hts iwX11 tyX11 tyX11_ok nmX11 hown hK hP hD hS 0 rfl rfl 20 (by decide) (hts (.fieldLink RX11 215 "ModulePlayerModel" "delay" "I") (List.mem_cons_of_mem _ kw_224)) (fun _ h9 => h9) rfl (by decide +kernel) (rfl) (rfl) (Nat.le_of_ble_eq_true rfl) dX11_beginRow_108 (fun H locs hP hD hS => ?_)
        have hP : va_P (dC, dI) vwCl [(h, .inr (10, mdF qa x0 x2 x3 x4 x13 x14 x15 x16 jp_17 jp_18 0 0 ag_ x22 x23 x24 x26 x27 x28)), (qa 11, .inl (cI, 2048, .inl g11)), (qa 12, .inl (cI, 128, .inl g12)), (qa 25, .inl (cZ, 8192, .inl u25_100)), (qa 46, .inl (cI, 4, .inl g46)), (qa 47, .inl (cI, 4, .inl g47))] H := hP
        have hD : va_D A [(h, .inr (10, mdF qa x0 x2 x3 x4 x13 x14 x15 x16 jp_17 jp_18 0 0 ag_ x22 x23 x24 x26 x27 x28)), (qa 11, .inl (cI, 2048, .inl g11)), (qa 12, .inl (cI, 128, .inl g12)), (qa 25, .inl (cZ, 8192, .inl u25_100)), (qa 46, .inl (cI, 4, .inl g46)), (qa 47, .inl (cI, 4, .inl g47))] := hD
        refine lv_aload_n hx hb dX11_beginRow_111 rfl (lv_at hl 1 rfl) ?_
        refine lv_iconst (v := (-1)) hx hb dX11_beginRow_112 (by decide) ?_
        refine va_put (D := (dC, dI)) (ci := 10) (v := .int (-1)) (ty := tyX11 26) (C := RX11) (T := TX11) (N := 53) hx hb hts iwX11 tyX11 tyX11_ok nmX11 hown hK hP hD hS 0 rfl rfl 26 (by decide) (hts (.fieldLink RX11 245 "ModulePlayerModel" "jump" "I") (List.mem_cons_of_mem _ kw_841)) (fun _ h9 => h9) rfl (by decide +kernel) (rfl) (rfl) (Nat.le_of_ble_eq_true rfl) dX11_beginRow_113 (fun H locs hP hD hS => ?_)
        have hP : va_P (dC, dI) vwCl [(h, .inr (10, mdF qa x0 x2 x3 x4 x13 x14 x15 x16 jp_17 jp_18 0 0 ag_ x22 x23 x24 (-1) x27 x28)), (qa 11, .inl (cI, 2048, .inl g11)), (qa 12, .inl (cI, 128, .inl g12)), (qa 25, .inl (cZ, 8192, .inl u25_100)), (qa 46, .inl (cI, 4, .inl g46)), (qa 47, .inl (cI, 4, .inl g47))] H := hP
        have hD : va_D A [(h, .inr (10, mdF qa x0 x2 x3 x4 x13 x14 x15 x16 jp_17 jp_18 0 0 ag_ x22 x23 x24 (-1) x27 x28)), (qa 11, .inl (cI, 2048, .inl g11)), (qa 12, .inl (cI, 128, .inl g12)), (qa 25, .inl (cZ, 8192, .inl u25_100)), (qa 46, .inl (cI, 4, .inl g46)), (qa 47, .inl (cI, 4, .inl g47))] := hD
        refine lv_aload_n hx hb dX11_beginRow_116 rfl (lv_at hl 1 rfl) ?_
        refine lv_iconst (v := (-1)) hx hb dX11_beginRow_117 (by decide) ?_
        refine va_put (D := (dC, dI)) (ci := 10) (v := .int (-1)) (ty := tyX11 27) (C := RX11) (T := TX11) (N := 53) hx hb hts iwX11 tyX11 tyX11_ok nmX11 hown hK hP hD hS 0 rfl rfl 27 (by decide) (hts (.fieldLink RX11 248 "ModulePlayerModel" "stop" "I") (List.mem_cons_of_mem _ kw_842)) (fun _ h9 => h9) rfl (by decide +kernel) (rfl) (rfl) (Nat.le_of_ble_eq_true rfl) dX11_beginRow_118 (fun H locs hP hD hS => ?_)
        have hP : va_P (dC, dI) vwCl [(h, .inr (10, mdF qa x0 x2 x3 x4 x13 x14 x15 x16 jp_17 jp_18 0 0 ag_ x22 x23 x24 (-1) (-1) x28)), (qa 11, .inl (cI, 2048, .inl g11)), (qa 12, .inl (cI, 128, .inl g12)), (qa 25, .inl (cZ, 8192, .inl u25_100)), (qa 46, .inl (cI, 4, .inl g46)), (qa 47, .inl (cI, 4, .inl g47))] H := hP
        have hD : va_D A [(h, .inr (10, mdF qa x0 x2 x3 x4 x13 x14 x15 x16 jp_17 jp_18 0 0 ag_ x22 x23 x24 (-1) (-1) x28)), (qa 11, .inl (cI, 2048, .inl g11)), (qa 12, .inl (cI, 128, .inl g12)), (qa 25, .inl (cZ, 8192, .inl u25_100)), (qa 46, .inl (cI, 4, .inl g46)), (qa 47, .inl (cI, 4, .inl g47))] := hD
        refine lv_aload_n hx hb dX11_beginRow_121 rfl (lv_at hl 1 rfl) ?_
        refine lv_iconst (v := (-1)) hx hb dX11_beginRow_122 (by decide) ?_
        refine va_put (D := (dC, dI)) (ci := 10) (v := .int (-1)) (ty := tyX11 28) (C := RX11) (T := TX11) (N := 53) hx hb hts iwX11 tyX11 tyX11_ok nmX11 hown hK hP hD hS 0 rfl rfl 28 (by decide) (hts (.fieldLink RX11 242 "ModulePlayerModel" "loopTo" "I") (List.mem_cons_of_mem _ kw_843)) (fun _ h9 => h9) rfl (by decide +kernel) (rfl) (rfl) (Nat.le_of_ble_eq_true rfl) dX11_beginRow_123 (fun H locs hP hD hS => ?_)
        have hP : va_P (dC, dI) vwCl [(h, .inr (10, mdF qa x0 x2 x3 x4 x13 x14 x15 x16 jp_17 jp_18 0 0 ag_ x22 x23 x24 (-1) (-1) (-1))), (qa 11, .inl (cI, 2048, .inl g11)), (qa 12, .inl (cI, 128, .inl g12)), (qa 25, .inl (cZ, 8192, .inl u25_100)), (qa 46, .inl (cI, 4, .inl g46)), (qa 47, .inl (cI, 4, .inl g47))] H := hP
        have hD : va_D A [(h, .inr (10, mdF qa x0 x2 x3 x4 x13 x14 x15 x16 jp_17 jp_18 0 0 ag_ x22 x23 x24 (-1) (-1) (-1))), (qa 11, .inl (cI, 2048, .inl g11)), (qa 12, .inl (cI, 128, .inl g12)), (qa 25, .inl (cZ, 8192, .inl u25_100)), (qa 46, .inl (cI, 4, .inl g46)), (qa 47, .inl (cI, 4, .inl g47))] := hD
        refine lv_iconst (v := 0) hx hb dX11_beginRow_126 (by decide) ?_
        refine lv_istore_n (lv' := [(3, .int 0), (1, .int (nI (64 * pn_ + rn_))), (0, .ref h)]) hx hb dX11_beginRow_127 rfl hl (by decide) rfl (fun ls hl => ?_)
        refine lv_iload_n hx hb dX11_beginRow_128 rfl (lv_at hl 0 rfl) ?_
        refine lv_iconst (v := 4) hx hb dX11_beginRow_129 (by decide) ?_
        refine lv_icmp_ge (tgt := 172) hx hb dX11_beginRow_130 (by decide) (fun c_130 => absurd c_130 (by decide)) (fun c_130 => ?_)
        refine lv_aload_n hx hb dX11_beginRow_133 rfl (lv_at hl 2 rfl) ?_
        refine va_get (D := (dC, dI)) (ci := 10) (v := .ref (qa 47)) (C := RX11) (T := TX11) (N := 53) hx hb hts iwX11 hown hK hP 0 rfl rfl 47 (by decide) (hts (.fieldLink RX11 104 "ModulePlayerModel" "cell" "[I") (List.mem_cons_of_mem _ kw_203)) (fun _ h9 => h9) rfl dX11_beginRow_134 ?_
        refine lv_iload_n hx hb dX11_beginRow_137 rfl (lv_at hl 0 rfl) ?_
        refine lv_aload_n hx hb dX11_beginRow_138 rfl (lv_at hl 2 rfl) ?_
        refine va_get (D := (dC, dI)) (ci := 10) (v := .ref (qa 11)) (C := RX11) (T := TX11) (N := 53) hx hb hts iwX11 hown hK hP 0 rfl rfl 11 (by decide) (hts (.fieldLink RX11 37 "ModulePlayerModel" "cells" "[I") (List.mem_cons_of_mem _ kw_180)) (fun _ h9 => h9) rfl dX11_beginRow_139 ?_
        refine lv_sipush (v := 256) hx hb dX11_beginRow_142 (by decide) ?_
        refine lv_aload_n hx hb dX11_beginRow_145 rfl (lv_at hl 2 rfl) ?_
        refine va_get (D := (dC, dI)) (ci := 10) (v := .ref (qa 12)) (C := RX11) (T := TX11) (N := 53) hx hb hts iwX11 hown hK hP 0 rfl rfl 12 (by decide) (hts (.fieldLink RX11 40 "ModulePlayerModel" "song" "[I") (List.mem_cons_of_mem _ kw_181)) (fun _ h9 => h9) rfl dX11_beginRow_146 ?_
        refine lv_aload_n hx hb dX11_beginRow_149 rfl (lv_at hl 2 rfl) ?_
        refine va_get (D := (dC, dI)) (ci := 10) (v := .int jp_17) (C := RX11) (T := TX11) (N := 53) hx hb hts iwX11 hown hK hP 0 rfl rfl 17 (by decide) (hts (.fieldLink RX11 203 "ModulePlayerModel" "place" "I") (List.mem_cons_of_mem _ kw_220)) (fun _ h9 => h9) rfl dX11_beginRow_150 ?_
        refine g_topi (y := nI pn_) epn_ ?_
        refine g_iald hx hb hK hP 2 0 rfl rfl pn_ (nI_clamp (Nat.lt_trans (show pn_ < 128 from by omega) (by decide))) (vp_in_nI (by omega) (by decide)) dX11_beginRow_153 ?_
        obtain ⟨jn_153, hjn_153, ejn_153⟩ := rg_nat (kx := pn_) (mx := 7) r_g12 (by omega) rfl
        refine g_topi (y := nI jn_153) ejn_153 ?_
        refine lv_imul hx hb dX11_beginRow_154 ?_
        refine g_topi (y := nI (256 * jn_153)) (pk_mul 256 _) ?_
        refine lv_iconst (v := 4) hx hb dX11_beginRow_155 (by decide) ?_
        refine lv_aload_n hx hb dX11_beginRow_156 rfl (lv_at hl 2 rfl) ?_
        refine va_get (D := (dC, dI)) (ci := 10) (v := .int jp_18) (C := RX11) (T := TX11) (N := 53) hx hb hts iwX11 hown hK hP 0 rfl rfl 18 (by decide) (hts (.fieldLink RX11 206 "ModulePlayerModel" "row" "I") (List.mem_cons_of_mem _ kw_221)) (fun _ h9 => h9) rfl dX11_beginRow_157 ?_
        refine g_topi (y := nI rn_) ern_ ?_
        refine lv_imul hx hb dX11_beginRow_160 ?_
        refine g_topi (y := nI (4 * rn_)) (pk_mul 4 _) ?_
        refine lv_iadd hx hb dX11_beginRow_161 ?_
        refine g_topi (y := nI (256 * jn_153 + 4 * rn_)) (nI_add _ _) ?_
        refine lv_iload_n hx hb dX11_beginRow_162 rfl (lv_at hl 0 rfl) ?_
        refine lv_iadd hx hb dX11_beginRow_163 ?_
        refine g_topi (y := nI (256 * jn_153 + 4 * rn_ + 0)) (nI_add _ 0) ?_
        refine g_iald hx hb hK hP 1 0 rfl rfl (256 * jn_153 + 4 * rn_ + 0) (nI_clamp (Nat.lt_trans (show 256 * jn_153 + 4 * rn_ + 0 < 2048 from by omega) (by decide))) (vp_in_nI (by omega) (by decide)) dX11_beginRow_164 ?_
        refine lv_topi (fun tv_164 etv_164 => ?_)
        refine g_iast hx hb hK hP hD hS 5 0 rfl rfl 0 (by decide) (by unfold vp_in; decide) dX11_beginRow_165 (fun H locs hP hD hS => ?_)
        have hP : va_P (dC, dI) vwCl [(h, .inr (10, mdF qa x0 x2 x3 x4 x13 x14 x15 x16 jp_17 jp_18 0 0 ag_ x22 x23 x24 (-1) (-1) (-1))), (qa 11, .inl (cI, 2048, .inl g11)), (qa 12, .inl (cI, 128, .inl g12)), (qa 25, .inl (cZ, 8192, .inl u25_100)), (qa 46, .inl (cI, 4, .inl g46)), (qa 47, .inl (cI, 4, .inl (upd g47 0 tv_164)))] H := hP
        have hD : va_D A [(h, .inr (10, mdF qa x0 x2 x3 x4 x13 x14 x15 x16 jp_17 jp_18 0 0 ag_ x22 x23 x24 (-1) (-1) (-1))), (qa 11, .inl (cI, 2048, .inl g11)), (qa 12, .inl (cI, 128, .inl g12)), (qa 25, .inl (cZ, 8192, .inl u25_100)), (qa 46, .inl (cI, 4, .inl g46)), (qa 47, .inl (cI, 4, .inl (upd g47 0 tv_164)))] := hD
        generalize upd g47 0 tv_164 = u47_165 at hP hD
        refine lv_iinc (v := 1) (lv' := [(3, .int 1), (1, .int (nI (64 * pn_ + rn_))), (0, .ref h)]) hx hb dX11_beginRow_166 hl (k := 0) rfl (by decide) (by decide) rfl (fun ls hl => ?_)
        refine lv_goto (tgt := 128) hx hb dX11_beginRow_169 (by decide) ?_
        refine lv_iload_n hx hb dX11_beginRow_128 rfl (lv_at hl 0 rfl) ?_
        refine lv_iconst (v := 4) hx hb dX11_beginRow_129 (by decide) ?_
        refine lv_icmp_ge (tgt := 172) hx hb dX11_beginRow_130 (by decide) (fun c_130_2 => absurd c_130_2 (by decide)) (fun c_130_2 => ?_)
        refine lv_aload_n hx hb dX11_beginRow_133 rfl (lv_at hl 2 rfl) ?_
        refine va_get (D := (dC, dI)) (ci := 10) (v := .ref (qa 47)) (C := RX11) (T := TX11) (N := 53) hx hb hts iwX11 hown hK hP 0 rfl rfl 47 (by decide) (hts (.fieldLink RX11 104 "ModulePlayerModel" "cell" "[I") (List.mem_cons_of_mem _ kw_203)) (fun _ h9 => h9) rfl dX11_beginRow_134 ?_
        refine lv_iload_n hx hb dX11_beginRow_137 rfl (lv_at hl 0 rfl) ?_
        refine lv_aload_n hx hb dX11_beginRow_138 rfl (lv_at hl 2 rfl) ?_
        refine va_get (D := (dC, dI)) (ci := 10) (v := .ref (qa 11)) (C := RX11) (T := TX11) (N := 53) hx hb hts iwX11 hown hK hP 0 rfl rfl 11 (by decide) (hts (.fieldLink RX11 37 "ModulePlayerModel" "cells" "[I") (List.mem_cons_of_mem _ kw_180)) (fun _ h9 => h9) rfl dX11_beginRow_139 ?_
        refine lv_sipush (v := 256) hx hb dX11_beginRow_142 (by decide) ?_
        refine lv_aload_n hx hb dX11_beginRow_145 rfl (lv_at hl 2 rfl) ?_
        refine va_get (D := (dC, dI)) (ci := 10) (v := .ref (qa 12)) (C := RX11) (T := TX11) (N := 53) hx hb hts iwX11 hown hK hP 0 rfl rfl 12 (by decide) (hts (.fieldLink RX11 40 "ModulePlayerModel" "song" "[I") (List.mem_cons_of_mem _ kw_181)) (fun _ h9 => h9) rfl dX11_beginRow_146 ?_
        refine lv_aload_n hx hb dX11_beginRow_149 rfl (lv_at hl 2 rfl) ?_
        refine va_get (D := (dC, dI)) (ci := 10) (v := .int jp_17) (C := RX11) (T := TX11) (N := 53) hx hb hts iwX11 hown hK hP 0 rfl rfl 17 (by decide) (hts (.fieldLink RX11 203 "ModulePlayerModel" "place" "I") (List.mem_cons_of_mem _ kw_220)) (fun _ h9 => h9) rfl dX11_beginRow_150 ?_
        refine g_topi (y := nI pn_) epn_ ?_
        refine g_iald hx hb hK hP 2 0 rfl rfl pn_ (nI_clamp (Nat.lt_trans (show pn_ < 128 from by omega) (by decide))) (vp_in_nI (by omega) (by decide)) dX11_beginRow_153 ?_
        obtain ⟨jn_153_2, hjn_153_2, ejn_153_2⟩ := rg_nat (kx := pn_) (mx := 7) r_g12 (by omega) rfl
        refine g_topi (y := nI jn_153_2) ejn_153_2 ?_
        refine lv_imul hx hb dX11_beginRow_154 ?_
        refine g_topi (y := nI (256 * jn_153_2)) (pk_mul 256 _) ?_
        refine lv_iconst (v := 4) hx hb dX11_beginRow_155 (by decide) ?_
        refine lv_aload_n hx hb dX11_beginRow_156 rfl (lv_at hl 2 rfl) ?_
        refine va_get (D := (dC, dI)) (ci := 10) (v := .int jp_18) (C := RX11) (T := TX11) (N := 53) hx hb hts iwX11 hown hK hP 0 rfl rfl 18 (by decide) (hts (.fieldLink RX11 206 "ModulePlayerModel" "row" "I") (List.mem_cons_of_mem _ kw_221)) (fun _ h9 => h9) rfl dX11_beginRow_157 ?_
        refine g_topi (y := nI rn_) ern_ ?_
        refine lv_imul hx hb dX11_beginRow_160 ?_
        refine g_topi (y := nI (4 * rn_)) (pk_mul 4 _) ?_
        refine lv_iadd hx hb dX11_beginRow_161 ?_
        refine g_topi (y := nI (256 * jn_153_2 + 4 * rn_)) (nI_add _ _) ?_
        refine lv_iload_n hx hb dX11_beginRow_162 rfl (lv_at hl 0 rfl) ?_
        refine lv_iadd hx hb dX11_beginRow_163 ?_
        refine g_topi (y := nI (256 * jn_153_2 + 4 * rn_ + 1)) (nI_add _ 1) ?_
        refine g_iald hx hb hK hP 1 0 rfl rfl (256 * jn_153_2 + 4 * rn_ + 1) (nI_clamp (Nat.lt_trans (show 256 * jn_153_2 + 4 * rn_ + 1 < 2048 from by omega) (by decide))) (vp_in_nI (by omega) (by decide)) dX11_beginRow_164 ?_
        refine lv_topi (fun tv_164_2 etv_164_2 => ?_)
        refine g_iast hx hb hK hP hD hS 5 0 rfl rfl 1 (by decide) (by unfold vp_in; decide) dX11_beginRow_165 (fun H locs hP hD hS => ?_)
        have hP : va_P (dC, dI) vwCl [(h, .inr (10, mdF qa x0 x2 x3 x4 x13 x14 x15 x16 jp_17 jp_18 0 0 ag_ x22 x23 x24 (-1) (-1) (-1))), (qa 11, .inl (cI, 2048, .inl g11)), (qa 12, .inl (cI, 128, .inl g12)), (qa 25, .inl (cZ, 8192, .inl u25_100)), (qa 46, .inl (cI, 4, .inl g46)), (qa 47, .inl (cI, 4, .inl (upd u47_165 1 tv_164_2)))] H := hP
        have hD : va_D A [(h, .inr (10, mdF qa x0 x2 x3 x4 x13 x14 x15 x16 jp_17 jp_18 0 0 ag_ x22 x23 x24 (-1) (-1) (-1))), (qa 11, .inl (cI, 2048, .inl g11)), (qa 12, .inl (cI, 128, .inl g12)), (qa 25, .inl (cZ, 8192, .inl u25_100)), (qa 46, .inl (cI, 4, .inl g46)), (qa 47, .inl (cI, 4, .inl (upd u47_165 1 tv_164_2)))] := hD
        generalize upd u47_165 1 tv_164_2 = u47_165_2 at hP hD
        refine lv_iinc (v := 2) (lv' := [(3, .int 2), (1, .int (nI (64 * pn_ + rn_))), (0, .ref h)]) hx hb dX11_beginRow_166 hl (k := 0) rfl (by decide) (by decide) rfl (fun ls hl => ?_)
        refine lv_goto (tgt := 128) hx hb dX11_beginRow_169 (by decide) ?_
        refine lv_iload_n hx hb dX11_beginRow_128 rfl (lv_at hl 0 rfl) ?_
        refine lv_iconst (v := 4) hx hb dX11_beginRow_129 (by decide) ?_
        refine lv_icmp_ge (tgt := 172) hx hb dX11_beginRow_130 (by decide) (fun c_130_3 => absurd c_130_3 (by decide)) (fun c_130_3 => ?_)
        refine lv_aload_n hx hb dX11_beginRow_133 rfl (lv_at hl 2 rfl) ?_
        refine va_get (D := (dC, dI)) (ci := 10) (v := .ref (qa 47)) (C := RX11) (T := TX11) (N := 53) hx hb hts iwX11 hown hK hP 0 rfl rfl 47 (by decide) (hts (.fieldLink RX11 104 "ModulePlayerModel" "cell" "[I") (List.mem_cons_of_mem _ kw_203)) (fun _ h9 => h9) rfl dX11_beginRow_134 ?_
        refine lv_iload_n hx hb dX11_beginRow_137 rfl (lv_at hl 0 rfl) ?_
        refine lv_aload_n hx hb dX11_beginRow_138 rfl (lv_at hl 2 rfl) ?_
        refine va_get (D := (dC, dI)) (ci := 10) (v := .ref (qa 11)) (C := RX11) (T := TX11) (N := 53) hx hb hts iwX11 hown hK hP 0 rfl rfl 11 (by decide) (hts (.fieldLink RX11 37 "ModulePlayerModel" "cells" "[I") (List.mem_cons_of_mem _ kw_180)) (fun _ h9 => h9) rfl dX11_beginRow_139 ?_
        refine lv_sipush (v := 256) hx hb dX11_beginRow_142 (by decide) ?_
        refine lv_aload_n hx hb dX11_beginRow_145 rfl (lv_at hl 2 rfl) ?_
        refine va_get (D := (dC, dI)) (ci := 10) (v := .ref (qa 12)) (C := RX11) (T := TX11) (N := 53) hx hb hts iwX11 hown hK hP 0 rfl rfl 12 (by decide) (hts (.fieldLink RX11 40 "ModulePlayerModel" "song" "[I") (List.mem_cons_of_mem _ kw_181)) (fun _ h9 => h9) rfl dX11_beginRow_146 ?_
        refine lv_aload_n hx hb dX11_beginRow_149 rfl (lv_at hl 2 rfl) ?_
        refine va_get (D := (dC, dI)) (ci := 10) (v := .int jp_17) (C := RX11) (T := TX11) (N := 53) hx hb hts iwX11 hown hK hP 0 rfl rfl 17 (by decide) (hts (.fieldLink RX11 203 "ModulePlayerModel" "place" "I") (List.mem_cons_of_mem _ kw_220)) (fun _ h9 => h9) rfl dX11_beginRow_150 ?_
        refine g_topi (y := nI pn_) epn_ ?_
        refine g_iald hx hb hK hP 2 0 rfl rfl pn_ (nI_clamp (Nat.lt_trans (show pn_ < 128 from by omega) (by decide))) (vp_in_nI (by omega) (by decide)) dX11_beginRow_153 ?_
        obtain ⟨jn_153_3, hjn_153_3, ejn_153_3⟩ := rg_nat (kx := pn_) (mx := 7) r_g12 (by omega) rfl
        refine g_topi (y := nI jn_153_3) ejn_153_3 ?_
        refine lv_imul hx hb dX11_beginRow_154 ?_
        refine g_topi (y := nI (256 * jn_153_3)) (pk_mul 256 _) ?_
        refine lv_iconst (v := 4) hx hb dX11_beginRow_155 (by decide) ?_
        refine lv_aload_n hx hb dX11_beginRow_156 rfl (lv_at hl 2 rfl) ?_
        refine va_get (D := (dC, dI)) (ci := 10) (v := .int jp_18) (C := RX11) (T := TX11) (N := 53) hx hb hts iwX11 hown hK hP 0 rfl rfl 18 (by decide) (hts (.fieldLink RX11 206 "ModulePlayerModel" "row" "I") (List.mem_cons_of_mem _ kw_221)) (fun _ h9 => h9) rfl dX11_beginRow_157 ?_
        refine g_topi (y := nI rn_) ern_ ?_
        refine lv_imul hx hb dX11_beginRow_160 ?_
        refine g_topi (y := nI (4 * rn_)) (pk_mul 4 _) ?_
        refine lv_iadd hx hb dX11_beginRow_161 ?_
        refine g_topi (y := nI (256 * jn_153_3 + 4 * rn_)) (nI_add _ _) ?_
        refine lv_iload_n hx hb dX11_beginRow_162 rfl (lv_at hl 0 rfl) ?_
        refine lv_iadd hx hb dX11_beginRow_163 ?_
        refine g_topi (y := nI (256 * jn_153_3 + 4 * rn_ + 2)) (nI_add _ 2) ?_
        refine g_iald hx hb hK hP 1 0 rfl rfl (256 * jn_153_3 + 4 * rn_ + 2) (nI_clamp (Nat.lt_trans (show 256 * jn_153_3 + 4 * rn_ + 2 < 2048 from by omega) (by decide))) (vp_in_nI (by omega) (by decide)) dX11_beginRow_164 ?_
        refine lv_topi (fun tv_164_3 etv_164_3 => ?_)
        refine g_iast hx hb hK hP hD hS 5 0 rfl rfl 2 (by decide) (by unfold vp_in; decide) dX11_beginRow_165 (fun H locs hP hD hS => ?_)
        have hP : va_P (dC, dI) vwCl [(h, .inr (10, mdF qa x0 x2 x3 x4 x13 x14 x15 x16 jp_17 jp_18 0 0 ag_ x22 x23 x24 (-1) (-1) (-1))), (qa 11, .inl (cI, 2048, .inl g11)), (qa 12, .inl (cI, 128, .inl g12)), (qa 25, .inl (cZ, 8192, .inl u25_100)), (qa 46, .inl (cI, 4, .inl g46)), (qa 47, .inl (cI, 4, .inl (upd u47_165_2 2 tv_164_3)))] H := hP
        have hD : va_D A [(h, .inr (10, mdF qa x0 x2 x3 x4 x13 x14 x15 x16 jp_17 jp_18 0 0 ag_ x22 x23 x24 (-1) (-1) (-1))), (qa 11, .inl (cI, 2048, .inl g11)), (qa 12, .inl (cI, 128, .inl g12)), (qa 25, .inl (cZ, 8192, .inl u25_100)), (qa 46, .inl (cI, 4, .inl g46)), (qa 47, .inl (cI, 4, .inl (upd u47_165_2 2 tv_164_3)))] := hD
        generalize upd u47_165_2 2 tv_164_3 = u47_165_3 at hP hD
        refine lv_iinc (v := 3) (lv' := [(3, .int 3), (1, .int (nI (64 * pn_ + rn_))), (0, .ref h)]) hx hb dX11_beginRow_166 hl (k := 0) rfl (by decide) (by decide) rfl (fun ls hl => ?_)
        refine lv_goto (tgt := 128) hx hb dX11_beginRow_169 (by decide) ?_
        refine lv_iload_n hx hb dX11_beginRow_128 rfl (lv_at hl 0 rfl) ?_
        refine lv_iconst (v := 4) hx hb dX11_beginRow_129 (by decide) ?_
        refine lv_icmp_ge (tgt := 172) hx hb dX11_beginRow_130 (by decide) (fun c_130_4 => absurd c_130_4 (by decide)) (fun c_130_4 => ?_)
        refine lv_aload_n hx hb dX11_beginRow_133 rfl (lv_at hl 2 rfl) ?_
        refine va_get (D := (dC, dI)) (ci := 10) (v := .ref (qa 47)) (C := RX11) (T := TX11) (N := 53) hx hb hts iwX11 hown hK hP 0 rfl rfl 47 (by decide) (hts (.fieldLink RX11 104 "ModulePlayerModel" "cell" "[I") (List.mem_cons_of_mem _ kw_203)) (fun _ h9 => h9) rfl dX11_beginRow_134 ?_
        refine lv_iload_n hx hb dX11_beginRow_137 rfl (lv_at hl 0 rfl) ?_
        refine lv_aload_n hx hb dX11_beginRow_138 rfl (lv_at hl 2 rfl) ?_
        refine va_get (D := (dC, dI)) (ci := 10) (v := .ref (qa 11)) (C := RX11) (T := TX11) (N := 53) hx hb hts iwX11 hown hK hP 0 rfl rfl 11 (by decide) (hts (.fieldLink RX11 37 "ModulePlayerModel" "cells" "[I") (List.mem_cons_of_mem _ kw_180)) (fun _ h9 => h9) rfl dX11_beginRow_139 ?_
        refine lv_sipush (v := 256) hx hb dX11_beginRow_142 (by decide) ?_
        refine lv_aload_n hx hb dX11_beginRow_145 rfl (lv_at hl 2 rfl) ?_
        refine va_get (D := (dC, dI)) (ci := 10) (v := .ref (qa 12)) (C := RX11) (T := TX11) (N := 53) hx hb hts iwX11 hown hK hP 0 rfl rfl 12 (by decide) (hts (.fieldLink RX11 40 "ModulePlayerModel" "song" "[I") (List.mem_cons_of_mem _ kw_181)) (fun _ h9 => h9) rfl dX11_beginRow_146 ?_
        refine lv_aload_n hx hb dX11_beginRow_149 rfl (lv_at hl 2 rfl) ?_
        refine va_get (D := (dC, dI)) (ci := 10) (v := .int jp_17) (C := RX11) (T := TX11) (N := 53) hx hb hts iwX11 hown hK hP 0 rfl rfl 17 (by decide) (hts (.fieldLink RX11 203 "ModulePlayerModel" "place" "I") (List.mem_cons_of_mem _ kw_220)) (fun _ h9 => h9) rfl dX11_beginRow_150 ?_
        refine g_topi (y := nI pn_) epn_ ?_
        refine g_iald hx hb hK hP 2 0 rfl rfl pn_ (nI_clamp (Nat.lt_trans (show pn_ < 128 from by omega) (by decide))) (vp_in_nI (by omega) (by decide)) dX11_beginRow_153 ?_
        obtain ⟨jn_153_4, hjn_153_4, ejn_153_4⟩ := rg_nat (kx := pn_) (mx := 7) r_g12 (by omega) rfl
        refine g_topi (y := nI jn_153_4) ejn_153_4 ?_
        refine lv_imul hx hb dX11_beginRow_154 ?_
        refine g_topi (y := nI (256 * jn_153_4)) (pk_mul 256 _) ?_
        refine lv_iconst (v := 4) hx hb dX11_beginRow_155 (by decide) ?_
        refine lv_aload_n hx hb dX11_beginRow_156 rfl (lv_at hl 2 rfl) ?_
        refine va_get (D := (dC, dI)) (ci := 10) (v := .int jp_18) (C := RX11) (T := TX11) (N := 53) hx hb hts iwX11 hown hK hP 0 rfl rfl 18 (by decide) (hts (.fieldLink RX11 206 "ModulePlayerModel" "row" "I") (List.mem_cons_of_mem _ kw_221)) (fun _ h9 => h9) rfl dX11_beginRow_157 ?_
        refine g_topi (y := nI rn_) ern_ ?_
        refine lv_imul hx hb dX11_beginRow_160 ?_
        refine g_topi (y := nI (4 * rn_)) (pk_mul 4 _) ?_
        refine lv_iadd hx hb dX11_beginRow_161 ?_
        refine g_topi (y := nI (256 * jn_153_4 + 4 * rn_)) (nI_add _ _) ?_
        refine lv_iload_n hx hb dX11_beginRow_162 rfl (lv_at hl 0 rfl) ?_
        refine lv_iadd hx hb dX11_beginRow_163 ?_
        refine g_topi (y := nI (256 * jn_153_4 + 4 * rn_ + 3)) (nI_add _ 3) ?_
        refine g_iald hx hb hK hP 1 0 rfl rfl (256 * jn_153_4 + 4 * rn_ + 3) (nI_clamp (Nat.lt_trans (show 256 * jn_153_4 + 4 * rn_ + 3 < 2048 from by omega) (by decide))) (vp_in_nI (by omega) (by decide)) dX11_beginRow_164 ?_
        refine lv_topi (fun tv_164_4 etv_164_4 => ?_)
        refine g_iast hx hb hK hP hD hS 5 0 rfl rfl 3 (by decide) (by unfold vp_in; decide) dX11_beginRow_165 (fun H locs hP hD hS => ?_)
        have hP : va_P (dC, dI) vwCl [(h, .inr (10, mdF qa x0 x2 x3 x4 x13 x14 x15 x16 jp_17 jp_18 0 0 ag_ x22 x23 x24 (-1) (-1) (-1))), (qa 11, .inl (cI, 2048, .inl g11)), (qa 12, .inl (cI, 128, .inl g12)), (qa 25, .inl (cZ, 8192, .inl u25_100)), (qa 46, .inl (cI, 4, .inl g46)), (qa 47, .inl (cI, 4, .inl (upd u47_165_3 3 tv_164_4)))] H := hP
        have hD : va_D A [(h, .inr (10, mdF qa x0 x2 x3 x4 x13 x14 x15 x16 jp_17 jp_18 0 0 ag_ x22 x23 x24 (-1) (-1) (-1))), (qa 11, .inl (cI, 2048, .inl g11)), (qa 12, .inl (cI, 128, .inl g12)), (qa 25, .inl (cZ, 8192, .inl u25_100)), (qa 46, .inl (cI, 4, .inl g46)), (qa 47, .inl (cI, 4, .inl (upd u47_165_3 3 tv_164_4)))] := hD
        generalize upd u47_165_3 3 tv_164_4 = u47_165_4 at hP hD
        refine lv_iinc (v := 4) (lv' := [(3, .int 4), (1, .int (nI (64 * pn_ + rn_))), (0, .ref h)]) hx hb dX11_beginRow_166 hl (k := 0) rfl (by decide) (by decide) rfl (fun ls hl => ?_)
        refine lv_goto (tgt := 128) hx hb dX11_beginRow_169 (by decide) ?_
        refine lv_iload_n hx hb dX11_beginRow_128 rfl (lv_at hl 0 rfl) ?_
        refine lv_iconst (v := 4) hx hb dX11_beginRow_129 (by decide) ?_
        refine lv_icmp_ge (tgt := 172) hx hb dX11_beginRow_130 (by decide) (fun c_130_5 => ?_) (fun c_130_5 => absurd c_130_5 (by decide))
        have hP9 := hP
        have hD9 := hD
        have hK9 := hK.sub (tys' := []) [] rfl
        exact W.vret hx hb hr (fun t ht hW => ⟨⟨_, rfl, ⟨jp_17, jp_18, 0, 0, ag_, (-1), (-1), (-1), u25_100, u47_165_4, rfl, h_jp_17, h_jp_18, (by unfold jmp; decide), (by unfold stp; decide), (by unfold stp; decide)⟩, by rw [ht]; exact hP9, va_K.moved hW.alike hK9, hD9⟩, hS.F ht⟩) hS.2.2 dX11_beginRow_172
      refine lv_iload_n hx hb dX11_beginRow_71 rfl (lv_at hl 0 rfl) ?_
      refine lv_if_ne (tgt := 94) hx hb dX11_beginRow_72 (by decide) (fun c_72 => ?_) (fun c_72 => ?_)
      · exact LP94 x21  _ _ hP hD hS _ (lv_sub hl [1, 2] rfl)
      refine lv_aload_n hx hb dX11_beginRow_75 rfl (lv_at hl 2 rfl) ?_
      refine va_get (D := (dC, dI)) (ci := 10) (v := .ref (qa 25)) (C := RX11) (T := TX11) (N := 53) hx hb hts iwX11 hown hK hP 0 rfl rfl 25 (by decide) (hts (.fieldLink RX11 46 "ModulePlayerModel" "begun" "[Z") (List.mem_cons_of_mem _ kw_184)) (fun _ h9 => h9) rfl dX11_beginRow_76 ?_
      refine lv_iload_n hx hb dX11_beginRow_79 rfl (lv_at hl 1 rfl) ?_
      refine g_zald hx hb hK hP 3 1 rfl rfl (64 * pn_ + rn_) (nI_clamp (Nat.lt_trans (show 64 * pn_ + rn_ < 8192 from by omega) (by decide))) (vp_in_nI (by omega) (by decide)) dX11_beginRow_80 ?_
      refine lv_topi (fun tv_80 etv_80 => ?_)
      refine lv_if_eq (tgt := 94) hx hb dX11_beginRow_81 (by decide) (fun c_81 => ?_) (fun c_81 => ?_)
      · exact LP94 x21  _ _ hP hD hS _ (lv_sub hl [1, 2] rfl)
      refine lv_aload_n hx hb dX11_beginRow_84 rfl (lv_at hl 2 rfl) ?_
      refine lv_dup hx hb dX11_beginRow_85 rfl ?_
      refine va_get (D := (dC, dI)) (ci := 10) (v := .int x21) (C := RX11) (T := TX11) (N := 53) hx hb hts iwX11 hown hK hP 0 rfl rfl 21 (by decide) (hts (.fieldLink RX11 218 "ModulePlayerModel" "again" "I") (List.mem_cons_of_mem _ kw_225)) (fun _ h9 => h9) rfl dX11_beginRow_86 ?_
      refine lv_iconst (v := 1) hx hb dX11_beginRow_89 (by decide) ?_
      refine lv_iadd hx hb dX11_beginRow_90 ?_
      refine lv_topi (fun tv_90 etv_90 => ?_)
      refine va_put (D := (dC, dI)) (ci := 10) (v := .int tv_90) (ty := tyX11 21) (C := RX11) (T := TX11) (N := 53) hx hb hts iwX11 tyX11 tyX11_ok nmX11 hown hK hP hD hS 0 rfl rfl 21 (by decide) (hts (.fieldLink RX11 218 "ModulePlayerModel" "again" "I") (List.mem_cons_of_mem _ kw_225)) (fun _ h9 => h9) rfl (by decide +kernel) (rfl) (rfl) (Nat.le_of_ble_eq_true rfl) dX11_beginRow_91 (fun H locs hP hD hS => ?_)
      have hP : va_P (dC, dI) vwCl [(h, .inr (10, mdF qa x0 x2 x3 x4 x13 x14 x15 x16 jp_17 jp_18 x19 x20 tv_90 x22 x23 x24 x26 x27 x28)), (qa 11, .inl (cI, 2048, .inl g11)), (qa 12, .inl (cI, 128, .inl g12)), (qa 25, .inl (cZ, 8192, .inl g25)), (qa 46, .inl (cI, 4, .inl g46)), (qa 47, .inl (cI, 4, .inl g47))] H := hP
      have hD : va_D A [(h, .inr (10, mdF qa x0 x2 x3 x4 x13 x14 x15 x16 jp_17 jp_18 x19 x20 tv_90 x22 x23 x24 x26 x27 x28)), (qa 11, .inl (cI, 2048, .inl g11)), (qa 12, .inl (cI, 128, .inl g12)), (qa 25, .inl (cZ, 8192, .inl g25)), (qa 46, .inl (cI, 4, .inl g46)), (qa 47, .inl (cI, 4, .inl g47))] := hD
      exact LP94 tv_90  _ _ hP hD hS _ (lv_sub hl [1, 2] rfl)
    refine lv_iconst (v := 0) hx hb dX11_beginRow_39 (by decide) ?_
    refine lv_istore_n (lv' := [(3, .int 0), (2, .int 0), (1, .int (nI (64 * pn_ + rn_))), (0, .ref h)]) hx hb dX11_beginRow_40 rfl hl (by decide) rfl (fun ls hl => ?_)
    refine lv_iload_n hx hb dX11_beginRow_41 rfl (lv_at hl 0 rfl) ?_
    refine lv_iconst (v := 4) hx hb dX11_beginRow_42 (by decide) ?_
    refine lv_icmp_ge (tgt := 71) hx hb dX11_beginRow_43 (by decide) (fun c_43 => absurd c_43 (by decide)) (fun c_43 => ?_)
    refine lv_iload_n hx hb dX11_beginRow_46 rfl (lv_at hl 1 rfl) ?_
    refine lv_if_ne (tgt := 59) hx hb dX11_beginRow_47 (by decide) (fun c_47 => absurd c_47 (by decide)) (fun c_47 => ?_)
    refine lv_aload_n hx hb dX11_beginRow_50 rfl (lv_at hl 3 rfl) ?_
    refine va_get (D := (dC, dI)) (ci := 10) (v := .ref (qa 46)) (C := RX11) (T := TX11) (N := 53) hx hb hts iwX11 hown hK hP 0 rfl rfl 46 (by decide) (hts (.fieldLink RX11 101 "ModulePlayerModel" "loopLeft" "[I") (List.mem_cons_of_mem _ kw_202)) (fun _ h9 => h9) rfl dX11_beginRow_51 ?_
    refine lv_iload_n hx hb dX11_beginRow_54 rfl (lv_at hl 0 rfl) ?_
    refine g_iald hx hb hK hP 4 0 rfl rfl 0 (by decide) (by unfold vp_in; decide) dX11_beginRow_55 ?_
    refine lv_topi (fun tv_55 etv_55 => ?_)
    refine lv_if_le (tgt := 63) hx hb dX11_beginRow_56 (by decide) (fun c_56 => ?_) (fun c_56 => ?_)
    · refine lv_iconst (v := 0) hx hb dX11_beginRow_63 (by decide) ?_
      refine lv_istore_n (lv' := [(2, .int 0), (3, .int 0), (1, .int (nI (64 * pn_ + rn_))), (0, .ref h)]) hx hb dX11_beginRow_64 rfl hl (by decide) rfl (fun ls hl => ?_)
      refine lv_iinc (v := 1) (lv' := [(3, .int 1), (2, .int 0), (1, .int (nI (64 * pn_ + rn_))), (0, .ref h)]) hx hb dX11_beginRow_65 hl (k := 1) rfl (by decide) (by decide) rfl (fun ls hl => ?_)
      refine lv_goto (tgt := 41) hx hb dX11_beginRow_68 (by decide) ?_
      refine lv_iload_n hx hb dX11_beginRow_41 rfl (lv_at hl 0 rfl) ?_
      refine lv_iconst (v := 4) hx hb dX11_beginRow_42 (by decide) ?_
      refine lv_icmp_ge (tgt := 71) hx hb dX11_beginRow_43 (by decide) (fun c_43_2 => absurd c_43_2 (by decide)) (fun c_43_2 => ?_)
      refine lv_iload_n hx hb dX11_beginRow_46 rfl (lv_at hl 1 rfl) ?_
      refine lv_if_ne (tgt := 59) hx hb dX11_beginRow_47 (by decide) (fun c_47_2 => absurd c_47_2 (by decide)) (fun c_47_2 => ?_)
      refine lv_aload_n hx hb dX11_beginRow_50 rfl (lv_at hl 3 rfl) ?_
      refine va_get (D := (dC, dI)) (ci := 10) (v := .ref (qa 46)) (C := RX11) (T := TX11) (N := 53) hx hb hts iwX11 hown hK hP 0 rfl rfl 46 (by decide) (hts (.fieldLink RX11 101 "ModulePlayerModel" "loopLeft" "[I") (List.mem_cons_of_mem _ kw_202)) (fun _ h9 => h9) rfl dX11_beginRow_51 ?_
      refine lv_iload_n hx hb dX11_beginRow_54 rfl (lv_at hl 0 rfl) ?_
      refine g_iald hx hb hK hP 4 0 rfl rfl 1 (by decide) (by unfold vp_in; decide) dX11_beginRow_55 ?_
      refine lv_topi (fun tv_55_2 etv_55_2 => ?_)
      refine lv_if_le (tgt := 63) hx hb dX11_beginRow_56 (by decide) (fun c_56_2 => ?_) (fun c_56_2 => ?_)
      · refine lv_iconst (v := 0) hx hb dX11_beginRow_63 (by decide) ?_
        refine lv_istore_n (lv' := [(2, .int 0), (3, .int 1), (1, .int (nI (64 * pn_ + rn_))), (0, .ref h)]) hx hb dX11_beginRow_64 rfl hl (by decide) rfl (fun ls hl => ?_)
        refine lv_iinc (v := 2) (lv' := [(3, .int 2), (2, .int 0), (1, .int (nI (64 * pn_ + rn_))), (0, .ref h)]) hx hb dX11_beginRow_65 hl (k := 1) rfl (by decide) (by decide) rfl (fun ls hl => ?_)
        refine lv_goto (tgt := 41) hx hb dX11_beginRow_68 (by decide) ?_
        refine lv_iload_n hx hb dX11_beginRow_41 rfl (lv_at hl 0 rfl) ?_
        refine lv_iconst (v := 4) hx hb dX11_beginRow_42 (by decide) ?_
        refine lv_icmp_ge (tgt := 71) hx hb dX11_beginRow_43 (by decide) (fun c_43_3 => absurd c_43_3 (by decide)) (fun c_43_3 => ?_)
        refine lv_iload_n hx hb dX11_beginRow_46 rfl (lv_at hl 1 rfl) ?_
        refine lv_if_ne (tgt := 59) hx hb dX11_beginRow_47 (by decide) (fun c_47_3 => absurd c_47_3 (by decide)) (fun c_47_3 => ?_)
        refine lv_aload_n hx hb dX11_beginRow_50 rfl (lv_at hl 3 rfl) ?_
        refine va_get (D := (dC, dI)) (ci := 10) (v := .ref (qa 46)) (C := RX11) (T := TX11) (N := 53) hx hb hts iwX11 hown hK hP 0 rfl rfl 46 (by decide) (hts (.fieldLink RX11 101 "ModulePlayerModel" "loopLeft" "[I") (List.mem_cons_of_mem _ kw_202)) (fun _ h9 => h9) rfl dX11_beginRow_51 ?_
        refine lv_iload_n hx hb dX11_beginRow_54 rfl (lv_at hl 0 rfl) ?_
        refine g_iald hx hb hK hP 4 0 rfl rfl 2 (by decide) (by unfold vp_in; decide) dX11_beginRow_55 ?_
        refine lv_topi (fun tv_55_3 etv_55_3 => ?_)
        refine lv_if_le (tgt := 63) hx hb dX11_beginRow_56 (by decide) (fun c_56_3 => ?_) (fun c_56_3 => ?_)
        · refine lv_iconst (v := 0) hx hb dX11_beginRow_63 (by decide) ?_
          refine lv_istore_n (lv' := [(2, .int 0), (3, .int 2), (1, .int (nI (64 * pn_ + rn_))), (0, .ref h)]) hx hb dX11_beginRow_64 rfl hl (by decide) rfl (fun ls hl => ?_)
          refine lv_iinc (v := 3) (lv' := [(3, .int 3), (2, .int 0), (1, .int (nI (64 * pn_ + rn_))), (0, .ref h)]) hx hb dX11_beginRow_65 hl (k := 1) rfl (by decide) (by decide) rfl (fun ls hl => ?_)
          refine lv_goto (tgt := 41) hx hb dX11_beginRow_68 (by decide) ?_
          refine lv_iload_n hx hb dX11_beginRow_41 rfl (lv_at hl 0 rfl) ?_
          refine lv_iconst (v := 4) hx hb dX11_beginRow_42 (by decide) ?_
          refine lv_icmp_ge (tgt := 71) hx hb dX11_beginRow_43 (by decide) (fun c_43_4 => absurd c_43_4 (by decide)) (fun c_43_4 => ?_)
          refine lv_iload_n hx hb dX11_beginRow_46 rfl (lv_at hl 1 rfl) ?_
          refine lv_if_ne (tgt := 59) hx hb dX11_beginRow_47 (by decide) (fun c_47_4 => absurd c_47_4 (by decide)) (fun c_47_4 => ?_)
          refine lv_aload_n hx hb dX11_beginRow_50 rfl (lv_at hl 3 rfl) ?_
          refine va_get (D := (dC, dI)) (ci := 10) (v := .ref (qa 46)) (C := RX11) (T := TX11) (N := 53) hx hb hts iwX11 hown hK hP 0 rfl rfl 46 (by decide) (hts (.fieldLink RX11 101 "ModulePlayerModel" "loopLeft" "[I") (List.mem_cons_of_mem _ kw_202)) (fun _ h9 => h9) rfl dX11_beginRow_51 ?_
          refine lv_iload_n hx hb dX11_beginRow_54 rfl (lv_at hl 0 rfl) ?_
          refine g_iald hx hb hK hP 4 0 rfl rfl 3 (by decide) (by unfold vp_in; decide) dX11_beginRow_55 ?_
          refine lv_topi (fun tv_55_4 etv_55_4 => ?_)
          refine lv_if_le (tgt := 63) hx hb dX11_beginRow_56 (by decide) (fun c_56_4 => ?_) (fun c_56_4 => ?_)
          · refine lv_iconst (v := 0) hx hb dX11_beginRow_63 (by decide) ?_
            refine lv_istore_n (lv' := [(2, .int 0), (3, .int 3), (1, .int (nI (64 * pn_ + rn_))), (0, .ref h)]) hx hb dX11_beginRow_64 rfl hl (by decide) rfl (fun ls hl => ?_)
            refine lv_iinc (v := 4) (lv' := [(3, .int 4), (2, .int 0), (1, .int (nI (64 * pn_ + rn_))), (0, .ref h)]) hx hb dX11_beginRow_65 hl (k := 1) rfl (by decide) (by decide) rfl (fun ls hl => ?_)
            refine lv_goto (tgt := 41) hx hb dX11_beginRow_68 (by decide) ?_
            refine lv_iload_n hx hb dX11_beginRow_41 rfl (lv_at hl 0 rfl) ?_
            refine lv_iconst (v := 4) hx hb dX11_beginRow_42 (by decide) ?_
            refine lv_icmp_ge (tgt := 71) hx hb dX11_beginRow_43 (by decide) (fun c_43_5 => ?_) (fun c_43_5 => absurd c_43_5 (by decide))
            exact LP71 0  _ _ hP hD hS _ (lv_sub hl [1, 2, 3] rfl)
          refine lv_iconst (v := 1) hx hb dX11_beginRow_59 (by decide) ?_
          refine lv_goto (tgt := 64) hx hb dX11_beginRow_60 (by decide) ?_
          refine lv_istore_n (lv' := [(2, .int 1), (3, .int 3), (1, .int (nI (64 * pn_ + rn_))), (0, .ref h)]) hx hb dX11_beginRow_64 rfl hl (by decide) rfl (fun ls hl => ?_)
          refine lv_iinc (v := 4) (lv' := [(3, .int 4), (2, .int 1), (1, .int (nI (64 * pn_ + rn_))), (0, .ref h)]) hx hb dX11_beginRow_65 hl (k := 1) rfl (by decide) (by decide) rfl (fun ls hl => ?_)
          refine lv_goto (tgt := 41) hx hb dX11_beginRow_68 (by decide) ?_
          refine lv_iload_n hx hb dX11_beginRow_41 rfl (lv_at hl 0 rfl) ?_
          refine lv_iconst (v := 4) hx hb dX11_beginRow_42 (by decide) ?_
          refine lv_icmp_ge (tgt := 71) hx hb dX11_beginRow_43 (by decide) (fun c_43_5 => ?_) (fun c_43_5 => absurd c_43_5 (by decide))
          exact LP71 1  _ _ hP hD hS _ (lv_sub hl [1, 2, 3] rfl)
        refine lv_iconst (v := 1) hx hb dX11_beginRow_59 (by decide) ?_
        refine lv_goto (tgt := 64) hx hb dX11_beginRow_60 (by decide) ?_
        refine lv_istore_n (lv' := [(2, .int 1), (3, .int 2), (1, .int (nI (64 * pn_ + rn_))), (0, .ref h)]) hx hb dX11_beginRow_64 rfl hl (by decide) rfl (fun ls hl => ?_)
        refine lv_iinc (v := 3) (lv' := [(3, .int 3), (2, .int 1), (1, .int (nI (64 * pn_ + rn_))), (0, .ref h)]) hx hb dX11_beginRow_65 hl (k := 1) rfl (by decide) (by decide) rfl (fun ls hl => ?_)
        refine lv_goto (tgt := 41) hx hb dX11_beginRow_68 (by decide) ?_
        refine lv_iload_n hx hb dX11_beginRow_41 rfl (lv_at hl 0 rfl) ?_
        refine lv_iconst (v := 4) hx hb dX11_beginRow_42 (by decide) ?_
        refine lv_icmp_ge (tgt := 71) hx hb dX11_beginRow_43 (by decide) (fun c_43_4 => absurd c_43_4 (by decide)) (fun c_43_4 => ?_)
        refine lv_iload_n hx hb dX11_beginRow_46 rfl (lv_at hl 1 rfl) ?_
        refine lv_if_ne (tgt := 59) hx hb dX11_beginRow_47 (by decide) (fun c_47_4 => ?_) (fun c_47_4 => absurd c_47_4 (by decide))
        refine lv_iconst (v := 1) hx hb dX11_beginRow_59 (by decide) ?_
        refine lv_goto (tgt := 64) hx hb dX11_beginRow_60 (by decide) ?_
        refine lv_istore_n (lv' := [(2, .int 1), (3, .int 3), (1, .int (nI (64 * pn_ + rn_))), (0, .ref h)]) hx hb dX11_beginRow_64 rfl hl (by decide) rfl (fun ls hl => ?_)
        refine lv_iinc (v := 4) (lv' := [(3, .int 4), (2, .int 1), (1, .int (nI (64 * pn_ + rn_))), (0, .ref h)]) hx hb dX11_beginRow_65 hl (k := 1) rfl (by decide) (by decide) rfl (fun ls hl => ?_)
        refine lv_goto (tgt := 41) hx hb dX11_beginRow_68 (by decide) ?_
        refine lv_iload_n hx hb dX11_beginRow_41 rfl (lv_at hl 0 rfl) ?_
        refine lv_iconst (v := 4) hx hb dX11_beginRow_42 (by decide) ?_
        refine lv_icmp_ge (tgt := 71) hx hb dX11_beginRow_43 (by decide) (fun c_43_5 => ?_) (fun c_43_5 => absurd c_43_5 (by decide))
        exact LP71 1  _ _ hP hD hS _ (lv_sub hl [1, 2, 3] rfl)
      refine lv_iconst (v := 1) hx hb dX11_beginRow_59 (by decide) ?_
      refine lv_goto (tgt := 64) hx hb dX11_beginRow_60 (by decide) ?_
      refine lv_istore_n (lv' := [(2, .int 1), (3, .int 1), (1, .int (nI (64 * pn_ + rn_))), (0, .ref h)]) hx hb dX11_beginRow_64 rfl hl (by decide) rfl (fun ls hl => ?_)
      refine lv_iinc (v := 2) (lv' := [(3, .int 2), (2, .int 1), (1, .int (nI (64 * pn_ + rn_))), (0, .ref h)]) hx hb dX11_beginRow_65 hl (k := 1) rfl (by decide) (by decide) rfl (fun ls hl => ?_)
      refine lv_goto (tgt := 41) hx hb dX11_beginRow_68 (by decide) ?_
      refine lv_iload_n hx hb dX11_beginRow_41 rfl (lv_at hl 0 rfl) ?_
      refine lv_iconst (v := 4) hx hb dX11_beginRow_42 (by decide) ?_
      refine lv_icmp_ge (tgt := 71) hx hb dX11_beginRow_43 (by decide) (fun c_43_3 => absurd c_43_3 (by decide)) (fun c_43_3 => ?_)
      refine lv_iload_n hx hb dX11_beginRow_46 rfl (lv_at hl 1 rfl) ?_
      refine lv_if_ne (tgt := 59) hx hb dX11_beginRow_47 (by decide) (fun c_47_3 => ?_) (fun c_47_3 => absurd c_47_3 (by decide))
      refine lv_iconst (v := 1) hx hb dX11_beginRow_59 (by decide) ?_
      refine lv_goto (tgt := 64) hx hb dX11_beginRow_60 (by decide) ?_
      refine lv_istore_n (lv' := [(2, .int 1), (3, .int 2), (1, .int (nI (64 * pn_ + rn_))), (0, .ref h)]) hx hb dX11_beginRow_64 rfl hl (by decide) rfl (fun ls hl => ?_)
      refine lv_iinc (v := 3) (lv' := [(3, .int 3), (2, .int 1), (1, .int (nI (64 * pn_ + rn_))), (0, .ref h)]) hx hb dX11_beginRow_65 hl (k := 1) rfl (by decide) (by decide) rfl (fun ls hl => ?_)
      refine lv_goto (tgt := 41) hx hb dX11_beginRow_68 (by decide) ?_
      refine lv_iload_n hx hb dX11_beginRow_41 rfl (lv_at hl 0 rfl) ?_
      refine lv_iconst (v := 4) hx hb dX11_beginRow_42 (by decide) ?_
      refine lv_icmp_ge (tgt := 71) hx hb dX11_beginRow_43 (by decide) (fun c_43_4 => absurd c_43_4 (by decide)) (fun c_43_4 => ?_)
      refine lv_iload_n hx hb dX11_beginRow_46 rfl (lv_at hl 1 rfl) ?_
      refine lv_if_ne (tgt := 59) hx hb dX11_beginRow_47 (by decide) (fun c_47_4 => ?_) (fun c_47_4 => absurd c_47_4 (by decide))
      refine lv_iconst (v := 1) hx hb dX11_beginRow_59 (by decide) ?_
      refine lv_goto (tgt := 64) hx hb dX11_beginRow_60 (by decide) ?_
      refine lv_istore_n (lv' := [(2, .int 1), (3, .int 3), (1, .int (nI (64 * pn_ + rn_))), (0, .ref h)]) hx hb dX11_beginRow_64 rfl hl (by decide) rfl (fun ls hl => ?_)
      refine lv_iinc (v := 4) (lv' := [(3, .int 4), (2, .int 1), (1, .int (nI (64 * pn_ + rn_))), (0, .ref h)]) hx hb dX11_beginRow_65 hl (k := 1) rfl (by decide) (by decide) rfl (fun ls hl => ?_)
      refine lv_goto (tgt := 41) hx hb dX11_beginRow_68 (by decide) ?_
      refine lv_iload_n hx hb dX11_beginRow_41 rfl (lv_at hl 0 rfl) ?_
      refine lv_iconst (v := 4) hx hb dX11_beginRow_42 (by decide) ?_
      refine lv_icmp_ge (tgt := 71) hx hb dX11_beginRow_43 (by decide) (fun c_43_5 => ?_) (fun c_43_5 => absurd c_43_5 (by decide))
      exact LP71 1  _ _ hP hD hS _ (lv_sub hl [1, 2, 3] rfl)
    refine lv_iconst (v := 1) hx hb dX11_beginRow_59 (by decide) ?_
    refine lv_goto (tgt := 64) hx hb dX11_beginRow_60 (by decide) ?_
    refine lv_istore_n (lv' := [(2, .int 1), (3, .int 0), (1, .int (nI (64 * pn_ + rn_))), (0, .ref h)]) hx hb dX11_beginRow_64 rfl hl (by decide) rfl (fun ls hl => ?_)
    refine lv_iinc (v := 1) (lv' := [(3, .int 1), (2, .int 1), (1, .int (nI (64 * pn_ + rn_))), (0, .ref h)]) hx hb dX11_beginRow_65 hl (k := 1) rfl (by decide) (by decide) rfl (fun ls hl => ?_)
    refine lv_goto (tgt := 41) hx hb dX11_beginRow_68 (by decide) ?_
    refine lv_iload_n hx hb dX11_beginRow_41 rfl (lv_at hl 0 rfl) ?_
    refine lv_iconst (v := 4) hx hb dX11_beginRow_42 (by decide) ?_
    refine lv_icmp_ge (tgt := 71) hx hb dX11_beginRow_43 (by decide) (fun c_43_2 => absurd c_43_2 (by decide)) (fun c_43_2 => ?_)
    refine lv_iload_n hx hb dX11_beginRow_46 rfl (lv_at hl 1 rfl) ?_
    refine lv_if_ne (tgt := 59) hx hb dX11_beginRow_47 (by decide) (fun c_47_2 => ?_) (fun c_47_2 => absurd c_47_2 (by decide))
    refine lv_iconst (v := 1) hx hb dX11_beginRow_59 (by decide) ?_
    refine lv_goto (tgt := 64) hx hb dX11_beginRow_60 (by decide) ?_
    refine lv_istore_n (lv' := [(2, .int 1), (3, .int 1), (1, .int (nI (64 * pn_ + rn_))), (0, .ref h)]) hx hb dX11_beginRow_64 rfl hl (by decide) rfl (fun ls hl => ?_)
    refine lv_iinc (v := 2) (lv' := [(3, .int 2), (2, .int 1), (1, .int (nI (64 * pn_ + rn_))), (0, .ref h)]) hx hb dX11_beginRow_65 hl (k := 1) rfl (by decide) (by decide) rfl (fun ls hl => ?_)
    refine lv_goto (tgt := 41) hx hb dX11_beginRow_68 (by decide) ?_
    refine lv_iload_n hx hb dX11_beginRow_41 rfl (lv_at hl 0 rfl) ?_
    refine lv_iconst (v := 4) hx hb dX11_beginRow_42 (by decide) ?_
    refine lv_icmp_ge (tgt := 71) hx hb dX11_beginRow_43 (by decide) (fun c_43_3 => absurd c_43_3 (by decide)) (fun c_43_3 => ?_)
    refine lv_iload_n hx hb dX11_beginRow_46 rfl (lv_at hl 1 rfl) ?_
    refine lv_if_ne (tgt := 59) hx hb dX11_beginRow_47 (by decide) (fun c_47_3 => ?_) (fun c_47_3 => absurd c_47_3 (by decide))
    refine lv_iconst (v := 1) hx hb dX11_beginRow_59 (by decide) ?_
    refine lv_goto (tgt := 64) hx hb dX11_beginRow_60 (by decide) ?_
    refine lv_istore_n (lv' := [(2, .int 1), (3, .int 2), (1, .int (nI (64 * pn_ + rn_))), (0, .ref h)]) hx hb dX11_beginRow_64 rfl hl (by decide) rfl (fun ls hl => ?_)
    refine lv_iinc (v := 3) (lv' := [(3, .int 3), (2, .int 1), (1, .int (nI (64 * pn_ + rn_))), (0, .ref h)]) hx hb dX11_beginRow_65 hl (k := 1) rfl (by decide) (by decide) rfl (fun ls hl => ?_)
    refine lv_goto (tgt := 41) hx hb dX11_beginRow_68 (by decide) ?_
    refine lv_iload_n hx hb dX11_beginRow_41 rfl (lv_at hl 0 rfl) ?_
    refine lv_iconst (v := 4) hx hb dX11_beginRow_42 (by decide) ?_
    refine lv_icmp_ge (tgt := 71) hx hb dX11_beginRow_43 (by decide) (fun c_43_4 => absurd c_43_4 (by decide)) (fun c_43_4 => ?_)
    refine lv_iload_n hx hb dX11_beginRow_46 rfl (lv_at hl 1 rfl) ?_
    refine lv_if_ne (tgt := 59) hx hb dX11_beginRow_47 (by decide) (fun c_47_4 => ?_) (fun c_47_4 => absurd c_47_4 (by decide))
    refine lv_iconst (v := 1) hx hb dX11_beginRow_59 (by decide) ?_
    refine lv_goto (tgt := 64) hx hb dX11_beginRow_60 (by decide) ?_
    refine lv_istore_n (lv' := [(2, .int 1), (3, .int 3), (1, .int (nI (64 * pn_ + rn_))), (0, .ref h)]) hx hb dX11_beginRow_64 rfl hl (by decide) rfl (fun ls hl => ?_)
    refine lv_iinc (v := 4) (lv' := [(3, .int 4), (2, .int 1), (1, .int (nI (64 * pn_ + rn_))), (0, .ref h)]) hx hb dX11_beginRow_65 hl (k := 1) rfl (by decide) (by decide) rfl (fun ls hl => ?_)
    refine lv_goto (tgt := 41) hx hb dX11_beginRow_68 (by decide) ?_
    refine lv_iload_n hx hb dX11_beginRow_41 rfl (lv_at hl 0 rfl) ?_
    refine lv_iconst (v := 4) hx hb dX11_beginRow_42 (by decide) ?_
    refine lv_icmp_ge (tgt := 71) hx hb dX11_beginRow_43 (by decide) (fun c_43_5 => ?_) (fun c_43_5 => absurd c_43_5 (by decide))
    exact LP71 1  _ _ hP hD hS _ (lv_sub hl [1, 2, 3] rfl)
  refine lv_aload_n hx hb dX11_beginRow_0 rfl (lv_at hl 0 rfl) ?_
  refine va_get (D := (dC, dI)) (ci := 10) (v := .int x23) (C := RX11) (T := TX11) (N := 53) hx hb hts iwX11 hown hK hP 0 rfl rfl 23 (by decide) (hts (.fieldLink RX11 224 "ModulePlayerModel" "ticks" "I") (List.mem_cons_of_mem _ kw_227)) (fun _ h9 => h9) rfl dX11_beginRow_1 ?_
  refine lv_if_ne (tgt := 20) hx hb dX11_beginRow_4 (by decide) (fun c_4 => ?_) (fun c_4 => ?_)
  · rcases hpr with hp0 | ⟨h_x17, h_x18, h_x26, h_x27, h_x28⟩
    · exact absurd hp0 c_4
    refine lv_aload_n hx hb dX11_beginRow_20 rfl (lv_at hl 0 rfl) ?_
    refine g_callv (wr := [(qa 11, .inl (cI, 2048, .inl g11)), (qa 12, .inl (cI, 128, .inl g12)), (qa 25, .inl (cZ, 8192, .inl g25)), (qa 46, .inl (cI, 4, .inl g46)), (qa 47, .inl (cI, 4, .inl g47))]) (va_runV (As := []) (rest := []) ⟨hx, hb, hml, hown, hts⟩ (m_goOn l dC dI H.size h qa x0 x2 x3 x4 x13 x14 x15 x16 x17 x18 x19 x20 x21 x22 x23 x24 x26 x27 x28 (h_x13) (h_x14) (h_x17) (h_x18) (h_x26) (h_x27) (h_x28)) (cwV 0 hts (gG_V kw_844 kw_845 kw_846 kw_5 kw_847) rfl rfl rfl (by decide +kernel) ⟨Nat.le_of_ble_eq_true rfl, Nat.le_of_ble_eq_true rfl⟩) (g_preV (C := RX11) (T := TX11) (N := 53) hP hD hK hS hA hN hZ (q0 := 0) rfl rfl [0] (by decide +kernel) rfl [] rfl) rfl rfl hl.1 rfl (lv_room (Nat.le_of_ble_eq_true rfl)) dX11_beginRow_21 ⟨Nat.le_of_ble_eq_true rfl, Nat.le_of_ble_eq_true rfl⟩) hP hD hK hS hA [0] [1, 2, 3, 4, 5] rfl rfl (by decide +kernel) (by decide +kernel) (fun w ty1 H locs hw_21 hP hD _ hS => ?_)
    rcases hw_21 with ⟨y17_21, y18_21, hu, h_y17_21, h_y18_21⟩
    cases hu
    have hP : va_P (dC, dI) vwCl [(qa 11, .inl (cI, 2048, .inl g11)), (qa 12, .inl (cI, 128, .inl g12)), (qa 25, .inl (cZ, 8192, .inl g25)), (qa 46, .inl (cI, 4, .inl g46)), (qa 47, .inl (cI, 4, .inl g47)), (h, .inr (10, mdF qa x0 x2 x3 x4 x13 x14 x15 x16 y17_21 y18_21 x19 x20 x21 x22 x23 x24 x26 x27 x28))] H := hP
    have hD : va_D A [(qa 11, .inl (cI, 2048, .inl g11)), (qa 12, .inl (cI, 128, .inl g12)), (qa 25, .inl (cZ, 8192, .inl g25)), (qa 46, .inl (cI, 4, .inl g46)), (qa 47, .inl (cI, 4, .inl g47)), (h, .inr (10, mdF qa x0 x2 x3 x4 x13 x14 x15 x16 y17_21 y18_21 x19 x20 x21 x22 x23 x24 x26 x27 x28))] := hD
    exact LP24 y17_21 y18_21 (h_y17_21) (h_y18_21) _ _ (hP.sub [5, 0, 1, 2, 3, 4] rfl) (hD.sub [5, 0, 1, 2, 3, 4] (by decide +kernel) rfl) hS _ (lv_sub hl [0] rfl)
  refine lv_aload_n hx hb dX11_beginRow_7 rfl (lv_at hl 0 rfl) ?_
  refine lv_iconst (v := 0) hx hb dX11_beginRow_8 (by decide) ?_
  refine va_put (D := (dC, dI)) (ci := 10) (v := .int 0) (ty := tyX11 17) (C := RX11) (T := TX11) (N := 53) hx hb hts iwX11 tyX11 tyX11_ok nmX11 hown hK hP hD hS 0 rfl rfl 17 (by decide) (hts (.fieldLink RX11 203 "ModulePlayerModel" "place" "I") (List.mem_cons_of_mem _ kw_220)) (fun _ h9 => h9) rfl (by decide +kernel) (rfl) (rfl) (Nat.le_of_ble_eq_true rfl) dX11_beginRow_9 (fun H locs hP hD hS => ?_)
  have hP : va_P (dC, dI) vwCl [(h, .inr (10, mdF qa x0 x2 x3 x4 x13 x14 x15 x16 0 x18 x19 x20 x21 x22 x23 x24 x26 x27 x28)), (qa 11, .inl (cI, 2048, .inl g11)), (qa 12, .inl (cI, 128, .inl g12)), (qa 25, .inl (cZ, 8192, .inl g25)), (qa 46, .inl (cI, 4, .inl g46)), (qa 47, .inl (cI, 4, .inl g47))] H := hP
  have hD : va_D A [(h, .inr (10, mdF qa x0 x2 x3 x4 x13 x14 x15 x16 0 x18 x19 x20 x21 x22 x23 x24 x26 x27 x28)), (qa 11, .inl (cI, 2048, .inl g11)), (qa 12, .inl (cI, 128, .inl g12)), (qa 25, .inl (cZ, 8192, .inl g25)), (qa 46, .inl (cI, 4, .inl g46)), (qa 47, .inl (cI, 4, .inl g47))] := hD
  refine lv_aload_n hx hb dX11_beginRow_12 rfl (lv_at hl 0 rfl) ?_
  refine lv_iconst (v := 0) hx hb dX11_beginRow_13 (by decide) ?_
  refine va_put (D := (dC, dI)) (ci := 10) (v := .int 0) (ty := tyX11 18) (C := RX11) (T := TX11) (N := 53) hx hb hts iwX11 tyX11 tyX11_ok nmX11 hown hK hP hD hS 0 rfl rfl 18 (by decide) (hts (.fieldLink RX11 206 "ModulePlayerModel" "row" "I") (List.mem_cons_of_mem _ kw_221)) (fun _ h9 => h9) rfl (by decide +kernel) (rfl) (rfl) (Nat.le_of_ble_eq_true rfl) dX11_beginRow_14 (fun H locs hP hD hS => ?_)
  have hP : va_P (dC, dI) vwCl [(h, .inr (10, mdF qa x0 x2 x3 x4 x13 x14 x15 x16 0 0 x19 x20 x21 x22 x23 x24 x26 x27 x28)), (qa 11, .inl (cI, 2048, .inl g11)), (qa 12, .inl (cI, 128, .inl g12)), (qa 25, .inl (cZ, 8192, .inl g25)), (qa 46, .inl (cI, 4, .inl g46)), (qa 47, .inl (cI, 4, .inl g47))] H := hP
  have hD : va_D A [(h, .inr (10, mdF qa x0 x2 x3 x4 x13 x14 x15 x16 0 0 x19 x20 x21 x22 x23 x24 x26 x27 x28)), (qa 11, .inl (cI, 2048, .inl g11)), (qa 12, .inl (cI, 128, .inl g12)), (qa 25, .inl (cZ, 8192, .inl g25)), (qa 46, .inl (cI, 4, .inl g46)), (qa 47, .inl (cI, 4, .inl g47))] := hD
  refine lv_goto (tgt := 24) hx hb dX11_beginRow_17 (by decide) ?_
  exact LP24 0 0 (by unfold rg1; decide) (by unfold rg1; decide) _ _ hP hD hS _ (lv_sub hl [0] rfl)

set_option maxHeartbeats 400000 in
set_option maxRecDepth 100000 in
theorem m_oneTick (l : Launch) (dC : Nat → ClassId) (dI : Nat → Nat → Nat) (sz : Nat) (h : Nat) (qa : Nat → Nat) (x2 x3 x4 x13 x14 x15 x16 x17 x18 x19 x20 x21 x22 x23 x24 x26 x27 x28 : Int32) (cI cB cZ cJ : ClassId) (g5 g6 g7 g8 g9 g10 g11 g12 g25 g29 g30 g31 g32 g33 g34 g35 g36 g37 g38 g39 g40 g41 g42 g43 g44 g45 g46 g47 g48 g49 g51 g52 : Nat → Int32) (g50 : Nat → Int64) (kk : Nat) (hk1 : 2000 ≤ kk) (hk2 : kk ≤ 16000) (hpr : prOk x23 x17 x18 x26 x27 x28) (r_g5 : rg 32 0 2000 g5) (r_g8 : rg 32 0 131070 g8) (r_g9 : rg 32 0 131070 g9) (r_g12 : rg 128 0 7 g12) (r_g31 : rg 4 0 31 g31) (r_g34 : rg 4 0 856 g34) (r_g36 : rg 4 0 856 g36) (r_g37 : rg 4 0 255 g37) (r_g44 : rg 4 0 255 g44) (r_g45 : rg 4 0 63 g45) (r_g48 : rg 4 0 2147483647 g48) (r_g50 : rgL 4 0 1099511627776 g50) (h_x13 : plc x13) (h_x14 : rst x14) (h_x16 : tmo x16) : Met l yX11_oneTick (wsG (.code yX11_oneTick cX11_oneTick 2 none)) ({ frames := 6, cells := 0, slots := 0, locals := 127 }) (va_Pc [.ref h] (gP (dC, dI) [(cI, .int), (cB, .byte), (cZ, .boolean), (cJ, .long)] [(h, .inr (10, mdF qa (nI kk) x2 x3 x4 x13 x14 x15 x16 x17 x18 x19 x20 x21 x22 x23 x24 x26 x27 x28)), (qa 5, .inl (cI, 32, .inl g5)), (qa 6, .inl (cI, 32, .inl g6)), (qa 7, .inl (cI, 32, .inl g7)), (qa 8, .inl (cI, 32, .inl g8)), (qa 9, .inl (cI, 32, .inl g9)), (qa 10, .inl (cB, 64000, .inl g10)), (qa 11, .inl (cI, 2048, .inl g11)), (qa 12, .inl (cI, 128, .inl g12)), (qa 25, .inl (cZ, 8192, .inl g25)), (qa 29, .inl (cI, 1300, .inl g29)), (qa 30, .inl (cI, 1300, .inl g30)), (qa 31, .inl (cI, 4, .inl g31)), (qa 32, .inl (cI, 4, .inl g32)), (qa 33, .inl (cI, 4, .inl g33)), (qa 34, .inl (cI, 4, .inl g34)), (qa 35, .inl (cI, 4, .inl g35)), (qa 36, .inl (cI, 4, .inl g36)), (qa 37, .inl (cI, 4, .inl g37)), (qa 38, .inl (cI, 4, .inl g38)), (qa 39, .inl (cI, 4, .inl g39)), (qa 40, .inl (cI, 4, .inl g40)), (qa 41, .inl (cI, 4, .inl g41)), (qa 42, .inl (cI, 4, .inl g42)), (qa 43, .inl (cI, 4, .inl g43)), (qa 44, .inl (cI, 4, .inl g44)), (qa 45, .inl (cI, 4, .inl g45)), (qa 46, .inl (cI, 4, .inl g46)), (qa 47, .inl (cI, 4, .inl g47)), (qa 48, .inl (cI, 4, .inl g48)), (qa 49, .inl (cI, 4, .inl g49)), (qa 50, .inl (cJ, 4, .inr (.inl g50))), (qa 51, .inl (cZ, 4, .inl g51)), (qa 52, .inl (cZ, 4, .inl g52))] sz)) (va_Qv (fun u : va_W × gT => ∃ (y15 : Int32) (y16 : Int32) (y17 : Int32) (y18 : Int32) (y19 : Int32) (y20 : Int32) (y21 : Int32) (y22 : Int32) (y24 : Int32) (y26 : Int32) (y27 : Int32) (y28 : Int32) (k25 : Nat → Int32) (k29 : Nat → Int32) (k30 : Nat → Int32) (k31 : Nat → Int32) (k32 : Nat → Int32) (k33 : Nat → Int32) (k34 : Nat → Int32) (k35 : Nat → Int32) (k36 : Nat → Int32) (k37 : Nat → Int32) (k38 : Nat → Int32) (k39 : Nat → Int32) (k40 : Nat → Int32) (k41 : Nat → Int32) (k42 : Nat → Int32) (k43 : Nat → Int32) (k44 : Nat → Int32) (k45 : Nat → Int32) (k46 : Nat → Int32) (k47 : Nat → Int32) (k48 : Nat → Int32) (k49 : Nat → Int32) (k51 : Nat → Int32) (k50 : Nat → Int64), u = ([(h, .inr (10, mdF qa (nI kk) x2 x3 x4 x13 x14 y15 y16 y17 y18 y19 y20 y21 y22 (x23 + 1) y24 y26 y27 y28)), (qa 5, .inl (cI, 32, .inl g5)), (qa 6, .inl (cI, 32, .inl g6)), (qa 7, .inl (cI, 32, .inl g7)), (qa 8, .inl (cI, 32, .inl g8)), (qa 9, .inl (cI, 32, .inl g9)), (qa 10, .inl (cB, 64000, .inl g10)), (qa 11, .inl (cI, 2048, .inl g11)), (qa 12, .inl (cI, 128, .inl g12)), (qa 25, .inl (cZ, 8192, .inl k25)), (qa 29, .inl (cI, 1300, .inl k29)), (qa 30, .inl (cI, 1300, .inl k30)), (qa 31, .inl (cI, 4, .inl k31)), (qa 32, .inl (cI, 4, .inl k32)), (qa 33, .inl (cI, 4, .inl k33)), (qa 34, .inl (cI, 4, .inl k34)), (qa 35, .inl (cI, 4, .inl k35)), (qa 36, .inl (cI, 4, .inl k36)), (qa 37, .inl (cI, 4, .inl k37)), (qa 38, .inl (cI, 4, .inl k38)), (qa 39, .inl (cI, 4, .inl k39)), (qa 40, .inl (cI, 4, .inl k40)), (qa 41, .inl (cI, 4, .inl k41)), (qa 42, .inl (cI, 4, .inl k42)), (qa 43, .inl (cI, 4, .inl k43)), (qa 44, .inl (cI, 4, .inl k44)), (qa 45, .inl (cI, 4, .inl k45)), (qa 46, .inl (cI, 4, .inl k46)), (qa 47, .inl (cI, 4, .inl k47)), (qa 48, .inl (cI, 4, .inl k48)), (qa 49, .inl (cI, 4, .inl k49)), (qa 50, .inl (cJ, 4, .inr (.inl k50))), (qa 51, .inl (cZ, 4, .inl k51)), (qa 52, .inl (cZ, 4, .inl g52))], []) ∧ prOk (x23 + 1) y17 y18 y26 y27 y28 ∧ rg 4 0 31 k31 ∧ rg 4 0 856 k34 ∧ rg 4 0 856 k36 ∧ rg 4 0 255 k37 ∧ rg 4 0 255 k44 ∧ rg 4 0 63 k45 ∧ rg 4 0 2147483647 k48 ∧ rgL 4 0 1099511627776 k50 ∧ tmo y16 ∧ frm y24) (gB (dC, dI) (va_A [(h, .inr (10, mdF qa (nI kk) x2 x3 x4 x13 x14 x15 x16 x17 x18 x19 x20 x21 x22 x23 x24 x26 x27 x28)), (qa 5, .inl (cI, 32, .inl g5)), (qa 6, .inl (cI, 32, .inl g6)), (qa 7, .inl (cI, 32, .inl g7)), (qa 8, .inl (cI, 32, .inl g8)), (qa 9, .inl (cI, 32, .inl g9)), (qa 10, .inl (cB, 64000, .inl g10)), (qa 11, .inl (cI, 2048, .inl g11)), (qa 12, .inl (cI, 128, .inl g12)), (qa 25, .inl (cZ, 8192, .inl g25)), (qa 29, .inl (cI, 1300, .inl g29)), (qa 30, .inl (cI, 1300, .inl g30)), (qa 31, .inl (cI, 4, .inl g31)), (qa 32, .inl (cI, 4, .inl g32)), (qa 33, .inl (cI, 4, .inl g33)), (qa 34, .inl (cI, 4, .inl g34)), (qa 35, .inl (cI, 4, .inl g35)), (qa 36, .inl (cI, 4, .inl g36)), (qa 37, .inl (cI, 4, .inl g37)), (qa 38, .inl (cI, 4, .inl g38)), (qa 39, .inl (cI, 4, .inl g39)), (qa 40, .inl (cI, 4, .inl g40)), (qa 41, .inl (cI, 4, .inl g41)), (qa 42, .inl (cI, 4, .inl g42)), (qa 43, .inl (cI, 4, .inl g43)), (qa 44, .inl (cI, 4, .inl g44)), (qa 45, .inl (cI, 4, .inl g45)), (qa 46, .inl (cI, 4, .inl g46)), (qa 47, .inl (cI, 4, .inl g47)), (qa 48, .inl (cI, 4, .inl g48)), (qa 49, .inl (cI, 4, .inl g49)), (qa 50, .inl (cJ, 4, .inr (.inl g50))), (qa 51, .inl (cZ, 4, .inl g51)), (qa 52, .inl (cZ, 4, .inl g52))] sz)) (va_A [(h, .inr (10, mdF qa (nI kk) x2 x3 x4 x13 x14 x15 x16 x17 x18 x19 x20 x21 x22 x23 x24 x26 x27 x28)), (qa 5, .inl (cI, 32, .inl g5)), (qa 6, .inl (cI, 32, .inl g6)), (qa 7, .inl (cI, 32, .inl g7)), (qa 8, .inl (cI, 32, .inl g8)), (qa 9, .inl (cI, 32, .inl g9)), (qa 10, .inl (cB, 64000, .inl g10)), (qa 11, .inl (cI, 2048, .inl g11)), (qa 12, .inl (cI, 128, .inl g12)), (qa 25, .inl (cZ, 8192, .inl g25)), (qa 29, .inl (cI, 1300, .inl g29)), (qa 30, .inl (cI, 1300, .inl g30)), (qa 31, .inl (cI, 4, .inl g31)), (qa 32, .inl (cI, 4, .inl g32)), (qa 33, .inl (cI, 4, .inl g33)), (qa 34, .inl (cI, 4, .inl g34)), (qa 35, .inl (cI, 4, .inl g35)), (qa 36, .inl (cI, 4, .inl g36)), (qa 37, .inl (cI, 4, .inl g37)), (qa 38, .inl (cI, 4, .inl g38)), (qa 39, .inl (cI, 4, .inl g39)), (qa 40, .inl (cI, 4, .inl g40)), (qa 41, .inl (cI, 4, .inl g41)), (qa 42, .inl (cI, 4, .inl g42)), (qa 43, .inl (cI, 4, .inl g43)), (qa 44, .inl (cI, 4, .inl g44)), (qa 45, .inl (cI, 4, .inl g45)), (qa 46, .inl (cI, 4, .inl g46)), (qa 47, .inl (cI, 4, .inl g47)), (qa 48, .inl (cI, 4, .inl g48)), (qa 49, .inl (cI, 4, .inl g49)), (qa 50, .inl (cJ, 4, .inr (.inl g50))), (qa 51, .inl (cZ, 4, .inl g51)), (qa 52, .inl (cZ, 4, .inl g52))] sz)) 0 0 (va_A [(h, .inr (10, mdF qa (nI kk) x2 x3 x4 x13 x14 x15 x16 x17 x18 x19 x20 x21 x22 x23 x24 x26 x27 x28)), (qa 5, .inl (cI, 32, .inl g5)), (qa 6, .inl (cI, 32, .inl g6)), (qa 7, .inl (cI, 32, .inl g7)), (qa 8, .inl (cI, 32, .inl g8)), (qa 9, .inl (cI, 32, .inl g9)), (qa 10, .inl (cB, 64000, .inl g10)), (qa 11, .inl (cI, 2048, .inl g11)), (qa 12, .inl (cI, 128, .inl g12)), (qa 25, .inl (cZ, 8192, .inl g25)), (qa 29, .inl (cI, 1300, .inl g29)), (qa 30, .inl (cI, 1300, .inl g30)), (qa 31, .inl (cI, 4, .inl g31)), (qa 32, .inl (cI, 4, .inl g32)), (qa 33, .inl (cI, 4, .inl g33)), (qa 34, .inl (cI, 4, .inl g34)), (qa 35, .inl (cI, 4, .inl g35)), (qa 36, .inl (cI, 4, .inl g36)), (qa 37, .inl (cI, 4, .inl g37)), (qa 38, .inl (cI, 4, .inl g38)), (qa 39, .inl (cI, 4, .inl g39)), (qa 40, .inl (cI, 4, .inl g40)), (qa 41, .inl (cI, 4, .inl g41)), (qa 42, .inl (cI, 4, .inl g42)), (qa 43, .inl (cI, 4, .inl g43)), (qa 44, .inl (cI, 4, .inl g44)), (qa 45, .inl (cI, 4, .inl g45)), (qa 46, .inl (cI, 4, .inl g46)), (qa 47, .inl (cI, 4, .inl g47)), (qa 48, .inl (cI, 4, .inl g48)), (qa 49, .inl (cI, 4, .inl g49)), (qa 50, .inl (cJ, 4, .inr (.inl g50))), (qa 51, .inl (cZ, 4, .inl g51)), (qa 52, .inl (cZ, 4, .inl g52))] sz) := by
  refine Met.ofW (cc := cX11_oneTick) (maxL := 2) (ret := none) (by decide) rfl ?_
  intro p e s m args below meth c s₁ B hml hv
  obtain ⟨rfl, hsz, hP, hK, hD0, hN, hZ⟩ := hv
  have hx := B.exec
  have hb := B.bytes
  have hr := B.returns
  have hts := atoms_spec (ws := (wsG (.code yX11_oneTick cX11_oneTick 2 none))) B.pre
  have hown : s.vm.findClass RX11 = some m.cls := findClass_of_methodNamed B.named
  have hlocks := B.notSynchronized
  subst hsz
  have hD := hD0.self (sz := s.heap.size)
  generalize hAe : va_A [(h, .inr (10, mdF qa (nI kk) x2 x3 x4 x13 x14 x15 x16 x17 x18 x19 x20 x21 x22 x23 x24 x26 x27 x28)), (qa 5, .inl (cI, 32, .inl g5)), (qa 6, .inl (cI, 32, .inl g6)), (qa 7, .inl (cI, 32, .inl g7)), (qa 8, .inl (cI, 32, .inl g8)), (qa 9, .inl (cI, 32, .inl g9)), (qa 10, .inl (cB, 64000, .inl g10)), (qa 11, .inl (cI, 2048, .inl g11)), (qa 12, .inl (cI, 128, .inl g12)), (qa 25, .inl (cZ, 8192, .inl g25)), (qa 29, .inl (cI, 1300, .inl g29)), (qa 30, .inl (cI, 1300, .inl g30)), (qa 31, .inl (cI, 4, .inl g31)), (qa 32, .inl (cI, 4, .inl g32)), (qa 33, .inl (cI, 4, .inl g33)), (qa 34, .inl (cI, 4, .inl g34)), (qa 35, .inl (cI, 4, .inl g35)), (qa 36, .inl (cI, 4, .inl g36)), (qa 37, .inl (cI, 4, .inl g37)), (qa 38, .inl (cI, 4, .inl g38)), (qa 39, .inl (cI, 4, .inl g39)), (qa 40, .inl (cI, 4, .inl g40)), (qa 41, .inl (cI, 4, .inl g41)), (qa 42, .inl (cI, 4, .inl g42)), (qa 43, .inl (cI, 4, .inl g43)), (qa 44, .inl (cI, 4, .inl g44)), (qa 45, .inl (cI, 4, .inl g45)), (qa 46, .inl (cI, 4, .inl g46)), (qa 47, .inl (cI, 4, .inl g47)), (qa 48, .inl (cI, 4, .inl g48)), (qa 49, .inl (cI, 4, .inl g49)), (qa 50, .inl (cJ, 4, .inr (.inl g50))), (qa 51, .inl (cZ, 4, .inl g51)), (qa 52, .inl (cZ, 4, .inl g52))] s.heap.size = A at hD hZ ⊢
  have hA : ∀ q : Nat, s.heap.size ≤ q → A q := fun q h => by rw [← hAe]; exact Or.inr h
  have hl := lv_entry ([.ref h]) (n := 2) (Nat.le_of_ble_eq_true rfl)
  rw [lg_entry_eq]
  generalize (lg_sl ([.ref h]) ++ List.replicate (2 - (lg_sl ([.ref h])).length) Slot.unset).toArray = ls at hl ⊢
  have hl : lv_has ls 2 [(0, .ref h)] := hl
  refine g_start (A := A) hP (fun H locs hP hS => ?_)
  have LP44 : ∀ (ja_17 : Int32) (ja_18 : Int32) (ja_19 : Int32) (ja_20 : Int32) (ja_21 : Int32) (ja_26 : Int32) (ja_27 : Int32) (ja_28 : Int32) (ja25 : Nat → Int32) (ja47 : Nat → Int32) (h_ja_17 : rg1 0 127 ja_17) (h_ja_18 : rg1 0 63 ja_18) (h_ja_26 : jmp ja_26) (h_ja_27 : stp ja_27) (h_ja_28 : stp ja_28) (H : Heap) (locs : List Loc), va_P (dC, dI) vwCl [(h, .inr (10, mdF qa (nI kk) x2 x3 x4 x13 x14 x15 x16 ja_17 ja_18 ja_19 ja_20 ja_21 x22 x23 x24 ja_26 ja_27 ja_28)), (qa 5, .inl (cI, 32, .inl g5)), (qa 6, .inl (cI, 32, .inl g6)), (qa 7, .inl (cI, 32, .inl g7)), (qa 8, .inl (cI, 32, .inl g8)), (qa 9, .inl (cI, 32, .inl g9)), (qa 10, .inl (cB, 64000, .inl g10)), (qa 11, .inl (cI, 2048, .inl g11)), (qa 12, .inl (cI, 128, .inl g12)), (qa 25, .inl (cZ, 8192, .inl ja25)), (qa 29, .inl (cI, 1300, .inl g29)), (qa 30, .inl (cI, 1300, .inl g30)), (qa 31, .inl (cI, 4, .inl g31)), (qa 32, .inl (cI, 4, .inl g32)), (qa 33, .inl (cI, 4, .inl g33)), (qa 34, .inl (cI, 4, .inl g34)), (qa 35, .inl (cI, 4, .inl g35)), (qa 36, .inl (cI, 4, .inl g36)), (qa 37, .inl (cI, 4, .inl g37)), (qa 38, .inl (cI, 4, .inl g38)), (qa 39, .inl (cI, 4, .inl g39)), (qa 40, .inl (cI, 4, .inl g40)), (qa 41, .inl (cI, 4, .inl g41)), (qa 42, .inl (cI, 4, .inl g42)), (qa 43, .inl (cI, 4, .inl g43)), (qa 44, .inl (cI, 4, .inl g44)), (qa 45, .inl (cI, 4, .inl g45)), (qa 46, .inl (cI, 4, .inl g46)), (qa 47, .inl (cI, 4, .inl ja47)), (qa 48, .inl (cI, 4, .inl g48)), (qa 49, .inl (cI, 4, .inl g49)), (qa 50, .inl (cJ, 4, .inr (.inl g50))), (qa 51, .inl (cZ, 4, .inl g51)), (qa 52, .inl (cZ, 4, .inl g52))] H → va_D A [(h, .inr (10, mdF qa (nI kk) x2 x3 x4 x13 x14 x15 x16 ja_17 ja_18 ja_19 ja_20 ja_21 x22 x23 x24 ja_26 ja_27 ja_28)), (qa 5, .inl (cI, 32, .inl g5)), (qa 6, .inl (cI, 32, .inl g6)), (qa 7, .inl (cI, 32, .inl g7)), (qa 8, .inl (cI, 32, .inl g8)), (qa 9, .inl (cI, 32, .inl g9)), (qa 10, .inl (cB, 64000, .inl g10)), (qa 11, .inl (cI, 2048, .inl g11)), (qa 12, .inl (cI, 128, .inl g12)), (qa 25, .inl (cZ, 8192, .inl ja25)), (qa 29, .inl (cI, 1300, .inl g29)), (qa 30, .inl (cI, 1300, .inl g30)), (qa 31, .inl (cI, 4, .inl g31)), (qa 32, .inl (cI, 4, .inl g32)), (qa 33, .inl (cI, 4, .inl g33)), (qa 34, .inl (cI, 4, .inl g34)), (qa 35, .inl (cI, 4, .inl g35)), (qa 36, .inl (cI, 4, .inl g36)), (qa 37, .inl (cI, 4, .inl g37)), (qa 38, .inl (cI, 4, .inl g38)), (qa 39, .inl (cI, 4, .inl g39)), (qa 40, .inl (cI, 4, .inl g40)), (qa 41, .inl (cI, 4, .inl g41)), (qa 42, .inl (cI, 4, .inl g42)), (qa 43, .inl (cI, 4, .inl g43)), (qa 44, .inl (cI, 4, .inl g44)), (qa 45, .inl (cI, 4, .inl g45)), (qa 46, .inl (cI, 4, .inl g46)), (qa 47, .inl (cI, 4, .inl ja47)), (qa 48, .inl (cI, 4, .inl g48)), (qa 49, .inl (cI, 4, .inl g49)), (qa 50, .inl (cJ, 4, .inr (.inl g50))), (qa 51, .inl (cZ, 4, .inl g51)), (qa 52, .inl (cZ, 4, .inl g52))] → va_S A s.heap H locs → ∀ ls : Array Slot, lv_has ls 2 [(0, .ref h)] → W p l e ({ frames := 6, cells := 0, slots := 0, locals := 127 }) s m ([.ref h] : List Value).toArray below meth c H locs (0) (0) (MQ below (va_Qv (fun u : va_W × gT => ∃ (y15 : Int32) (y16 : Int32) (y17 : Int32) (y18 : Int32) (y19 : Int32) (y20 : Int32) (y21 : Int32) (y22 : Int32) (y24 : Int32) (y26 : Int32) (y27 : Int32) (y28 : Int32) (k25 : Nat → Int32) (k29 : Nat → Int32) (k30 : Nat → Int32) (k31 : Nat → Int32) (k32 : Nat → Int32) (k33 : Nat → Int32) (k34 : Nat → Int32) (k35 : Nat → Int32) (k36 : Nat → Int32) (k37 : Nat → Int32) (k38 : Nat → Int32) (k39 : Nat → Int32) (k40 : Nat → Int32) (k41 : Nat → Int32) (k42 : Nat → Int32) (k43 : Nat → Int32) (k44 : Nat → Int32) (k45 : Nat → Int32) (k46 : Nat → Int32) (k47 : Nat → Int32) (k48 : Nat → Int32) (k49 : Nat → Int32) (k51 : Nat → Int32) (k50 : Nat → Int64), u = ([(h, .inr (10, mdF qa (nI kk) x2 x3 x4 x13 x14 y15 y16 y17 y18 y19 y20 y21 y22 (x23 + 1) y24 y26 y27 y28)), (qa 5, .inl (cI, 32, .inl g5)), (qa 6, .inl (cI, 32, .inl g6)), (qa 7, .inl (cI, 32, .inl g7)), (qa 8, .inl (cI, 32, .inl g8)), (qa 9, .inl (cI, 32, .inl g9)), (qa 10, .inl (cB, 64000, .inl g10)), (qa 11, .inl (cI, 2048, .inl g11)), (qa 12, .inl (cI, 128, .inl g12)), (qa 25, .inl (cZ, 8192, .inl k25)), (qa 29, .inl (cI, 1300, .inl k29)), (qa 30, .inl (cI, 1300, .inl k30)), (qa 31, .inl (cI, 4, .inl k31)), (qa 32, .inl (cI, 4, .inl k32)), (qa 33, .inl (cI, 4, .inl k33)), (qa 34, .inl (cI, 4, .inl k34)), (qa 35, .inl (cI, 4, .inl k35)), (qa 36, .inl (cI, 4, .inl k36)), (qa 37, .inl (cI, 4, .inl k37)), (qa 38, .inl (cI, 4, .inl k38)), (qa 39, .inl (cI, 4, .inl k39)), (qa 40, .inl (cI, 4, .inl k40)), (qa 41, .inl (cI, 4, .inl k41)), (qa 42, .inl (cI, 4, .inl k42)), (qa 43, .inl (cI, 4, .inl k43)), (qa 44, .inl (cI, 4, .inl k44)), (qa 45, .inl (cI, 4, .inl k45)), (qa 46, .inl (cI, 4, .inl k46)), (qa 47, .inl (cI, 4, .inl k47)), (qa 48, .inl (cI, 4, .inl k48)), (qa 49, .inl (cI, 4, .inl k49)), (qa 50, .inl (cJ, 4, .inr (.inl k50))), (qa 51, .inl (cZ, 4, .inl k51)), (qa 52, .inl (cZ, 4, .inl g52))], []) ∧ prOk (x23 + 1) y17 y18 y26 y27 y28 ∧ rg 4 0 31 k31 ∧ rg 4 0 856 k34 ∧ rg 4 0 856 k36 ∧ rg 4 0 255 k37 ∧ rg 4 0 255 k44 ∧ rg 4 0 63 k45 ∧ rg 4 0 2147483647 k48 ∧ rgL 4 0 1099511627776 k50 ∧ tmo y16 ∧ frm y24) (gB (dC, dI) A) A) ([.ref h] : List Value).toArray s 0 0 A) (F0 m 44 ls []) := by
    intro ja_17 ja_18 ja_19 ja_20 ja_21 ja_26 ja_27 ja_28 ja25 ja47 h_ja_17 h_ja_18 h_ja_26 h_ja_27 h_ja_28 H locs hP hD hS ls hl
    refine lv_iconst (v := 0) hx hb dX11_oneTick_44 (by decide) ?_
    refine lv_istore_n (lv' := [(1, .int 0), (0, .ref h)]) hx hb dX11_oneTick_45 rfl hl (by decide) rfl (fun ls hl => ?_)
    refine lv_iload_n hx hb dX11_oneTick_46 rfl (lv_at hl 0 rfl) ?_
    refine lv_iconst (v := 4) hx hb dX11_oneTick_47 (by decide) ?_
    refine lv_icmp_ge (tgt := 62) hx hb dX11_oneTick_48 (by decide) (fun c_48 => absurd c_48 (by decide)) (fun c_48 => ?_)
    refine lv_aload_n hx hb dX11_oneTick_51 rfl (lv_at hl 1 rfl) ?_
    refine lv_iload_n hx hb dX11_oneTick_52 rfl (lv_at hl 0 rfl) ?_
    refine g_callv (wr := [(qa 8, .inl (cI, 32, .inl g8)), (qa 9, .inl (cI, 32, .inl g9)), (qa 10, .inl (cB, 64000, .inl g10)), (qa 11, .inl (cI, 2048, .inl g11)), (qa 12, .inl (cI, 128, .inl g12)), (qa 25, .inl (cZ, 8192, .inl ja25)), (qa 29, .inl (cI, 1300, .inl g29)), (qa 30, .inl (cI, 1300, .inl g30)), (qa 52, .inl (cZ, 4, .inl g52))]) (va_runV (As := [.int 0]) (rest := []) ⟨hx, hb, hml, hown, hts⟩ (m_acts l dC dI H.size h qa (nI kk) x2 x3 x4 x13 x14 x15 x16 ja_17 ja_18 ja_19 ja_20 ja_21 x22 x23 x24 ja_26 ja_27 ja_28 cI cJ cZ g5 g6 g7 g31 g32 g33 g34 g35 g36 g37 g38 g39 g40 g41 g42 g43 g44 g45 g46 ja47 g48 g49 g51 g50 0 (by decide) (r_g5) (r_g31) (r_g34) (r_g36) (r_g37) (r_g44) (r_g45) (r_g48) (r_g50) (h_x16) (h_ja_18) (h_ja_26) (h_ja_27) (h_ja_28)) (cwV 1 hts (gG_V kw_852 kw_853 kw_854 kw_5 kw_855) rfl rfl rfl (by decide +kernel) ⟨Nat.le_of_ble_eq_true rfl, Nat.le_of_ble_eq_true rfl⟩) (g_preV (C := RX11) (T := TX11) (N := 53) hP hD hK hS hA hN hZ (q0 := 0) rfl rfl [0, 1, 2, 3, 12, 13, 14, 15, 16, 17, 18, 19, 20, 21, 22, 23, 24, 25, 26, 27, 28, 29, 30, 31, 32] (by decide +kernel) rfl [0, 3, 2] rfl) rfl rfl hl.1 rfl (lv_room (Nat.le_of_ble_eq_true rfl)) dX11_oneTick_53 ⟨Nat.le_of_ble_eq_true rfl, Nat.le_of_ble_eq_true rfl⟩) hP hD hK hS hA [0, 1, 2, 3, 12, 13, 14, 15, 16, 17, 18, 19, 20, 21, 22, 23, 24, 25, 26, 27, 28, 29, 30, 31, 32] [4, 5, 6, 7, 8, 9, 10, 11, 33] rfl rfl (by decide +kernel) (by decide +kernel) (fun w ty1 H locs hw_53 hP hD _ hS => ?_)
    rcases hw_53 with ⟨y15_53, y16_53, y20_53, y26_53, y27_53, y28_53, k31_53, k32_53, k33_53, k34_53, k35_53, k36_53, k37_53, k38_53, k39_53, k40_53, k41_53, k42_53, k43_53, k44_53, k45_53, k46_53, k48_53, k49_53, k51_53, k50_53, hu, r_k31_53, r_k34_53, r_k36_53, r_k37_53, r_k44_53, r_k45_53, r_k48_53, r_k50_53, h_y16_53, h_y26_53, h_y27_53, h_y28_53⟩
    cases hu
    have hP : va_P (dC, dI) vwCl [(qa 8, .inl (cI, 32, .inl g8)), (qa 9, .inl (cI, 32, .inl g9)), (qa 10, .inl (cB, 64000, .inl g10)), (qa 11, .inl (cI, 2048, .inl g11)), (qa 12, .inl (cI, 128, .inl g12)), (qa 25, .inl (cZ, 8192, .inl ja25)), (qa 29, .inl (cI, 1300, .inl g29)), (qa 30, .inl (cI, 1300, .inl g30)), (qa 52, .inl (cZ, 4, .inl g52)), (h, .inr (10, mdF qa (nI kk) x2 x3 x4 x13 x14 y15_53 y16_53 ja_17 ja_18 ja_19 y20_53 ja_21 x22 x23 x24 y26_53 y27_53 y28_53)), (qa 5, .inl (cI, 32, .inl g5)), (qa 6, .inl (cI, 32, .inl g6)), (qa 7, .inl (cI, 32, .inl g7)), (qa 31, .inl (cI, 4, .inl k31_53)), (qa 32, .inl (cI, 4, .inl k32_53)), (qa 33, .inl (cI, 4, .inl k33_53)), (qa 34, .inl (cI, 4, .inl k34_53)), (qa 35, .inl (cI, 4, .inl k35_53)), (qa 36, .inl (cI, 4, .inl k36_53)), (qa 37, .inl (cI, 4, .inl k37_53)), (qa 38, .inl (cI, 4, .inl k38_53)), (qa 39, .inl (cI, 4, .inl k39_53)), (qa 40, .inl (cI, 4, .inl k40_53)), (qa 41, .inl (cI, 4, .inl k41_53)), (qa 42, .inl (cI, 4, .inl k42_53)), (qa 43, .inl (cI, 4, .inl k43_53)), (qa 44, .inl (cI, 4, .inl k44_53)), (qa 45, .inl (cI, 4, .inl k45_53)), (qa 46, .inl (cI, 4, .inl k46_53)), (qa 47, .inl (cI, 4, .inl ja47)), (qa 48, .inl (cI, 4, .inl k48_53)), (qa 49, .inl (cI, 4, .inl k49_53)), (qa 50, .inl (cJ, 4, .inr (.inl k50_53))), (qa 51, .inl (cZ, 4, .inl k51_53))] H := hP
    have hD : va_D A [(qa 8, .inl (cI, 32, .inl g8)), (qa 9, .inl (cI, 32, .inl g9)), (qa 10, .inl (cB, 64000, .inl g10)), (qa 11, .inl (cI, 2048, .inl g11)), (qa 12, .inl (cI, 128, .inl g12)), (qa 25, .inl (cZ, 8192, .inl ja25)), (qa 29, .inl (cI, 1300, .inl g29)), (qa 30, .inl (cI, 1300, .inl g30)), (qa 52, .inl (cZ, 4, .inl g52)), (h, .inr (10, mdF qa (nI kk) x2 x3 x4 x13 x14 y15_53 y16_53 ja_17 ja_18 ja_19 y20_53 ja_21 x22 x23 x24 y26_53 y27_53 y28_53)), (qa 5, .inl (cI, 32, .inl g5)), (qa 6, .inl (cI, 32, .inl g6)), (qa 7, .inl (cI, 32, .inl g7)), (qa 31, .inl (cI, 4, .inl k31_53)), (qa 32, .inl (cI, 4, .inl k32_53)), (qa 33, .inl (cI, 4, .inl k33_53)), (qa 34, .inl (cI, 4, .inl k34_53)), (qa 35, .inl (cI, 4, .inl k35_53)), (qa 36, .inl (cI, 4, .inl k36_53)), (qa 37, .inl (cI, 4, .inl k37_53)), (qa 38, .inl (cI, 4, .inl k38_53)), (qa 39, .inl (cI, 4, .inl k39_53)), (qa 40, .inl (cI, 4, .inl k40_53)), (qa 41, .inl (cI, 4, .inl k41_53)), (qa 42, .inl (cI, 4, .inl k42_53)), (qa 43, .inl (cI, 4, .inl k43_53)), (qa 44, .inl (cI, 4, .inl k44_53)), (qa 45, .inl (cI, 4, .inl k45_53)), (qa 46, .inl (cI, 4, .inl k46_53)), (qa 47, .inl (cI, 4, .inl ja47)), (qa 48, .inl (cI, 4, .inl k48_53)), (qa 49, .inl (cI, 4, .inl k49_53)), (qa 50, .inl (cJ, 4, .inr (.inl k50_53))), (qa 51, .inl (cZ, 4, .inl k51_53))] := hD
    refine lv_iinc (v := 1) (lv' := [(1, .int 1), (0, .ref h)]) hx hb dX11_oneTick_56 hl (k := 0) rfl (by decide) (by decide) rfl (fun ls hl => ?_)
    refine lv_goto (tgt := 46) hx hb dX11_oneTick_59 (by decide) ?_
    refine lv_iload_n hx hb dX11_oneTick_46 rfl (lv_at hl 0 rfl) ?_
    refine lv_iconst (v := 4) hx hb dX11_oneTick_47 (by decide) ?_
    refine lv_icmp_ge (tgt := 62) hx hb dX11_oneTick_48 (by decide) (fun c_48_2 => absurd c_48_2 (by decide)) (fun c_48_2 => ?_)
    refine lv_aload_n hx hb dX11_oneTick_51 rfl (lv_at hl 1 rfl) ?_
    refine lv_iload_n hx hb dX11_oneTick_52 rfl (lv_at hl 0 rfl) ?_
    refine g_callv (wr := [(qa 8, .inl (cI, 32, .inl g8)), (qa 9, .inl (cI, 32, .inl g9)), (qa 10, .inl (cB, 64000, .inl g10)), (qa 11, .inl (cI, 2048, .inl g11)), (qa 12, .inl (cI, 128, .inl g12)), (qa 25, .inl (cZ, 8192, .inl ja25)), (qa 29, .inl (cI, 1300, .inl g29)), (qa 30, .inl (cI, 1300, .inl g30)), (qa 52, .inl (cZ, 4, .inl g52))]) (va_runV (As := [.int 1]) (rest := []) ⟨hx, hb, hml, hown, hts⟩ (m_acts l dC dI H.size h qa (nI kk) x2 x3 x4 x13 x14 y15_53 y16_53 ja_17 ja_18 ja_19 y20_53 ja_21 x22 x23 x24 y26_53 y27_53 y28_53 cI cJ cZ g5 g6 g7 k31_53 k32_53 k33_53 k34_53 k35_53 k36_53 k37_53 k38_53 k39_53 k40_53 k41_53 k42_53 k43_53 k44_53 k45_53 k46_53 ja47 k48_53 k49_53 k51_53 k50_53 1 (by decide) (r_g5) (r_k31_53) (r_k34_53) (r_k36_53) (r_k37_53) (r_k44_53) (r_k45_53) (r_k48_53) (r_k50_53) (h_y16_53) (h_ja_18) (h_y26_53) (h_y27_53) (h_y28_53)) (cwV 1 hts (gG_V kw_852 kw_853 kw_854 kw_5 kw_855) rfl rfl rfl (by decide +kernel) ⟨Nat.le_of_ble_eq_true rfl, Nat.le_of_ble_eq_true rfl⟩) (g_preV (C := RX11) (T := TX11) (N := 53) hP hD hK hS hA hN hZ (q0 := 9) rfl rfl [9, 10, 11, 12, 13, 14, 15, 16, 17, 18, 19, 20, 21, 22, 23, 24, 25, 26, 27, 28, 29, 30, 31, 32, 33] (by decide +kernel) rfl [0, 3, 2] rfl) rfl rfl hl.1 rfl (lv_room (Nat.le_of_ble_eq_true rfl)) dX11_oneTick_53 ⟨Nat.le_of_ble_eq_true rfl, Nat.le_of_ble_eq_true rfl⟩) hP hD hK hS hA [9, 10, 11, 12, 13, 14, 15, 16, 17, 18, 19, 20, 21, 22, 23, 24, 25, 26, 27, 28, 29, 30, 31, 32, 33] [0, 1, 2, 3, 4, 5, 6, 7, 8] rfl rfl (by decide +kernel) (by decide +kernel) (fun w ty1 H locs hw_53 hP hD _ hS => ?_)
    rcases hw_53 with ⟨y15_53_2, y16_53_2, y20_53_2, y26_53_2, y27_53_2, y28_53_2, k31_53_2, k32_53_2, k33_53_2, k34_53_2, k35_53_2, k36_53_2, k37_53_2, k38_53_2, k39_53_2, k40_53_2, k41_53_2, k42_53_2, k43_53_2, k44_53_2, k45_53_2, k46_53_2, k48_53_2, k49_53_2, k51_53_2, k50_53_2, hu, r_k31_53_2, r_k34_53_2, r_k36_53_2, r_k37_53_2, r_k44_53_2, r_k45_53_2, r_k48_53_2, r_k50_53_2, h_y16_53_2, h_y26_53_2, h_y27_53_2, h_y28_53_2⟩
    cases hu
    have hP : va_P (dC, dI) vwCl [(qa 8, .inl (cI, 32, .inl g8)), (qa 9, .inl (cI, 32, .inl g9)), (qa 10, .inl (cB, 64000, .inl g10)), (qa 11, .inl (cI, 2048, .inl g11)), (qa 12, .inl (cI, 128, .inl g12)), (qa 25, .inl (cZ, 8192, .inl ja25)), (qa 29, .inl (cI, 1300, .inl g29)), (qa 30, .inl (cI, 1300, .inl g30)), (qa 52, .inl (cZ, 4, .inl g52)), (h, .inr (10, mdF qa (nI kk) x2 x3 x4 x13 x14 y15_53_2 y16_53_2 ja_17 ja_18 ja_19 y20_53_2 ja_21 x22 x23 x24 y26_53_2 y27_53_2 y28_53_2)), (qa 5, .inl (cI, 32, .inl g5)), (qa 6, .inl (cI, 32, .inl g6)), (qa 7, .inl (cI, 32, .inl g7)), (qa 31, .inl (cI, 4, .inl k31_53_2)), (qa 32, .inl (cI, 4, .inl k32_53_2)), (qa 33, .inl (cI, 4, .inl k33_53_2)), (qa 34, .inl (cI, 4, .inl k34_53_2)), (qa 35, .inl (cI, 4, .inl k35_53_2)), (qa 36, .inl (cI, 4, .inl k36_53_2)), (qa 37, .inl (cI, 4, .inl k37_53_2)), (qa 38, .inl (cI, 4, .inl k38_53_2)), (qa 39, .inl (cI, 4, .inl k39_53_2)), (qa 40, .inl (cI, 4, .inl k40_53_2)), (qa 41, .inl (cI, 4, .inl k41_53_2)), (qa 42, .inl (cI, 4, .inl k42_53_2)), (qa 43, .inl (cI, 4, .inl k43_53_2)), (qa 44, .inl (cI, 4, .inl k44_53_2)), (qa 45, .inl (cI, 4, .inl k45_53_2)), (qa 46, .inl (cI, 4, .inl k46_53_2)), (qa 47, .inl (cI, 4, .inl ja47)), (qa 48, .inl (cI, 4, .inl k48_53_2)), (qa 49, .inl (cI, 4, .inl k49_53_2)), (qa 50, .inl (cJ, 4, .inr (.inl k50_53_2))), (qa 51, .inl (cZ, 4, .inl k51_53_2))] H := hP
    have hD : va_D A [(qa 8, .inl (cI, 32, .inl g8)), (qa 9, .inl (cI, 32, .inl g9)), (qa 10, .inl (cB, 64000, .inl g10)), (qa 11, .inl (cI, 2048, .inl g11)), (qa 12, .inl (cI, 128, .inl g12)), (qa 25, .inl (cZ, 8192, .inl ja25)), (qa 29, .inl (cI, 1300, .inl g29)), (qa 30, .inl (cI, 1300, .inl g30)), (qa 52, .inl (cZ, 4, .inl g52)), (h, .inr (10, mdF qa (nI kk) x2 x3 x4 x13 x14 y15_53_2 y16_53_2 ja_17 ja_18 ja_19 y20_53_2 ja_21 x22 x23 x24 y26_53_2 y27_53_2 y28_53_2)), (qa 5, .inl (cI, 32, .inl g5)), (qa 6, .inl (cI, 32, .inl g6)), (qa 7, .inl (cI, 32, .inl g7)), (qa 31, .inl (cI, 4, .inl k31_53_2)), (qa 32, .inl (cI, 4, .inl k32_53_2)), (qa 33, .inl (cI, 4, .inl k33_53_2)), (qa 34, .inl (cI, 4, .inl k34_53_2)), (qa 35, .inl (cI, 4, .inl k35_53_2)), (qa 36, .inl (cI, 4, .inl k36_53_2)), (qa 37, .inl (cI, 4, .inl k37_53_2)), (qa 38, .inl (cI, 4, .inl k38_53_2)), (qa 39, .inl (cI, 4, .inl k39_53_2)), (qa 40, .inl (cI, 4, .inl k40_53_2)), (qa 41, .inl (cI, 4, .inl k41_53_2)), (qa 42, .inl (cI, 4, .inl k42_53_2)), (qa 43, .inl (cI, 4, .inl k43_53_2)), (qa 44, .inl (cI, 4, .inl k44_53_2)), (qa 45, .inl (cI, 4, .inl k45_53_2)), (qa 46, .inl (cI, 4, .inl k46_53_2)), (qa 47, .inl (cI, 4, .inl ja47)), (qa 48, .inl (cI, 4, .inl k48_53_2)), (qa 49, .inl (cI, 4, .inl k49_53_2)), (qa 50, .inl (cJ, 4, .inr (.inl k50_53_2))), (qa 51, .inl (cZ, 4, .inl k51_53_2))] := hD
    refine lv_iinc (v := 2) (lv' := [(1, .int 2), (0, .ref h)]) hx hb dX11_oneTick_56 hl (k := 0) rfl (by decide) (by decide) rfl (fun ls hl => ?_)
    refine lv_goto (tgt := 46) hx hb dX11_oneTick_59 (by decide) ?_
    refine lv_iload_n hx hb dX11_oneTick_46 rfl (lv_at hl 0 rfl) ?_
    refine lv_iconst (v := 4) hx hb dX11_oneTick_47 (by decide) ?_
    refine lv_icmp_ge (tgt := 62) hx hb dX11_oneTick_48 (by decide) (fun c_48_3 => absurd c_48_3 (by decide)) (fun c_48_3 => ?_)
    refine lv_aload_n hx hb dX11_oneTick_51 rfl (lv_at hl 1 rfl) ?_
    refine lv_iload_n hx hb dX11_oneTick_52 rfl (lv_at hl 0 rfl) ?_
    refine g_callv (wr := [(qa 8, .inl (cI, 32, .inl g8)), (qa 9, .inl (cI, 32, .inl g9)), (qa 10, .inl (cB, 64000, .inl g10)), (qa 11, .inl (cI, 2048, .inl g11)), (qa 12, .inl (cI, 128, .inl g12)), (qa 25, .inl (cZ, 8192, .inl ja25)), (qa 29, .inl (cI, 1300, .inl g29)), (qa 30, .inl (cI, 1300, .inl g30)), (qa 52, .inl (cZ, 4, .inl g52))]) (va_runV (As := [.int 2]) (rest := []) ⟨hx, hb, hml, hown, hts⟩ (m_acts l dC dI H.size h qa (nI kk) x2 x3 x4 x13 x14 y15_53_2 y16_53_2 ja_17 ja_18 ja_19 y20_53_2 ja_21 x22 x23 x24 y26_53_2 y27_53_2 y28_53_2 cI cJ cZ g5 g6 g7 k31_53_2 k32_53_2 k33_53_2 k34_53_2 k35_53_2 k36_53_2 k37_53_2 k38_53_2 k39_53_2 k40_53_2 k41_53_2 k42_53_2 k43_53_2 k44_53_2 k45_53_2 k46_53_2 ja47 k48_53_2 k49_53_2 k51_53_2 k50_53_2 2 (by decide) (r_g5) (r_k31_53_2) (r_k34_53_2) (r_k36_53_2) (r_k37_53_2) (r_k44_53_2) (r_k45_53_2) (r_k48_53_2) (r_k50_53_2) (h_y16_53_2) (h_ja_18) (h_y26_53_2) (h_y27_53_2) (h_y28_53_2)) (cwV 1 hts (gG_V kw_852 kw_853 kw_854 kw_5 kw_855) rfl rfl rfl (by decide +kernel) ⟨Nat.le_of_ble_eq_true rfl, Nat.le_of_ble_eq_true rfl⟩) (g_preV (C := RX11) (T := TX11) (N := 53) hP hD hK hS hA hN hZ (q0 := 9) rfl rfl [9, 10, 11, 12, 13, 14, 15, 16, 17, 18, 19, 20, 21, 22, 23, 24, 25, 26, 27, 28, 29, 30, 31, 32, 33] (by decide +kernel) rfl [0, 3, 2] rfl) rfl rfl hl.1 rfl (lv_room (Nat.le_of_ble_eq_true rfl)) dX11_oneTick_53 ⟨Nat.le_of_ble_eq_true rfl, Nat.le_of_ble_eq_true rfl⟩) hP hD hK hS hA [9, 10, 11, 12, 13, 14, 15, 16, 17, 18, 19, 20, 21, 22, 23, 24, 25, 26, 27, 28, 29, 30, 31, 32, 33] [0, 1, 2, 3, 4, 5, 6, 7, 8] rfl rfl (by decide +kernel) (by decide +kernel) (fun w ty1 H locs hw_53 hP hD _ hS => ?_)
    rcases hw_53 with ⟨y15_53_3, y16_53_3, y20_53_3, y26_53_3, y27_53_3, y28_53_3, k31_53_3, k32_53_3, k33_53_3, k34_53_3, k35_53_3, k36_53_3, k37_53_3, k38_53_3, k39_53_3, k40_53_3, k41_53_3, k42_53_3, k43_53_3, k44_53_3, k45_53_3, k46_53_3, k48_53_3, k49_53_3, k51_53_3, k50_53_3, hu, r_k31_53_3, r_k34_53_3, r_k36_53_3, r_k37_53_3, r_k44_53_3, r_k45_53_3, r_k48_53_3, r_k50_53_3, h_y16_53_3, h_y26_53_3, h_y27_53_3, h_y28_53_3⟩
    cases hu
    have hP : va_P (dC, dI) vwCl [(qa 8, .inl (cI, 32, .inl g8)), (qa 9, .inl (cI, 32, .inl g9)), (qa 10, .inl (cB, 64000, .inl g10)), (qa 11, .inl (cI, 2048, .inl g11)), (qa 12, .inl (cI, 128, .inl g12)), (qa 25, .inl (cZ, 8192, .inl ja25)), (qa 29, .inl (cI, 1300, .inl g29)), (qa 30, .inl (cI, 1300, .inl g30)), (qa 52, .inl (cZ, 4, .inl g52)), (h, .inr (10, mdF qa (nI kk) x2 x3 x4 x13 x14 y15_53_3 y16_53_3 ja_17 ja_18 ja_19 y20_53_3 ja_21 x22 x23 x24 y26_53_3 y27_53_3 y28_53_3)), (qa 5, .inl (cI, 32, .inl g5)), (qa 6, .inl (cI, 32, .inl g6)), (qa 7, .inl (cI, 32, .inl g7)), (qa 31, .inl (cI, 4, .inl k31_53_3)), (qa 32, .inl (cI, 4, .inl k32_53_3)), (qa 33, .inl (cI, 4, .inl k33_53_3)), (qa 34, .inl (cI, 4, .inl k34_53_3)), (qa 35, .inl (cI, 4, .inl k35_53_3)), (qa 36, .inl (cI, 4, .inl k36_53_3)), (qa 37, .inl (cI, 4, .inl k37_53_3)), (qa 38, .inl (cI, 4, .inl k38_53_3)), (qa 39, .inl (cI, 4, .inl k39_53_3)), (qa 40, .inl (cI, 4, .inl k40_53_3)), (qa 41, .inl (cI, 4, .inl k41_53_3)), (qa 42, .inl (cI, 4, .inl k42_53_3)), (qa 43, .inl (cI, 4, .inl k43_53_3)), (qa 44, .inl (cI, 4, .inl k44_53_3)), (qa 45, .inl (cI, 4, .inl k45_53_3)), (qa 46, .inl (cI, 4, .inl k46_53_3)), (qa 47, .inl (cI, 4, .inl ja47)), (qa 48, .inl (cI, 4, .inl k48_53_3)), (qa 49, .inl (cI, 4, .inl k49_53_3)), (qa 50, .inl (cJ, 4, .inr (.inl k50_53_3))), (qa 51, .inl (cZ, 4, .inl k51_53_3))] H := hP
    have hD : va_D A [(qa 8, .inl (cI, 32, .inl g8)), (qa 9, .inl (cI, 32, .inl g9)), (qa 10, .inl (cB, 64000, .inl g10)), (qa 11, .inl (cI, 2048, .inl g11)), (qa 12, .inl (cI, 128, .inl g12)), (qa 25, .inl (cZ, 8192, .inl ja25)), (qa 29, .inl (cI, 1300, .inl g29)), (qa 30, .inl (cI, 1300, .inl g30)), (qa 52, .inl (cZ, 4, .inl g52)), (h, .inr (10, mdF qa (nI kk) x2 x3 x4 x13 x14 y15_53_3 y16_53_3 ja_17 ja_18 ja_19 y20_53_3 ja_21 x22 x23 x24 y26_53_3 y27_53_3 y28_53_3)), (qa 5, .inl (cI, 32, .inl g5)), (qa 6, .inl (cI, 32, .inl g6)), (qa 7, .inl (cI, 32, .inl g7)), (qa 31, .inl (cI, 4, .inl k31_53_3)), (qa 32, .inl (cI, 4, .inl k32_53_3)), (qa 33, .inl (cI, 4, .inl k33_53_3)), (qa 34, .inl (cI, 4, .inl k34_53_3)), (qa 35, .inl (cI, 4, .inl k35_53_3)), (qa 36, .inl (cI, 4, .inl k36_53_3)), (qa 37, .inl (cI, 4, .inl k37_53_3)), (qa 38, .inl (cI, 4, .inl k38_53_3)), (qa 39, .inl (cI, 4, .inl k39_53_3)), (qa 40, .inl (cI, 4, .inl k40_53_3)), (qa 41, .inl (cI, 4, .inl k41_53_3)), (qa 42, .inl (cI, 4, .inl k42_53_3)), (qa 43, .inl (cI, 4, .inl k43_53_3)), (qa 44, .inl (cI, 4, .inl k44_53_3)), (qa 45, .inl (cI, 4, .inl k45_53_3)), (qa 46, .inl (cI, 4, .inl k46_53_3)), (qa 47, .inl (cI, 4, .inl ja47)), (qa 48, .inl (cI, 4, .inl k48_53_3)), (qa 49, .inl (cI, 4, .inl k49_53_3)), (qa 50, .inl (cJ, 4, .inr (.inl k50_53_3))), (qa 51, .inl (cZ, 4, .inl k51_53_3))] := hD
    refine lv_iinc (v := 3) (lv' := [(1, .int 3), (0, .ref h)]) hx hb dX11_oneTick_56 hl (k := 0) rfl (by decide) (by decide) rfl (fun ls hl => ?_)
    refine lv_goto (tgt := 46) hx hb dX11_oneTick_59 (by decide) ?_
    refine lv_iload_n hx hb dX11_oneTick_46 rfl (lv_at hl 0 rfl) ?_
    refine lv_iconst (v := 4) hx hb dX11_oneTick_47 (by decide) ?_
    refine lv_icmp_ge (tgt := 62) hx hb dX11_oneTick_48 (by decide) (fun c_48_4 => absurd c_48_4 (by decide)) (fun c_48_4 => ?_)
    refine lv_aload_n hx hb dX11_oneTick_51 rfl (lv_at hl 1 rfl) ?_
    refine lv_iload_n hx hb dX11_oneTick_52 rfl (lv_at hl 0 rfl) ?_
    refine g_callv (wr := [(qa 8, .inl (cI, 32, .inl g8)), (qa 9, .inl (cI, 32, .inl g9)), (qa 10, .inl (cB, 64000, .inl g10)), (qa 11, .inl (cI, 2048, .inl g11)), (qa 12, .inl (cI, 128, .inl g12)), (qa 25, .inl (cZ, 8192, .inl ja25)), (qa 29, .inl (cI, 1300, .inl g29)), (qa 30, .inl (cI, 1300, .inl g30)), (qa 52, .inl (cZ, 4, .inl g52))]) (va_runV (As := [.int 3]) (rest := []) ⟨hx, hb, hml, hown, hts⟩ (m_acts l dC dI H.size h qa (nI kk) x2 x3 x4 x13 x14 y15_53_3 y16_53_3 ja_17 ja_18 ja_19 y20_53_3 ja_21 x22 x23 x24 y26_53_3 y27_53_3 y28_53_3 cI cJ cZ g5 g6 g7 k31_53_3 k32_53_3 k33_53_3 k34_53_3 k35_53_3 k36_53_3 k37_53_3 k38_53_3 k39_53_3 k40_53_3 k41_53_3 k42_53_3 k43_53_3 k44_53_3 k45_53_3 k46_53_3 ja47 k48_53_3 k49_53_3 k51_53_3 k50_53_3 3 (by decide) (r_g5) (r_k31_53_3) (r_k34_53_3) (r_k36_53_3) (r_k37_53_3) (r_k44_53_3) (r_k45_53_3) (r_k48_53_3) (r_k50_53_3) (h_y16_53_3) (h_ja_18) (h_y26_53_3) (h_y27_53_3) (h_y28_53_3)) (cwV 1 hts (gG_V kw_852 kw_853 kw_854 kw_5 kw_855) rfl rfl rfl (by decide +kernel) ⟨Nat.le_of_ble_eq_true rfl, Nat.le_of_ble_eq_true rfl⟩) (g_preV (C := RX11) (T := TX11) (N := 53) hP hD hK hS hA hN hZ (q0 := 9) rfl rfl [9, 10, 11, 12, 13, 14, 15, 16, 17, 18, 19, 20, 21, 22, 23, 24, 25, 26, 27, 28, 29, 30, 31, 32, 33] (by decide +kernel) rfl [0, 3, 2] rfl) rfl rfl hl.1 rfl (lv_room (Nat.le_of_ble_eq_true rfl)) dX11_oneTick_53 ⟨Nat.le_of_ble_eq_true rfl, Nat.le_of_ble_eq_true rfl⟩) hP hD hK hS hA [9, 10, 11, 12, 13, 14, 15, 16, 17, 18, 19, 20, 21, 22, 23, 24, 25, 26, 27, 28, 29, 30, 31, 32, 33] [0, 1, 2, 3, 4, 5, 6, 7, 8] rfl rfl (by decide +kernel) (by decide +kernel) (fun w ty1 H locs hw_53 hP hD _ hS => ?_)
    rcases hw_53 with ⟨y15_53_4, y16_53_4, y20_53_4, y26_53_4, y27_53_4, y28_53_4, k31_53_4, k32_53_4, k33_53_4, k34_53_4, k35_53_4, k36_53_4, k37_53_4, k38_53_4, k39_53_4, k40_53_4, k41_53_4, k42_53_4, k43_53_4, k44_53_4, k45_53_4, k46_53_4, k48_53_4, k49_53_4, k51_53_4, k50_53_4, hu, r_k31_53_4, r_k34_53_4, r_k36_53_4, r_k37_53_4, r_k44_53_4, r_k45_53_4, r_k48_53_4, r_k50_53_4, h_y16_53_4, h_y26_53_4, h_y27_53_4, h_y28_53_4⟩
    cases hu
    have hP : va_P (dC, dI) vwCl [(qa 8, .inl (cI, 32, .inl g8)), (qa 9, .inl (cI, 32, .inl g9)), (qa 10, .inl (cB, 64000, .inl g10)), (qa 11, .inl (cI, 2048, .inl g11)), (qa 12, .inl (cI, 128, .inl g12)), (qa 25, .inl (cZ, 8192, .inl ja25)), (qa 29, .inl (cI, 1300, .inl g29)), (qa 30, .inl (cI, 1300, .inl g30)), (qa 52, .inl (cZ, 4, .inl g52)), (h, .inr (10, mdF qa (nI kk) x2 x3 x4 x13 x14 y15_53_4 y16_53_4 ja_17 ja_18 ja_19 y20_53_4 ja_21 x22 x23 x24 y26_53_4 y27_53_4 y28_53_4)), (qa 5, .inl (cI, 32, .inl g5)), (qa 6, .inl (cI, 32, .inl g6)), (qa 7, .inl (cI, 32, .inl g7)), (qa 31, .inl (cI, 4, .inl k31_53_4)), (qa 32, .inl (cI, 4, .inl k32_53_4)), (qa 33, .inl (cI, 4, .inl k33_53_4)), (qa 34, .inl (cI, 4, .inl k34_53_4)), (qa 35, .inl (cI, 4, .inl k35_53_4)), (qa 36, .inl (cI, 4, .inl k36_53_4)), (qa 37, .inl (cI, 4, .inl k37_53_4)), (qa 38, .inl (cI, 4, .inl k38_53_4)), (qa 39, .inl (cI, 4, .inl k39_53_4)), (qa 40, .inl (cI, 4, .inl k40_53_4)), (qa 41, .inl (cI, 4, .inl k41_53_4)), (qa 42, .inl (cI, 4, .inl k42_53_4)), (qa 43, .inl (cI, 4, .inl k43_53_4)), (qa 44, .inl (cI, 4, .inl k44_53_4)), (qa 45, .inl (cI, 4, .inl k45_53_4)), (qa 46, .inl (cI, 4, .inl k46_53_4)), (qa 47, .inl (cI, 4, .inl ja47)), (qa 48, .inl (cI, 4, .inl k48_53_4)), (qa 49, .inl (cI, 4, .inl k49_53_4)), (qa 50, .inl (cJ, 4, .inr (.inl k50_53_4))), (qa 51, .inl (cZ, 4, .inl k51_53_4))] H := hP
    have hD : va_D A [(qa 8, .inl (cI, 32, .inl g8)), (qa 9, .inl (cI, 32, .inl g9)), (qa 10, .inl (cB, 64000, .inl g10)), (qa 11, .inl (cI, 2048, .inl g11)), (qa 12, .inl (cI, 128, .inl g12)), (qa 25, .inl (cZ, 8192, .inl ja25)), (qa 29, .inl (cI, 1300, .inl g29)), (qa 30, .inl (cI, 1300, .inl g30)), (qa 52, .inl (cZ, 4, .inl g52)), (h, .inr (10, mdF qa (nI kk) x2 x3 x4 x13 x14 y15_53_4 y16_53_4 ja_17 ja_18 ja_19 y20_53_4 ja_21 x22 x23 x24 y26_53_4 y27_53_4 y28_53_4)), (qa 5, .inl (cI, 32, .inl g5)), (qa 6, .inl (cI, 32, .inl g6)), (qa 7, .inl (cI, 32, .inl g7)), (qa 31, .inl (cI, 4, .inl k31_53_4)), (qa 32, .inl (cI, 4, .inl k32_53_4)), (qa 33, .inl (cI, 4, .inl k33_53_4)), (qa 34, .inl (cI, 4, .inl k34_53_4)), (qa 35, .inl (cI, 4, .inl k35_53_4)), (qa 36, .inl (cI, 4, .inl k36_53_4)), (qa 37, .inl (cI, 4, .inl k37_53_4)), (qa 38, .inl (cI, 4, .inl k38_53_4)), (qa 39, .inl (cI, 4, .inl k39_53_4)), (qa 40, .inl (cI, 4, .inl k40_53_4)), (qa 41, .inl (cI, 4, .inl k41_53_4)), (qa 42, .inl (cI, 4, .inl k42_53_4)), (qa 43, .inl (cI, 4, .inl k43_53_4)), (qa 44, .inl (cI, 4, .inl k44_53_4)), (qa 45, .inl (cI, 4, .inl k45_53_4)), (qa 46, .inl (cI, 4, .inl k46_53_4)), (qa 47, .inl (cI, 4, .inl ja47)), (qa 48, .inl (cI, 4, .inl k48_53_4)), (qa 49, .inl (cI, 4, .inl k49_53_4)), (qa 50, .inl (cJ, 4, .inr (.inl k50_53_4))), (qa 51, .inl (cZ, 4, .inl k51_53_4))] := hD
    refine lv_iinc (v := 4) (lv' := [(1, .int 4), (0, .ref h)]) hx hb dX11_oneTick_56 hl (k := 0) rfl (by decide) (by decide) rfl (fun ls hl => ?_)
    refine lv_goto (tgt := 46) hx hb dX11_oneTick_59 (by decide) ?_
    refine lv_iload_n hx hb dX11_oneTick_46 rfl (lv_at hl 0 rfl) ?_
    refine lv_iconst (v := 4) hx hb dX11_oneTick_47 (by decide) ?_
    refine lv_icmp_ge (tgt := 62) hx hb dX11_oneTick_48 (by decide) (fun c_48_5 => ?_) (fun c_48_5 => absurd c_48_5 (by decide))
    refine lv_aload_n hx hb dX11_oneTick_62 rfl (lv_at hl 1 rfl) ?_
    refine g_callv (wr := [(qa 11, .inl (cI, 2048, .inl g11)), (qa 12, .inl (cI, 128, .inl g12)), (qa 25, .inl (cZ, 8192, .inl ja25)), (qa 6, .inl (cI, 32, .inl g6)), (qa 7, .inl (cI, 32, .inl g7)), (qa 32, .inl (cI, 4, .inl k32_53_4)), (qa 33, .inl (cI, 4, .inl k33_53_4)), (qa 34, .inl (cI, 4, .inl k34_53_4)), (qa 35, .inl (cI, 4, .inl k35_53_4)), (qa 36, .inl (cI, 4, .inl k36_53_4)), (qa 37, .inl (cI, 4, .inl k37_53_4)), (qa 38, .inl (cI, 4, .inl k38_53_4)), (qa 39, .inl (cI, 4, .inl k39_53_4)), (qa 40, .inl (cI, 4, .inl k40_53_4)), (qa 41, .inl (cI, 4, .inl k41_53_4)), (qa 42, .inl (cI, 4, .inl k42_53_4)), (qa 43, .inl (cI, 4, .inl k43_53_4)), (qa 44, .inl (cI, 4, .inl k44_53_4)), (qa 45, .inl (cI, 4, .inl k45_53_4)), (qa 46, .inl (cI, 4, .inl k46_53_4)), (qa 47, .inl (cI, 4, .inl ja47))]) (va_runV (As := []) (rest := []) ⟨hx, hb, hml, hown, hts⟩ (m_mix l dC dI H.size h qa x2 x3 x4 x13 x14 y15_53_4 y16_53_4 ja_17 ja_18 ja_19 y20_53_4 ja_21 x22 x23 x24 y26_53_4 y27_53_4 y28_53_4 cI cB cJ cZ g5 g8 g9 g10 g29 g30 k31_53_4 k48_53_4 k49_53_4 k51_53_4 g52 k50_53_4 kk (hk1) (hk2) (r_g5) (r_g8) (r_g9) (r_k31_53_4) (r_k48_53_4) (r_k50_53_4) (h_y16_53_4)) (cwV 0 hts (gG_V kw_914 kw_915 kw_916 kw_5 kw_917) rfl rfl rfl (by decide +kernel) ⟨Nat.le_of_ble_eq_true rfl, Nat.le_of_ble_eq_true rfl⟩) (g_preV (C := RX11) (T := TX11) (N := 53) hP hD hK hS hA hN hZ (q0 := 9) rfl rfl [9, 10, 0, 1, 2, 6, 7, 13, 30, 31, 32, 33, 8] (by decide +kernel) rfl [0, 1, 3, 2] rfl) rfl rfl hl.1 rfl (lv_room (Nat.le_of_ble_eq_true rfl)) dX11_oneTick_63 ⟨Nat.le_of_ble_eq_true rfl, Nat.le_of_ble_eq_true rfl⟩) hP hD hK hS hA [9, 10, 0, 1, 2, 6, 7, 13, 30, 31, 32, 33, 8] [3, 4, 5, 11, 12, 14, 15, 16, 17, 18, 19, 20, 21, 22, 23, 24, 25, 26, 27, 28, 29] rfl rfl (by decide +kernel) (by decide +kernel) (fun w ty1 H locs hw_63 hP hD _ hS => ?_)
    rcases hw_63 with ⟨y22_63, y24_63, k29_63, k30_63, k51_63, k50_63, hu, r_k50_63, h_y24_63⟩
    cases hu
    have hP : va_P (dC, dI) vwCl [(qa 11, .inl (cI, 2048, .inl g11)), (qa 12, .inl (cI, 128, .inl g12)), (qa 25, .inl (cZ, 8192, .inl ja25)), (qa 6, .inl (cI, 32, .inl g6)), (qa 7, .inl (cI, 32, .inl g7)), (qa 32, .inl (cI, 4, .inl k32_53_4)), (qa 33, .inl (cI, 4, .inl k33_53_4)), (qa 34, .inl (cI, 4, .inl k34_53_4)), (qa 35, .inl (cI, 4, .inl k35_53_4)), (qa 36, .inl (cI, 4, .inl k36_53_4)), (qa 37, .inl (cI, 4, .inl k37_53_4)), (qa 38, .inl (cI, 4, .inl k38_53_4)), (qa 39, .inl (cI, 4, .inl k39_53_4)), (qa 40, .inl (cI, 4, .inl k40_53_4)), (qa 41, .inl (cI, 4, .inl k41_53_4)), (qa 42, .inl (cI, 4, .inl k42_53_4)), (qa 43, .inl (cI, 4, .inl k43_53_4)), (qa 44, .inl (cI, 4, .inl k44_53_4)), (qa 45, .inl (cI, 4, .inl k45_53_4)), (qa 46, .inl (cI, 4, .inl k46_53_4)), (qa 47, .inl (cI, 4, .inl ja47)), (h, .inr (10, mdF qa (nI kk) x2 x3 x4 x13 x14 y15_53_4 y16_53_4 ja_17 ja_18 ja_19 y20_53_4 ja_21 y22_63 x23 y24_63 y26_53_4 y27_53_4 y28_53_4)), (qa 5, .inl (cI, 32, .inl g5)), (qa 8, .inl (cI, 32, .inl g8)), (qa 9, .inl (cI, 32, .inl g9)), (qa 10, .inl (cB, 64000, .inl g10)), (qa 29, .inl (cI, 1300, .inl k29_63)), (qa 30, .inl (cI, 1300, .inl k30_63)), (qa 31, .inl (cI, 4, .inl k31_53_4)), (qa 48, .inl (cI, 4, .inl k48_53_4)), (qa 49, .inl (cI, 4, .inl k49_53_4)), (qa 50, .inl (cJ, 4, .inr (.inl k50_63))), (qa 51, .inl (cZ, 4, .inl k51_63)), (qa 52, .inl (cZ, 4, .inl g52))] H := hP
    have hD : va_D A [(qa 11, .inl (cI, 2048, .inl g11)), (qa 12, .inl (cI, 128, .inl g12)), (qa 25, .inl (cZ, 8192, .inl ja25)), (qa 6, .inl (cI, 32, .inl g6)), (qa 7, .inl (cI, 32, .inl g7)), (qa 32, .inl (cI, 4, .inl k32_53_4)), (qa 33, .inl (cI, 4, .inl k33_53_4)), (qa 34, .inl (cI, 4, .inl k34_53_4)), (qa 35, .inl (cI, 4, .inl k35_53_4)), (qa 36, .inl (cI, 4, .inl k36_53_4)), (qa 37, .inl (cI, 4, .inl k37_53_4)), (qa 38, .inl (cI, 4, .inl k38_53_4)), (qa 39, .inl (cI, 4, .inl k39_53_4)), (qa 40, .inl (cI, 4, .inl k40_53_4)), (qa 41, .inl (cI, 4, .inl k41_53_4)), (qa 42, .inl (cI, 4, .inl k42_53_4)), (qa 43, .inl (cI, 4, .inl k43_53_4)), (qa 44, .inl (cI, 4, .inl k44_53_4)), (qa 45, .inl (cI, 4, .inl k45_53_4)), (qa 46, .inl (cI, 4, .inl k46_53_4)), (qa 47, .inl (cI, 4, .inl ja47)), (h, .inr (10, mdF qa (nI kk) x2 x3 x4 x13 x14 y15_53_4 y16_53_4 ja_17 ja_18 ja_19 y20_53_4 ja_21 y22_63 x23 y24_63 y26_53_4 y27_53_4 y28_53_4)), (qa 5, .inl (cI, 32, .inl g5)), (qa 8, .inl (cI, 32, .inl g8)), (qa 9, .inl (cI, 32, .inl g9)), (qa 10, .inl (cB, 64000, .inl g10)), (qa 29, .inl (cI, 1300, .inl k29_63)), (qa 30, .inl (cI, 1300, .inl k30_63)), (qa 31, .inl (cI, 4, .inl k31_53_4)), (qa 48, .inl (cI, 4, .inl k48_53_4)), (qa 49, .inl (cI, 4, .inl k49_53_4)), (qa 50, .inl (cJ, 4, .inr (.inl k50_63))), (qa 51, .inl (cZ, 4, .inl k51_63)), (qa 52, .inl (cZ, 4, .inl g52))] := hD
    refine lv_aload_n hx hb dX11_oneTick_66 rfl (lv_at hl 1 rfl) ?_
    refine lv_dup hx hb dX11_oneTick_67 rfl ?_
    refine va_get (D := (dC, dI)) (ci := 10) (v := .int x23) (C := RX11) (T := TX11) (N := 53) hx hb hts iwX11 hown hK hP 21 rfl rfl 23 (by decide) (hts (.fieldLink RX11 224 "ModulePlayerModel" "ticks" "I") (List.mem_cons_of_mem _ kw_227)) (fun _ h9 => h9) rfl dX11_oneTick_68 ?_
    refine lv_iconst (v := 1) hx hb dX11_oneTick_71 (by decide) ?_
    refine lv_iadd hx hb dX11_oneTick_72 ?_
    refine va_put (D := (dC, dI)) (ci := 10) (v := .int (x23 + 1)) (ty := tyX11 23) (C := RX11) (T := TX11) (N := 53) hx hb hts iwX11 tyX11 tyX11_ok nmX11 hown hK hP hD hS 21 rfl rfl 23 (by decide) (hts (.fieldLink RX11 224 "ModulePlayerModel" "ticks" "I") (List.mem_cons_of_mem _ kw_227)) (fun _ h9 => h9) rfl (by decide +kernel) (rfl) (rfl) (Nat.le_of_ble_eq_true rfl) dX11_oneTick_73 (fun H locs hP hD hS => ?_)
    have hP : va_P (dC, dI) vwCl [(qa 11, .inl (cI, 2048, .inl g11)), (qa 12, .inl (cI, 128, .inl g12)), (qa 25, .inl (cZ, 8192, .inl ja25)), (qa 6, .inl (cI, 32, .inl g6)), (qa 7, .inl (cI, 32, .inl g7)), (qa 32, .inl (cI, 4, .inl k32_53_4)), (qa 33, .inl (cI, 4, .inl k33_53_4)), (qa 34, .inl (cI, 4, .inl k34_53_4)), (qa 35, .inl (cI, 4, .inl k35_53_4)), (qa 36, .inl (cI, 4, .inl k36_53_4)), (qa 37, .inl (cI, 4, .inl k37_53_4)), (qa 38, .inl (cI, 4, .inl k38_53_4)), (qa 39, .inl (cI, 4, .inl k39_53_4)), (qa 40, .inl (cI, 4, .inl k40_53_4)), (qa 41, .inl (cI, 4, .inl k41_53_4)), (qa 42, .inl (cI, 4, .inl k42_53_4)), (qa 43, .inl (cI, 4, .inl k43_53_4)), (qa 44, .inl (cI, 4, .inl k44_53_4)), (qa 45, .inl (cI, 4, .inl k45_53_4)), (qa 46, .inl (cI, 4, .inl k46_53_4)), (qa 47, .inl (cI, 4, .inl ja47)), (h, .inr (10, mdF qa (nI kk) x2 x3 x4 x13 x14 y15_53_4 y16_53_4 ja_17 ja_18 ja_19 y20_53_4 ja_21 y22_63 (x23 + 1) y24_63 y26_53_4 y27_53_4 y28_53_4)), (qa 5, .inl (cI, 32, .inl g5)), (qa 8, .inl (cI, 32, .inl g8)), (qa 9, .inl (cI, 32, .inl g9)), (qa 10, .inl (cB, 64000, .inl g10)), (qa 29, .inl (cI, 1300, .inl k29_63)), (qa 30, .inl (cI, 1300, .inl k30_63)), (qa 31, .inl (cI, 4, .inl k31_53_4)), (qa 48, .inl (cI, 4, .inl k48_53_4)), (qa 49, .inl (cI, 4, .inl k49_53_4)), (qa 50, .inl (cJ, 4, .inr (.inl k50_63))), (qa 51, .inl (cZ, 4, .inl k51_63)), (qa 52, .inl (cZ, 4, .inl g52))] H := hP
    have hD : va_D A [(qa 11, .inl (cI, 2048, .inl g11)), (qa 12, .inl (cI, 128, .inl g12)), (qa 25, .inl (cZ, 8192, .inl ja25)), (qa 6, .inl (cI, 32, .inl g6)), (qa 7, .inl (cI, 32, .inl g7)), (qa 32, .inl (cI, 4, .inl k32_53_4)), (qa 33, .inl (cI, 4, .inl k33_53_4)), (qa 34, .inl (cI, 4, .inl k34_53_4)), (qa 35, .inl (cI, 4, .inl k35_53_4)), (qa 36, .inl (cI, 4, .inl k36_53_4)), (qa 37, .inl (cI, 4, .inl k37_53_4)), (qa 38, .inl (cI, 4, .inl k38_53_4)), (qa 39, .inl (cI, 4, .inl k39_53_4)), (qa 40, .inl (cI, 4, .inl k40_53_4)), (qa 41, .inl (cI, 4, .inl k41_53_4)), (qa 42, .inl (cI, 4, .inl k42_53_4)), (qa 43, .inl (cI, 4, .inl k43_53_4)), (qa 44, .inl (cI, 4, .inl k44_53_4)), (qa 45, .inl (cI, 4, .inl k45_53_4)), (qa 46, .inl (cI, 4, .inl k46_53_4)), (qa 47, .inl (cI, 4, .inl ja47)), (h, .inr (10, mdF qa (nI kk) x2 x3 x4 x13 x14 y15_53_4 y16_53_4 ja_17 ja_18 ja_19 y20_53_4 ja_21 y22_63 (x23 + 1) y24_63 y26_53_4 y27_53_4 y28_53_4)), (qa 5, .inl (cI, 32, .inl g5)), (qa 8, .inl (cI, 32, .inl g8)), (qa 9, .inl (cI, 32, .inl g9)), (qa 10, .inl (cB, 64000, .inl g10)), (qa 29, .inl (cI, 1300, .inl k29_63)), (qa 30, .inl (cI, 1300, .inl k30_63)), (qa 31, .inl (cI, 4, .inl k31_53_4)), (qa 48, .inl (cI, 4, .inl k48_53_4)), (qa 49, .inl (cI, 4, .inl k49_53_4)), (qa 50, .inl (cJ, 4, .inr (.inl k50_63))), (qa 51, .inl (cZ, 4, .inl k51_63)), (qa 52, .inl (cZ, 4, .inl g52))] := hD
    have hP9 := hP.sub (ws' := [(h, .inr (10, mdF qa (nI kk) x2 x3 x4 x13 x14 y15_53_4 y16_53_4 ja_17 ja_18 ja_19 y20_53_4 ja_21 y22_63 (x23 + 1) y24_63 y26_53_4 y27_53_4 y28_53_4)), (qa 5, .inl (cI, 32, .inl g5)), (qa 6, .inl (cI, 32, .inl g6)), (qa 7, .inl (cI, 32, .inl g7)), (qa 8, .inl (cI, 32, .inl g8)), (qa 9, .inl (cI, 32, .inl g9)), (qa 10, .inl (cB, 64000, .inl g10)), (qa 11, .inl (cI, 2048, .inl g11)), (qa 12, .inl (cI, 128, .inl g12)), (qa 25, .inl (cZ, 8192, .inl ja25)), (qa 29, .inl (cI, 1300, .inl k29_63)), (qa 30, .inl (cI, 1300, .inl k30_63)), (qa 31, .inl (cI, 4, .inl k31_53_4)), (qa 32, .inl (cI, 4, .inl k32_53_4)), (qa 33, .inl (cI, 4, .inl k33_53_4)), (qa 34, .inl (cI, 4, .inl k34_53_4)), (qa 35, .inl (cI, 4, .inl k35_53_4)), (qa 36, .inl (cI, 4, .inl k36_53_4)), (qa 37, .inl (cI, 4, .inl k37_53_4)), (qa 38, .inl (cI, 4, .inl k38_53_4)), (qa 39, .inl (cI, 4, .inl k39_53_4)), (qa 40, .inl (cI, 4, .inl k40_53_4)), (qa 41, .inl (cI, 4, .inl k41_53_4)), (qa 42, .inl (cI, 4, .inl k42_53_4)), (qa 43, .inl (cI, 4, .inl k43_53_4)), (qa 44, .inl (cI, 4, .inl k44_53_4)), (qa 45, .inl (cI, 4, .inl k45_53_4)), (qa 46, .inl (cI, 4, .inl k46_53_4)), (qa 47, .inl (cI, 4, .inl ja47)), (qa 48, .inl (cI, 4, .inl k48_53_4)), (qa 49, .inl (cI, 4, .inl k49_53_4)), (qa 50, .inl (cJ, 4, .inr (.inl k50_63))), (qa 51, .inl (cZ, 4, .inl k51_63)), (qa 52, .inl (cZ, 4, .inl g52))]) [21, 22, 3, 4, 23, 24, 25, 0, 1, 2, 26, 27, 28, 5, 6, 7, 8, 9, 10, 11, 12, 13, 14, 15, 16, 17, 18, 19, 20, 29, 30, 31, 32, 33] rfl
    have hD9 := hD.sub (ws' := [(h, .inr (10, mdF qa (nI kk) x2 x3 x4 x13 x14 y15_53_4 y16_53_4 ja_17 ja_18 ja_19 y20_53_4 ja_21 y22_63 (x23 + 1) y24_63 y26_53_4 y27_53_4 y28_53_4)), (qa 5, .inl (cI, 32, .inl g5)), (qa 6, .inl (cI, 32, .inl g6)), (qa 7, .inl (cI, 32, .inl g7)), (qa 8, .inl (cI, 32, .inl g8)), (qa 9, .inl (cI, 32, .inl g9)), (qa 10, .inl (cB, 64000, .inl g10)), (qa 11, .inl (cI, 2048, .inl g11)), (qa 12, .inl (cI, 128, .inl g12)), (qa 25, .inl (cZ, 8192, .inl ja25)), (qa 29, .inl (cI, 1300, .inl k29_63)), (qa 30, .inl (cI, 1300, .inl k30_63)), (qa 31, .inl (cI, 4, .inl k31_53_4)), (qa 32, .inl (cI, 4, .inl k32_53_4)), (qa 33, .inl (cI, 4, .inl k33_53_4)), (qa 34, .inl (cI, 4, .inl k34_53_4)), (qa 35, .inl (cI, 4, .inl k35_53_4)), (qa 36, .inl (cI, 4, .inl k36_53_4)), (qa 37, .inl (cI, 4, .inl k37_53_4)), (qa 38, .inl (cI, 4, .inl k38_53_4)), (qa 39, .inl (cI, 4, .inl k39_53_4)), (qa 40, .inl (cI, 4, .inl k40_53_4)), (qa 41, .inl (cI, 4, .inl k41_53_4)), (qa 42, .inl (cI, 4, .inl k42_53_4)), (qa 43, .inl (cI, 4, .inl k43_53_4)), (qa 44, .inl (cI, 4, .inl k44_53_4)), (qa 45, .inl (cI, 4, .inl k45_53_4)), (qa 46, .inl (cI, 4, .inl k46_53_4)), (qa 47, .inl (cI, 4, .inl ja47)), (qa 48, .inl (cI, 4, .inl k48_53_4)), (qa 49, .inl (cI, 4, .inl k49_53_4)), (qa 50, .inl (cJ, 4, .inr (.inl k50_63))), (qa 51, .inl (cZ, 4, .inl k51_63)), (qa 52, .inl (cZ, 4, .inl g52))]) [21, 22, 3, 4, 23, 24, 25, 0, 1, 2, 26, 27, 28, 5, 6, 7, 8, 9, 10, 11, 12, 13, 14, 15, 16, 17, 18, 19, 20, 29, 30, 31, 32, 33] (by decide +kernel) rfl
    have hK9 := hK.sub (tys' := []) [] rfl
    exact W.vret hx hb hr (fun t ht hW => ⟨⟨_, rfl, ⟨y15_53_4, y16_53_4, ja_17, ja_18, ja_19, y20_53_4, ja_21, y22_63, y24_63, y26_53_4, y27_53_4, y28_53_4, ja25, k29_63, k30_63, k31_53_4, k32_53_4, k33_53_4, k34_53_4, k35_53_4, k36_53_4, k37_53_4, k38_53_4, k39_53_4, k40_53_4, k41_53_4, k42_53_4, k43_53_4, k44_53_4, k45_53_4, k46_53_4, ja47, k48_53_4, k49_53_4, k51_63, k50_63, rfl, (Or.inr ⟨h_ja_17, h_ja_18, h_y26_53_4, h_y27_53_4, h_y28_53_4⟩), r_k31_53_4, r_k34_53_4, r_k36_53_4, r_k37_53_4, r_k44_53_4, r_k45_53_4, r_k48_53_4, r_k50_63, h_y16_53_4, h_y24_63⟩, by rw [ht]; exact hP9, va_K.moved hW.alike hK9, hD9⟩, hS.F ht⟩) hS.2.2 dX11_oneTick_76
  refine lv_aload_n hx hb dX11_oneTick_0 rfl (lv_at hl 0 rfl) ?_
  refine va_get (D := (dC, dI)) (ci := 10) (v := .int x23) (C := RX11) (T := TX11) (N := 53) hx hb hts iwX11 hown hK hP 0 rfl rfl 23 (by decide) (hts (.fieldLink RX11 224 "ModulePlayerModel" "ticks" "I") (List.mem_cons_of_mem _ kw_227)) (fun _ h9 => h9) rfl dX11_oneTick_1 ?_
  refine lv_if_eq (tgt := 27) hx hb dX11_oneTick_4 (by decide) (fun c_4 => ?_) (fun c_4 => ?_)
  · refine lv_aload_n hx hb dX11_oneTick_27 rfl (lv_at hl 0 rfl) ?_
    refine g_callv (wr := [(qa 5, .inl (cI, 32, .inl g5)), (qa 6, .inl (cI, 32, .inl g6)), (qa 7, .inl (cI, 32, .inl g7)), (qa 8, .inl (cI, 32, .inl g8)), (qa 9, .inl (cI, 32, .inl g9)), (qa 10, .inl (cB, 64000, .inl g10)), (qa 29, .inl (cI, 1300, .inl g29)), (qa 30, .inl (cI, 1300, .inl g30)), (qa 31, .inl (cI, 4, .inl g31)), (qa 32, .inl (cI, 4, .inl g32)), (qa 33, .inl (cI, 4, .inl g33)), (qa 34, .inl (cI, 4, .inl g34)), (qa 35, .inl (cI, 4, .inl g35)), (qa 36, .inl (cI, 4, .inl g36)), (qa 37, .inl (cI, 4, .inl g37)), (qa 38, .inl (cI, 4, .inl g38)), (qa 39, .inl (cI, 4, .inl g39)), (qa 40, .inl (cI, 4, .inl g40)), (qa 41, .inl (cI, 4, .inl g41)), (qa 42, .inl (cI, 4, .inl g42)), (qa 43, .inl (cI, 4, .inl g43)), (qa 44, .inl (cI, 4, .inl g44)), (qa 45, .inl (cI, 4, .inl g45)), (qa 48, .inl (cI, 4, .inl g48)), (qa 49, .inl (cI, 4, .inl g49)), (qa 50, .inl (cJ, 4, .inr (.inl g50))), (qa 51, .inl (cZ, 4, .inl g51)), (qa 52, .inl (cZ, 4, .inl g52))]) (va_runV (As := []) (rest := []) ⟨hx, hb, hml, hown, hts⟩ (m_beginRow l dC dI H.size h qa (nI kk) x2 x3 x4 x13 x14 x15 x16 x17 x18 x19 x20 x21 x22 x23 x24 x26 x27 x28 cI cZ g11 g12 g25 g46 g47 (hpr) (r_g12) (h_x13) (h_x14)) (cwV 0 hts (gG_V kw_837 kw_838 kw_839 kw_5 kw_840) rfl rfl rfl (by decide +kernel) ⟨Nat.le_of_ble_eq_true rfl, Nat.le_of_ble_eq_true rfl⟩) (g_preV (C := RX11) (T := TX11) (N := 53) hP hD hK hS hA hN hZ (q0 := 0) rfl rfl [0, 7, 8, 9, 27, 28] (by decide +kernel) rfl [0, 2] rfl) rfl rfl hl.1 rfl (lv_room (Nat.le_of_ble_eq_true rfl)) dX11_oneTick_28 ⟨Nat.le_of_ble_eq_true rfl, Nat.le_of_ble_eq_true rfl⟩) hP hD hK hS hA [0, 7, 8, 9, 27, 28] [1, 2, 3, 4, 5, 6, 10, 11, 12, 13, 14, 15, 16, 17, 18, 19, 20, 21, 22, 23, 24, 25, 26, 29, 30, 31, 32, 33] rfl rfl (by decide +kernel) (by decide +kernel) (fun w ty1 H locs hw_28 hP hD _ hS => ?_)
    rcases hw_28 with ⟨y17_28, y18_28, y19_28, y20_28, y21_28, y26_28, y27_28, y28_28, k25_28, k47_28, hu, h_y17_28, h_y18_28, h_y26_28, h_y27_28, h_y28_28⟩
    cases hu
    have hP : va_P (dC, dI) vwCl [(qa 5, .inl (cI, 32, .inl g5)), (qa 6, .inl (cI, 32, .inl g6)), (qa 7, .inl (cI, 32, .inl g7)), (qa 8, .inl (cI, 32, .inl g8)), (qa 9, .inl (cI, 32, .inl g9)), (qa 10, .inl (cB, 64000, .inl g10)), (qa 29, .inl (cI, 1300, .inl g29)), (qa 30, .inl (cI, 1300, .inl g30)), (qa 31, .inl (cI, 4, .inl g31)), (qa 32, .inl (cI, 4, .inl g32)), (qa 33, .inl (cI, 4, .inl g33)), (qa 34, .inl (cI, 4, .inl g34)), (qa 35, .inl (cI, 4, .inl g35)), (qa 36, .inl (cI, 4, .inl g36)), (qa 37, .inl (cI, 4, .inl g37)), (qa 38, .inl (cI, 4, .inl g38)), (qa 39, .inl (cI, 4, .inl g39)), (qa 40, .inl (cI, 4, .inl g40)), (qa 41, .inl (cI, 4, .inl g41)), (qa 42, .inl (cI, 4, .inl g42)), (qa 43, .inl (cI, 4, .inl g43)), (qa 44, .inl (cI, 4, .inl g44)), (qa 45, .inl (cI, 4, .inl g45)), (qa 48, .inl (cI, 4, .inl g48)), (qa 49, .inl (cI, 4, .inl g49)), (qa 50, .inl (cJ, 4, .inr (.inl g50))), (qa 51, .inl (cZ, 4, .inl g51)), (qa 52, .inl (cZ, 4, .inl g52)), (h, .inr (10, mdF qa (nI kk) x2 x3 x4 x13 x14 x15 x16 y17_28 y18_28 y19_28 y20_28 y21_28 x22 x23 x24 y26_28 y27_28 y28_28)), (qa 11, .inl (cI, 2048, .inl g11)), (qa 12, .inl (cI, 128, .inl g12)), (qa 25, .inl (cZ, 8192, .inl k25_28)), (qa 46, .inl (cI, 4, .inl g46)), (qa 47, .inl (cI, 4, .inl k47_28))] H := hP
    have hD : va_D A [(qa 5, .inl (cI, 32, .inl g5)), (qa 6, .inl (cI, 32, .inl g6)), (qa 7, .inl (cI, 32, .inl g7)), (qa 8, .inl (cI, 32, .inl g8)), (qa 9, .inl (cI, 32, .inl g9)), (qa 10, .inl (cB, 64000, .inl g10)), (qa 29, .inl (cI, 1300, .inl g29)), (qa 30, .inl (cI, 1300, .inl g30)), (qa 31, .inl (cI, 4, .inl g31)), (qa 32, .inl (cI, 4, .inl g32)), (qa 33, .inl (cI, 4, .inl g33)), (qa 34, .inl (cI, 4, .inl g34)), (qa 35, .inl (cI, 4, .inl g35)), (qa 36, .inl (cI, 4, .inl g36)), (qa 37, .inl (cI, 4, .inl g37)), (qa 38, .inl (cI, 4, .inl g38)), (qa 39, .inl (cI, 4, .inl g39)), (qa 40, .inl (cI, 4, .inl g40)), (qa 41, .inl (cI, 4, .inl g41)), (qa 42, .inl (cI, 4, .inl g42)), (qa 43, .inl (cI, 4, .inl g43)), (qa 44, .inl (cI, 4, .inl g44)), (qa 45, .inl (cI, 4, .inl g45)), (qa 48, .inl (cI, 4, .inl g48)), (qa 49, .inl (cI, 4, .inl g49)), (qa 50, .inl (cJ, 4, .inr (.inl g50))), (qa 51, .inl (cZ, 4, .inl g51)), (qa 52, .inl (cZ, 4, .inl g52)), (h, .inr (10, mdF qa (nI kk) x2 x3 x4 x13 x14 x15 x16 y17_28 y18_28 y19_28 y20_28 y21_28 x22 x23 x24 y26_28 y27_28 y28_28)), (qa 11, .inl (cI, 2048, .inl g11)), (qa 12, .inl (cI, 128, .inl g12)), (qa 25, .inl (cZ, 8192, .inl k25_28)), (qa 46, .inl (cI, 4, .inl g46)), (qa 47, .inl (cI, 4, .inl k47_28))] := hD
    refine lv_goto (tgt := 44) hx hb dX11_oneTick_31 (by decide) ?_
    exact LP44 y17_28 y18_28 y19_28 y20_28 y21_28 y26_28 y27_28 y28_28 k25_28 k47_28 (h_y17_28) (h_y18_28) (h_y26_28) (h_y27_28) (h_y28_28) _ _ (hP.sub [28, 0, 1, 2, 3, 4, 5, 29, 30, 31, 6, 7, 8, 9, 10, 11, 12, 13, 14, 15, 16, 17, 18, 19, 20, 21, 22, 32, 33, 23, 24, 25, 26, 27] rfl) (hD.sub [28, 0, 1, 2, 3, 4, 5, 29, 30, 31, 6, 7, 8, 9, 10, 11, 12, 13, 14, 15, 16, 17, 18, 19, 20, 21, 22, 32, 33, 23, 24, 25, 26, 27] (by decide +kernel) rfl) hS _ (lv_sub hl [0] rfl)
  have hpr2 := hpr
  rcases hpr with hp0 | ⟨h_x17, h_x18, h_x26, h_x27, h_x28⟩
  · exact absurd hp0 c_4
  refine lv_aload_n hx hb dX11_oneTick_7 rfl (lv_at hl 0 rfl) ?_
  refine va_get (D := (dC, dI)) (ci := 10) (v := .int x19) (C := RX11) (T := TX11) (N := 53) hx hb hts iwX11 hown hK hP 0 rfl rfl 19 (by decide) (hts (.fieldLink RX11 209 "ModulePlayerModel" "tick" "I") (List.mem_cons_of_mem _ kw_222)) (fun _ h9 => h9) rfl dX11_oneTick_8 ?_
  refine lv_iconst (v := 1) hx hb dX11_oneTick_11 (by decide) ?_
  refine lv_iadd hx hb dX11_oneTick_12 ?_
  refine lv_topi (fun tv_12 etv_12 => ?_)
  refine lv_aload_n hx hb dX11_oneTick_13 rfl (lv_at hl 0 rfl) ?_
  refine va_get (D := (dC, dI)) (ci := 10) (v := .int x15) (C := RX11) (T := TX11) (N := 53) hx hb hts iwX11 hown hK hP 0 rfl rfl 15 (by decide) (hts (.fieldLink RX11 197 "ModulePlayerModel" "speed" "I") (List.mem_cons_of_mem _ kw_218)) (fun _ h9 => h9) rfl dX11_oneTick_14 ?_
  refine lv_iconst (v := 1) hx hb dX11_oneTick_17 (by decide) ?_
  refine lv_aload_n hx hb dX11_oneTick_18 rfl (lv_at hl 0 rfl) ?_
  refine va_get (D := (dC, dI)) (ci := 10) (v := .int x20) (C := RX11) (T := TX11) (N := 53) hx hb hts iwX11 hown hK hP 0 rfl rfl 20 (by decide) (hts (.fieldLink RX11 215 "ModulePlayerModel" "delay" "I") (List.mem_cons_of_mem _ kw_224)) (fun _ h9 => h9) rfl dX11_oneTick_19 ?_
  refine lv_iadd hx hb dX11_oneTick_22 ?_
  refine lv_topi (fun tv_22 etv_22 => ?_)
  refine lv_imul hx hb dX11_oneTick_23 ?_
  refine lv_topi (fun tv_23 etv_23 => ?_)
  refine lv_icmp_lt (tgt := 34) hx hb dX11_oneTick_24 (by decide) (fun c_24 => ?_) (fun c_24 => ?_)
  · refine lv_aload_n hx hb dX11_oneTick_34 rfl (lv_at hl 0 rfl) ?_
    refine lv_dup hx hb dX11_oneTick_35 rfl ?_
    refine va_get (D := (dC, dI)) (ci := 10) (v := .int x19) (C := RX11) (T := TX11) (N := 53) hx hb hts iwX11 hown hK hP 0 rfl rfl 19 (by decide) (hts (.fieldLink RX11 209 "ModulePlayerModel" "tick" "I") (List.mem_cons_of_mem _ kw_222)) (fun _ h9 => h9) rfl dX11_oneTick_36 ?_
    refine lv_iconst (v := 1) hx hb dX11_oneTick_39 (by decide) ?_
    refine lv_iadd hx hb dX11_oneTick_40 ?_
    refine lv_topi (fun tv_40 etv_40 => ?_)
    refine va_put (D := (dC, dI)) (ci := 10) (v := .int tv_40) (ty := tyX11 19) (C := RX11) (T := TX11) (N := 53) hx hb hts iwX11 tyX11 tyX11_ok nmX11 hown hK hP hD hS 0 rfl rfl 19 (by decide) (hts (.fieldLink RX11 209 "ModulePlayerModel" "tick" "I") (List.mem_cons_of_mem _ kw_222)) (fun _ h9 => h9) rfl (by decide +kernel) (rfl) (rfl) (Nat.le_of_ble_eq_true rfl) dX11_oneTick_41 (fun H locs hP hD hS => ?_)
    have hP : va_P (dC, dI) vwCl [(h, .inr (10, mdF qa (nI kk) x2 x3 x4 x13 x14 x15 x16 x17 x18 tv_40 x20 x21 x22 x23 x24 x26 x27 x28)), (qa 5, .inl (cI, 32, .inl g5)), (qa 6, .inl (cI, 32, .inl g6)), (qa 7, .inl (cI, 32, .inl g7)), (qa 8, .inl (cI, 32, .inl g8)), (qa 9, .inl (cI, 32, .inl g9)), (qa 10, .inl (cB, 64000, .inl g10)), (qa 11, .inl (cI, 2048, .inl g11)), (qa 12, .inl (cI, 128, .inl g12)), (qa 25, .inl (cZ, 8192, .inl g25)), (qa 29, .inl (cI, 1300, .inl g29)), (qa 30, .inl (cI, 1300, .inl g30)), (qa 31, .inl (cI, 4, .inl g31)), (qa 32, .inl (cI, 4, .inl g32)), (qa 33, .inl (cI, 4, .inl g33)), (qa 34, .inl (cI, 4, .inl g34)), (qa 35, .inl (cI, 4, .inl g35)), (qa 36, .inl (cI, 4, .inl g36)), (qa 37, .inl (cI, 4, .inl g37)), (qa 38, .inl (cI, 4, .inl g38)), (qa 39, .inl (cI, 4, .inl g39)), (qa 40, .inl (cI, 4, .inl g40)), (qa 41, .inl (cI, 4, .inl g41)), (qa 42, .inl (cI, 4, .inl g42)), (qa 43, .inl (cI, 4, .inl g43)), (qa 44, .inl (cI, 4, .inl g44)), (qa 45, .inl (cI, 4, .inl g45)), (qa 46, .inl (cI, 4, .inl g46)), (qa 47, .inl (cI, 4, .inl g47)), (qa 48, .inl (cI, 4, .inl g48)), (qa 49, .inl (cI, 4, .inl g49)), (qa 50, .inl (cJ, 4, .inr (.inl g50))), (qa 51, .inl (cZ, 4, .inl g51)), (qa 52, .inl (cZ, 4, .inl g52))] H := hP
    have hD : va_D A [(h, .inr (10, mdF qa (nI kk) x2 x3 x4 x13 x14 x15 x16 x17 x18 tv_40 x20 x21 x22 x23 x24 x26 x27 x28)), (qa 5, .inl (cI, 32, .inl g5)), (qa 6, .inl (cI, 32, .inl g6)), (qa 7, .inl (cI, 32, .inl g7)), (qa 8, .inl (cI, 32, .inl g8)), (qa 9, .inl (cI, 32, .inl g9)), (qa 10, .inl (cB, 64000, .inl g10)), (qa 11, .inl (cI, 2048, .inl g11)), (qa 12, .inl (cI, 128, .inl g12)), (qa 25, .inl (cZ, 8192, .inl g25)), (qa 29, .inl (cI, 1300, .inl g29)), (qa 30, .inl (cI, 1300, .inl g30)), (qa 31, .inl (cI, 4, .inl g31)), (qa 32, .inl (cI, 4, .inl g32)), (qa 33, .inl (cI, 4, .inl g33)), (qa 34, .inl (cI, 4, .inl g34)), (qa 35, .inl (cI, 4, .inl g35)), (qa 36, .inl (cI, 4, .inl g36)), (qa 37, .inl (cI, 4, .inl g37)), (qa 38, .inl (cI, 4, .inl g38)), (qa 39, .inl (cI, 4, .inl g39)), (qa 40, .inl (cI, 4, .inl g40)), (qa 41, .inl (cI, 4, .inl g41)), (qa 42, .inl (cI, 4, .inl g42)), (qa 43, .inl (cI, 4, .inl g43)), (qa 44, .inl (cI, 4, .inl g44)), (qa 45, .inl (cI, 4, .inl g45)), (qa 46, .inl (cI, 4, .inl g46)), (qa 47, .inl (cI, 4, .inl g47)), (qa 48, .inl (cI, 4, .inl g48)), (qa 49, .inl (cI, 4, .inl g49)), (qa 50, .inl (cJ, 4, .inr (.inl g50))), (qa 51, .inl (cZ, 4, .inl g51)), (qa 52, .inl (cZ, 4, .inl g52))] := hD
    exact LP44 x17 x18 tv_40 x20 x21 x26 x27 x28 g25 g47 (h_x17) (h_x18) (h_x26) (h_x27) (h_x28) _ _ hP hD hS _ (lv_sub hl [0] rfl)
  refine lv_aload_n hx hb dX11_oneTick_27 rfl (lv_at hl 0 rfl) ?_
  refine g_callv (wr := [(qa 5, .inl (cI, 32, .inl g5)), (qa 6, .inl (cI, 32, .inl g6)), (qa 7, .inl (cI, 32, .inl g7)), (qa 8, .inl (cI, 32, .inl g8)), (qa 9, .inl (cI, 32, .inl g9)), (qa 10, .inl (cB, 64000, .inl g10)), (qa 29, .inl (cI, 1300, .inl g29)), (qa 30, .inl (cI, 1300, .inl g30)), (qa 31, .inl (cI, 4, .inl g31)), (qa 32, .inl (cI, 4, .inl g32)), (qa 33, .inl (cI, 4, .inl g33)), (qa 34, .inl (cI, 4, .inl g34)), (qa 35, .inl (cI, 4, .inl g35)), (qa 36, .inl (cI, 4, .inl g36)), (qa 37, .inl (cI, 4, .inl g37)), (qa 38, .inl (cI, 4, .inl g38)), (qa 39, .inl (cI, 4, .inl g39)), (qa 40, .inl (cI, 4, .inl g40)), (qa 41, .inl (cI, 4, .inl g41)), (qa 42, .inl (cI, 4, .inl g42)), (qa 43, .inl (cI, 4, .inl g43)), (qa 44, .inl (cI, 4, .inl g44)), (qa 45, .inl (cI, 4, .inl g45)), (qa 48, .inl (cI, 4, .inl g48)), (qa 49, .inl (cI, 4, .inl g49)), (qa 50, .inl (cJ, 4, .inr (.inl g50))), (qa 51, .inl (cZ, 4, .inl g51)), (qa 52, .inl (cZ, 4, .inl g52))]) (va_runV (As := []) (rest := []) ⟨hx, hb, hml, hown, hts⟩ (m_beginRow l dC dI H.size h qa (nI kk) x2 x3 x4 x13 x14 x15 x16 x17 x18 x19 x20 x21 x22 x23 x24 x26 x27 x28 cI cZ g11 g12 g25 g46 g47 (hpr2) (r_g12) (h_x13) (h_x14)) (cwV 0 hts (gG_V kw_837 kw_838 kw_839 kw_5 kw_840) rfl rfl rfl (by decide +kernel) ⟨Nat.le_of_ble_eq_true rfl, Nat.le_of_ble_eq_true rfl⟩) (g_preV (C := RX11) (T := TX11) (N := 53) hP hD hK hS hA hN hZ (q0 := 0) rfl rfl [0, 7, 8, 9, 27, 28] (by decide +kernel) rfl [0, 2] rfl) rfl rfl hl.1 rfl (lv_room (Nat.le_of_ble_eq_true rfl)) dX11_oneTick_28 ⟨Nat.le_of_ble_eq_true rfl, Nat.le_of_ble_eq_true rfl⟩) hP hD hK hS hA [0, 7, 8, 9, 27, 28] [1, 2, 3, 4, 5, 6, 10, 11, 12, 13, 14, 15, 16, 17, 18, 19, 20, 21, 22, 23, 24, 25, 26, 29, 30, 31, 32, 33] rfl rfl (by decide +kernel) (by decide +kernel) (fun w ty1 H locs hw_28 hP hD _ hS => ?_)
  rcases hw_28 with ⟨y17_28, y18_28, y19_28, y20_28, y21_28, y26_28, y27_28, y28_28, k25_28, k47_28, hu, h_y17_28, h_y18_28, h_y26_28, h_y27_28, h_y28_28⟩
  cases hu
  have hP : va_P (dC, dI) vwCl [(qa 5, .inl (cI, 32, .inl g5)), (qa 6, .inl (cI, 32, .inl g6)), (qa 7, .inl (cI, 32, .inl g7)), (qa 8, .inl (cI, 32, .inl g8)), (qa 9, .inl (cI, 32, .inl g9)), (qa 10, .inl (cB, 64000, .inl g10)), (qa 29, .inl (cI, 1300, .inl g29)), (qa 30, .inl (cI, 1300, .inl g30)), (qa 31, .inl (cI, 4, .inl g31)), (qa 32, .inl (cI, 4, .inl g32)), (qa 33, .inl (cI, 4, .inl g33)), (qa 34, .inl (cI, 4, .inl g34)), (qa 35, .inl (cI, 4, .inl g35)), (qa 36, .inl (cI, 4, .inl g36)), (qa 37, .inl (cI, 4, .inl g37)), (qa 38, .inl (cI, 4, .inl g38)), (qa 39, .inl (cI, 4, .inl g39)), (qa 40, .inl (cI, 4, .inl g40)), (qa 41, .inl (cI, 4, .inl g41)), (qa 42, .inl (cI, 4, .inl g42)), (qa 43, .inl (cI, 4, .inl g43)), (qa 44, .inl (cI, 4, .inl g44)), (qa 45, .inl (cI, 4, .inl g45)), (qa 48, .inl (cI, 4, .inl g48)), (qa 49, .inl (cI, 4, .inl g49)), (qa 50, .inl (cJ, 4, .inr (.inl g50))), (qa 51, .inl (cZ, 4, .inl g51)), (qa 52, .inl (cZ, 4, .inl g52)), (h, .inr (10, mdF qa (nI kk) x2 x3 x4 x13 x14 x15 x16 y17_28 y18_28 y19_28 y20_28 y21_28 x22 x23 x24 y26_28 y27_28 y28_28)), (qa 11, .inl (cI, 2048, .inl g11)), (qa 12, .inl (cI, 128, .inl g12)), (qa 25, .inl (cZ, 8192, .inl k25_28)), (qa 46, .inl (cI, 4, .inl g46)), (qa 47, .inl (cI, 4, .inl k47_28))] H := hP
  have hD : va_D A [(qa 5, .inl (cI, 32, .inl g5)), (qa 6, .inl (cI, 32, .inl g6)), (qa 7, .inl (cI, 32, .inl g7)), (qa 8, .inl (cI, 32, .inl g8)), (qa 9, .inl (cI, 32, .inl g9)), (qa 10, .inl (cB, 64000, .inl g10)), (qa 29, .inl (cI, 1300, .inl g29)), (qa 30, .inl (cI, 1300, .inl g30)), (qa 31, .inl (cI, 4, .inl g31)), (qa 32, .inl (cI, 4, .inl g32)), (qa 33, .inl (cI, 4, .inl g33)), (qa 34, .inl (cI, 4, .inl g34)), (qa 35, .inl (cI, 4, .inl g35)), (qa 36, .inl (cI, 4, .inl g36)), (qa 37, .inl (cI, 4, .inl g37)), (qa 38, .inl (cI, 4, .inl g38)), (qa 39, .inl (cI, 4, .inl g39)), (qa 40, .inl (cI, 4, .inl g40)), (qa 41, .inl (cI, 4, .inl g41)), (qa 42, .inl (cI, 4, .inl g42)), (qa 43, .inl (cI, 4, .inl g43)), (qa 44, .inl (cI, 4, .inl g44)), (qa 45, .inl (cI, 4, .inl g45)), (qa 48, .inl (cI, 4, .inl g48)), (qa 49, .inl (cI, 4, .inl g49)), (qa 50, .inl (cJ, 4, .inr (.inl g50))), (qa 51, .inl (cZ, 4, .inl g51)), (qa 52, .inl (cZ, 4, .inl g52)), (h, .inr (10, mdF qa (nI kk) x2 x3 x4 x13 x14 x15 x16 y17_28 y18_28 y19_28 y20_28 y21_28 x22 x23 x24 y26_28 y27_28 y28_28)), (qa 11, .inl (cI, 2048, .inl g11)), (qa 12, .inl (cI, 128, .inl g12)), (qa 25, .inl (cZ, 8192, .inl k25_28)), (qa 46, .inl (cI, 4, .inl g46)), (qa 47, .inl (cI, 4, .inl k47_28))] := hD
  refine lv_goto (tgt := 44) hx hb dX11_oneTick_31 (by decide) ?_
  exact LP44 y17_28 y18_28 y19_28 y20_28 y21_28 y26_28 y27_28 y28_28 k25_28 k47_28 (h_y17_28) (h_y18_28) (h_y26_28) (h_y27_28) (h_y28_28) _ _ (hP.sub [28, 0, 1, 2, 3, 4, 5, 29, 30, 31, 6, 7, 8, 9, 10, 11, 12, 13, 14, 15, 16, 17, 18, 19, 20, 21, 22, 32, 33, 23, 24, 25, 26, 27] rfl) (hD.sub [28, 0, 1, 2, 3, 4, 5, 29, 30, 31, 6, 7, 8, 9, 10, 11, 12, 13, 14, 15, 16, 17, 18, 19, 20, 21, 22, 32, 33, 23, 24, 25, 26, 27] (by decide +kernel) rfl) hS _ (lv_sub hl [0] rfl)

