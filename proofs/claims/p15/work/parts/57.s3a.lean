set_option maxHeartbeats 400000 in
set_option maxRecDepth 100000 in
theorem k_bclear (l : Launch) (dC : Nat → ClassId) (dI : Nat → Nat → Nat) (sz : Nat) (h sa bb : Nat) (us : Int32) (ad : Nat → Nat) (cS : ClassId) (g : Nat → Option Nat) (le tu vo sr lo fr : Nat → Int32) (hg : ∀ x, x < 32 → g x = some (ad x)) : Met l yX0_clear (wsG (.code yX0_clear cX0_clear 2 none)) ({ frames := 0, cells := 0, slots := 0, locals := 0 }) (va_Pc [.ref h] (gP (dC, dI) [(cS, .object RX5)] (([(h, .inr (0, [.ref sa, .ref bb, .int us])), (sa, .inl (cS, 32, .inr (.inr (.inr (.inr g)))))] : va_W) ++ famN 32 ad le tu vo sr lo fr) sz)) (va_Qv (fun u : va_W × gT => ∃ (le2 : Nat → Int32) (fr2 : Nat → Int32), u = ((([(h, .inr (0, [.ref sa, .ref bb, .int 0])), (sa, .inl (cS, 32, .inr (.inr (.inr (.inr g)))))] : va_W) ++ famN 32 ad le2 tu vo sr lo fr2), []) ∧ bankOk (fun _ => 0) le2 fr2 0) (gB (dC, dI) (va_A (([(h, .inr (0, [.ref sa, .ref bb, .int us])), (sa, .inl (cS, 32, .inr (.inr (.inr (.inr g)))))] : va_W) ++ famN 32 ad le tu vo sr lo fr) sz)) (va_A (([(h, .inr (0, [.ref sa, .ref bb, .int us])), (sa, .inl (cS, 32, .inr (.inr (.inr (.inr g)))))] : va_W) ++ famN 32 ad le tu vo sr lo fr) sz)) 0 0 (va_A (([(h, .inr (0, [.ref sa, .ref bb, .int us])), (sa, .inl (cS, 32, .inr (.inr (.inr (.inr g)))))] : va_W) ++ famN 32 ad le tu vo sr lo fr) sz) := by
  refine Met.ofW (cc := cX0_clear) (maxL := 2) (ret := none) (by decide) rfl ?_
  intro p e s m args below meth c s₁ B hml hv
  obtain ⟨rfl, hsz, hP, hK, hD0, hN, hZ⟩ := hv
  have hx := B.exec
  have hb := B.bytes
  have hr := B.returns
  have hts := atoms_spec (ws := (wsG (.code yX0_clear cX0_clear 2 none))) B.pre
  have hown : s.vm.findClass RX0 = some m.cls := findClass_of_methodNamed B.named
  have hlocks := B.notSynchronized
  subst hsz
  have hD := hD0.self (sz := s.heap.size)
  generalize hAe : va_A (([(h, .inr (0, [.ref sa, .ref bb, .int us])), (sa, .inl (cS, 32, .inr (.inr (.inr (.inr g)))))] : va_W) ++ famN 32 ad le tu vo sr lo fr) s.heap.size = A at hD hZ ⊢
  have hA : ∀ q : Nat, s.heap.size ≤ q → A q := fun q h => by rw [← hAe]; exact Or.inr h
  have hl := lv_entry ([.ref h]) (n := 2) (Nat.le_of_ble_eq_true rfl)
  rw [lg_entry_eq]
  generalize (lg_sl ([.ref h]) ++ List.replicate (2 - (lg_sl ([.ref h])).length) Slot.unset).toArray = ls at hl ⊢
  have hl : lv_has ls 2 [(0, .ref h)] := hl
  refine g_start (A := A) hP (fun H locs hP hS => ?_)
  refine lv_iconst (v := 0) hx hb dX0_clear_0 (by decide) ?_
  refine lv_istore_n (lv' := [(1, .int 0), (0, .ref h)]) hx hb dX0_clear_1 rfl hl (by decide) rfl (fun ls hl => ?_)
  have LP2 : ∀ (fu2 : Nat) (q2 : Nat) (le1 : Nat → Int32) (fr1 : Nat → Int32) (hq2 : q2 ≤ 32) (hz : ∀ xx, xx < q2 → le1 xx = 0 ∧ fr1 xx = 0) (hm2 : 32 - q2 < fu2) (H : Heap) (locs : List Loc), va_P (dC, dI) vwCl (([(h, .inr (0, [.ref sa, .ref bb, .int us])), (sa, .inl (cS, 32, .inr (.inr (.inr (.inr g)))))] : va_W) ++ famN 32 ad le1 tu vo sr lo fr1) H → va_D A (([(h, .inr (0, [.ref sa, .ref bb, .int us])), (sa, .inl (cS, 32, .inr (.inr (.inr (.inr g)))))] : va_W) ++ famN 32 ad le1 tu vo sr lo fr1) → va_S A s.heap H locs → ∀ ls : Array Slot, lv_has ls 2 [(1, .int (nI q2)), (0, .ref h)] → W p l e ({ frames := 0, cells := 0, slots := 0, locals := 0 }) s m ([.ref h] : List Value).toArray below meth c H locs (0) (0) (MQ below (va_Qv (fun u : va_W × gT => ∃ (le2 : Nat → Int32) (fr2 : Nat → Int32), u = ((([(h, .inr (0, [.ref sa, .ref bb, .int 0])), (sa, .inl (cS, 32, .inr (.inr (.inr (.inr g)))))] : va_W) ++ famN 32 ad le2 tu vo sr lo fr2), []) ∧ bankOk (fun _ => 0) le2 fr2 0) (gB (dC, dI) A) A) ([.ref h] : List Value).toArray s 0 0 A) (F0 m 2 ls []) := by
    intro fu2
    induction fu2 with
    | zero => intro q2 le1 fr1 hq2 hz hm2; exact absurd hm2 (Nat.not_lt_zero _)
    | succ fu2 ih2 =>
      intro q2 le1 fr1 hq2 hz hm2 H locs hP hD hS ls hl
      refine lv_iload_n hx hb dX0_clear_2 rfl (lv_at hl 0 rfl) ?_
      refine lv_bipush (v := 31) hx hb dX0_clear_3 (by decide) ?_
      refine lv_icmp_gt (tgt := 34) hx hb dX0_clear_5 (by decide) (fun c_5 => ?_) (fun c_5 => ?_)
      · refine lv_aload_n hx hb dX0_clear_34 rfl (lv_at hl 1 rfl) ?_
        refine lv_iconst (v := 0) hx hb dX0_clear_35 (by decide) ?_
        refine va_put (D := (dC, dI)) (ci := 0) (v := .int 0) (ty := tyX0 2) (C := RX0) (T := TX0) (N := 3) hx hb hts iwX0 tyX0 tyX0_ok nmX0 hown hK hP hD hS 0 rfl rfl 2 (by decide) (hts (.fieldLink RX0 26 "ModulePlayer$Bank" "used" "I") (List.mem_cons_of_mem _ kw_383)) (fun _ h9 => h9) rfl (by decide +kernel) (rfl) (rfl) (Nat.le_of_ble_eq_true rfl) dX0_clear_36 (fun H locs hP hD hS => ?_)
        have hP : va_P (dC, dI) vwCl (([(h, .inr (0, [.ref sa, .ref bb, .int 0])), (sa, .inl (cS, 32, .inr (.inr (.inr (.inr g)))))] : va_W) ++ famN 32 ad le1 tu vo sr lo fr1) H := hP
        have hD : va_D A (([(h, .inr (0, [.ref sa, .ref bb, .int 0])), (sa, .inl (cS, 32, .inr (.inr (.inr (.inr g)))))] : va_W) ++ famN 32 ad le1 tu vo sr lo fr1) := hD
        have hP9 := hP
        have hD9 := hD
        have hK9 := hK.sub (tys' := []) [] rfl
        exact W.vret hx hb hr (fun t ht hW => ⟨⟨_, rfl, ⟨le1, fr1, rfl, (bk_zero (fun xx hx9 => hz xx (by have := nI_lt' (a := 31) c_5 (by decide) (by omega); omega)))⟩, by rw [ht]; exact hP9, va_K.moved hW.alike hK9, hD9⟩, hS.F ht⟩) hS.2.2 dX0_clear_39
      have hq3 : q2 < 32 := by have := nI_nlt2 (a := 31) c_5 (by omega); omega
      refine lv_aload_n hx hb dX0_clear_8 rfl (lv_at hl 1 rfl) ?_
      refine va_get (D := (dC, dI)) (ci := 0) (v := .ref sa) (C := RX0) (T := TX0) (N := 3) hx hb hts iwX0 hown hK hP 0 rfl rfl 0 (by decide) (hts (.fieldLink RX0 11 "ModulePlayer$Bank" "samples" "[LModulePlayer$Sample;") (List.mem_cons_of_mem _ kw_54)) (fun _ h9 => h9) rfl dX0_clear_9 ?_
      refine lv_iload_n hx hb dX0_clear_12 rfl (lv_at hl 0 rfl) ?_
      refine g_aald hx hb hK hP 1 0 rfl rfl q2 (nI_clamp (by omega)) (y := (ad q2)) (hg q2 hq3) (vp_in_nI hq3 (by decide)) dX0_clear_13 ?_
      refine lv_iconst (v := 0) hx hb dX0_clear_14 (by decide) ?_
      refine va_put (D := (dC, dI)) (ci := 5) (v := .int 0) (ty := tyX5 0) (C := RX5) (T := TX5) (N := 6) hx hb hts iwX5 tyX5 tyX5_ok nmX5 hown hK hP hD hS _ (fam_at (k := q2) (hq3)) rfl 0 (by decide) (hts (.fieldLink RX0 34 "ModulePlayer$Sample" "length" "I") (List.mem_cons_of_mem _ kw_381)) (fun _ h9 => h9) rfl (by decide +kernel) rfl rfl (Nat.le_of_ble_eq_true rfl) dX0_clear_15 (fun H locs hP hD hS => ?_)
      have hP : va_P (dC, dI) vwCl (([(h, .inr (0, [.ref sa, .ref bb, .int us])), (sa, .inl (cS, 32, .inr (.inr (.inr (.inr g)))))] : va_W) ++ famN 32 ad (upd le1 q2 0) tu vo sr lo fr1) H := by have h9 : va_P (dC, dI) vwCl (((([(h, .inr (0, [.ref sa, .ref bb, .int us])), (sa, .inl (cS, 32, .inr (.inr (.inr (.inr g)))))] : va_W) ++ famN 32 ad le1 tu vo sr lo fr1) : va_W).set (([(h, .inr (0, [.ref sa, .ref bb, .int us])), (sa, .inl (cS, 32, .inr (.inr (.inr (.inr g)))))] : va_W).length + q2) (ad q2, .inr (5, [.int (0), .int ((tu) q2), .int ((vo) q2), .int ((sr) q2), .int ((lo) q2), .int ((fr1) q2)]))) H := hP; rw [fam_up] at h9; simp only [upd_id] at h9 ⊢; exact h9
      have hD : va_D A (([(h, .inr (0, [.ref sa, .ref bb, .int us])), (sa, .inl (cS, 32, .inr (.inr (.inr (.inr g)))))] : va_W) ++ famN 32 ad (upd le1 q2 0) tu vo sr lo fr1) := by have h9 : va_D A (((([(h, .inr (0, [.ref sa, .ref bb, .int us])), (sa, .inl (cS, 32, .inr (.inr (.inr (.inr g)))))] : va_W) ++ famN 32 ad le1 tu vo sr lo fr1) : va_W).set (([(h, .inr (0, [.ref sa, .ref bb, .int us])), (sa, .inl (cS, 32, .inr (.inr (.inr (.inr g)))))] : va_W).length + q2) (ad q2, .inr (5, [.int (0), .int ((tu) q2), .int ((vo) q2), .int ((sr) q2), .int ((lo) q2), .int ((fr1) q2)]))) := hD; rw [fam_up] at h9; simp only [upd_id] at h9 ⊢; exact h9
      refine lv_aload_n hx hb dX0_clear_18 rfl (lv_at hl 1 rfl) ?_
      refine va_get (D := (dC, dI)) (ci := 0) (v := .ref sa) (C := RX0) (T := TX0) (N := 3) hx hb hts iwX0 hown hK hP 0 rfl rfl 0 (by decide) (hts (.fieldLink RX0 11 "ModulePlayer$Bank" "samples" "[LModulePlayer$Sample;") (List.mem_cons_of_mem _ kw_54)) (fun _ h9 => h9) rfl dX0_clear_19 ?_
      refine lv_iload_n hx hb dX0_clear_22 rfl (lv_at hl 0 rfl) ?_
      refine g_aald hx hb hK hP 1 0 rfl rfl q2 (nI_clamp (by omega)) (y := (ad q2)) (hg q2 hq3) (vp_in_nI hq3 (by decide)) dX0_clear_23 ?_
      refine lv_iconst (v := 0) hx hb dX0_clear_24 (by decide) ?_
      refine va_put (D := (dC, dI)) (ci := 5) (v := .int 0) (ty := tyX5 5) (C := RX5) (T := TX5) (N := 6) hx hb hts iwX5 tyX5 tyX5_ok nmX5 hown hK hP hD hS _ (fam_at (k := q2) (hq3)) rfl 5 (by decide) (hts (.fieldLink RX0 41 "ModulePlayer$Sample" "from" "I") (List.mem_cons_of_mem _ kw_382)) (fun _ h9 => h9) rfl (by decide +kernel) rfl rfl (Nat.le_of_ble_eq_true rfl) dX0_clear_25 (fun H locs hP hD hS => ?_)
      have hP : va_P (dC, dI) vwCl (([(h, .inr (0, [.ref sa, .ref bb, .int us])), (sa, .inl (cS, 32, .inr (.inr (.inr (.inr g)))))] : va_W) ++ famN 32 ad (upd le1 q2 0) tu vo sr lo (upd fr1 q2 0)) H := by have h9 : va_P (dC, dI) vwCl (((([(h, .inr (0, [.ref sa, .ref bb, .int us])), (sa, .inl (cS, 32, .inr (.inr (.inr (.inr g)))))] : va_W) ++ famN 32 ad (upd le1 q2 0) tu vo sr lo fr1) : va_W).set (([(h, .inr (0, [.ref sa, .ref bb, .int us])), (sa, .inl (cS, 32, .inr (.inr (.inr (.inr g)))))] : va_W).length + q2) (ad q2, .inr (5, [.int ((upd le1 q2 0) q2), .int ((tu) q2), .int ((vo) q2), .int ((sr) q2), .int ((lo) q2), .int (0)]))) H := hP; rw [fam_up] at h9; simp only [upd_id] at h9 ⊢; exact h9
      have hD : va_D A (([(h, .inr (0, [.ref sa, .ref bb, .int us])), (sa, .inl (cS, 32, .inr (.inr (.inr (.inr g)))))] : va_W) ++ famN 32 ad (upd le1 q2 0) tu vo sr lo (upd fr1 q2 0)) := by have h9 : va_D A (((([(h, .inr (0, [.ref sa, .ref bb, .int us])), (sa, .inl (cS, 32, .inr (.inr (.inr (.inr g)))))] : va_W) ++ famN 32 ad (upd le1 q2 0) tu vo sr lo fr1) : va_W).set (([(h, .inr (0, [.ref sa, .ref bb, .int us])), (sa, .inl (cS, 32, .inr (.inr (.inr (.inr g)))))] : va_W).length + q2) (ad q2, .inr (5, [.int ((upd le1 q2 0) q2), .int ((tu) q2), .int ((vo) q2), .int ((sr) q2), .int ((lo) q2), .int (0)]))) := hD; rw [fam_up] at h9; simp only [upd_id] at h9 ⊢; exact h9
      refine lv_iinc (v := nI (q2 + 1)) (lv' := [(1, .int (nI (q2 + 1))), (0, .ref h)]) hx hb dX0_clear_28 hl (k := 0) rfl (nI_1 q2) (by decide) rfl (fun ls hl => ?_)
      refine lv_goto (tgt := 2) hx hb dX0_clear_31 (by decide) ?_
      exact ih2 (q2 + 1) (upd le1 q2 0) (upd fr1 q2 0) (hq3) (clr_s hz) (by omega) _ _ hP hD hS _ (lv_sub hl [0, 1] rfl)
  exact LP2 _ 0 le fr (Nat.zero_le _) (fun xx hx9 => absurd hx9 (Nat.not_lt_zero xx)) (Nat.lt_succ_self _) _ _ hP hD hS _ (lv_sub hl [0, 1] rfl)

