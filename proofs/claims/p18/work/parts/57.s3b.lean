set_option maxHeartbeats 400000 in
set_option maxRecDepth 100000 in
theorem k_readSamples (l : Launch) (dC : Nat → ClassId) (dI : Nat → Nat → Nat) (sz : Nat) (ta tb : Nat) (cB : ClassId) (ft : Nat → Int32) (L : Nat) (aB sa bb : Nat) (us : Int32) (ad : Nat → Nat) (cS : ClassId) (g : Nat → Option Nat) (f : Nat → Int32) (le tu vo sr lo fr : Nat → Int32) (nx : Int32) (hL : L ≤ 9000) (hg : ∀ x, x < 32 → g x = some (ad x)) (hfit : sb_Fit f) : Met l yX4_readSamples (wsG (.code yX4_readSamples cX4_readSamples 10 none)) ({ frames := 4, cells := 0, slots := 0, locals := 93 }) (va_Pc [.ref ta, .ref aB, .int nx] (gP (dC, dI) [(cB, .byte), (cS, .object RX5)] ([(ta, .inr (7, [.ref tb, .int (nI L)])), (tb, .inl (cB, 9000, .inl ft)), (aB, .inr (0, [.ref sa, .ref bb, .int us])), (sa, .inl (cS, 32, .inr (.inr (.inr (.inr g))))), (bb, .inl (cB, 4000, .inl f))] ++ famN 32 ad le tu vo sr lo fr) sz)) (va_Qv (fun u : va_W × gT => ∃ (ln2 : Nat → Nat) (us2 : Int32) (f2 : Nat → Int32) (le2 : Nat → Int32) (tu2 : Nat → Int32) (vo2 : Nat → Int32) (sr2 : Nat → Int32) (lo2 : Nat → Int32) (fr2 : Nat → Int32), u = (([(ta, .inr (7, [.ref tb, .int (nI L)])), (tb, .inl (cB, 9000, .inl ft)), (aB, .inr (0, [.ref sa, .ref bb, .int us2])), (sa, .inl (cS, 32, .inr (.inr (.inr (.inr g))))), (bb, .inl (cB, 4000, .inl f2))] ++ famN 32 ad le2 tu2 vo2 sr2 lo2 fr2), []) ∧ bankOk ln2 le2 fr2 us2 ∧ sb_Fit f2) (gB (dC, dI) (va_A ([(ta, .inr (7, [.ref tb, .int (nI L)])), (tb, .inl (cB, 9000, .inl ft)), (aB, .inr (0, [.ref sa, .ref bb, .int us])), (sa, .inl (cS, 32, .inr (.inr (.inr (.inr g))))), (bb, .inl (cB, 4000, .inl f))] ++ famN 32 ad le tu vo sr lo fr) sz)) (va_A ([(ta, .inr (7, [.ref tb, .int (nI L)])), (tb, .inl (cB, 9000, .inl ft)), (aB, .inr (0, [.ref sa, .ref bb, .int us])), (sa, .inl (cS, 32, .inr (.inr (.inr (.inr g))))), (bb, .inl (cB, 4000, .inl f))] ++ famN 32 ad le tu vo sr lo fr) sz)) 0 0 (va_A ([(ta, .inr (7, [.ref tb, .int (nI L)])), (tb, .inl (cB, 9000, .inl ft)), (aB, .inr (0, [.ref sa, .ref bb, .int us])), (sa, .inl (cS, 32, .inr (.inr (.inr (.inr g))))), (bb, .inl (cB, 4000, .inl f))] ++ famN 32 ad le tu vo sr lo fr) sz) := by
  refine Met.ofW (cc := cX4_readSamples) (maxL := 10) (ret := none) (by decide) rfl ?_
  intro p e s m args below meth c s₁ B hml hv
  obtain ⟨rfl, hsz, hP, hK, hD0, hN, hZ⟩ := hv
  have hx := B.exec
  have hb := B.bytes
  have hr := B.returns
  have hts := atoms_spec (ws := (wsG (.code yX4_readSamples cX4_readSamples 10 none))) B.pre
  have hown : s.vm.findClass RX4 = some m.cls := findClass_of_methodNamed B.named
  have hlocks := B.notSynchronized
  subst hsz
  have hD := hD0.self (sz := s.heap.size)
  generalize hAe : va_A ([(ta, .inr (7, [.ref tb, .int (nI L)])), (tb, .inl (cB, 9000, .inl ft)), (aB, .inr (0, [.ref sa, .ref bb, .int us])), (sa, .inl (cS, 32, .inr (.inr (.inr (.inr g))))), (bb, .inl (cB, 4000, .inl f))] ++ famN 32 ad le tu vo sr lo fr) s.heap.size = A at hD hZ ⊢
  have hA : ∀ q : Nat, s.heap.size ≤ q → A q := fun q h => by rw [← hAe]; exact Or.inr h
  have hl := lv_entry ([.ref ta, .ref aB, .int nx]) (n := 10) (Nat.le_of_ble_eq_true rfl)
  rw [lg_entry_eq]
  generalize (lg_sl ([.ref ta, .ref aB, .int nx]) ++ List.replicate (10 - (lg_sl ([.ref ta, .ref aB, .int nx])).length) Slot.unset).toArray = ls at hl ⊢
  have hl : lv_has ls 10 [(0, .ref ta), (1, .ref aB), (2, .int nx)] := hl
  refine g_start (A := A) hP (fun H locs hP hS => ?_)
  refine lv_aload_n hx hb dX4_readSamples_0 rfl (lv_at hl 1 rfl) ?_
  refine g_callvP (X := [(ta, .inr (7, [.ref tb, .int (nI L)])), (tb, .inl (cB, 9000, .inl ft)), (aB, .inr (0, [.ref sa, .ref bb, .int us])), (sa, .inl (cS, 32, .inr (.inr (.inr (.inr g))))), (bb, .inl (cB, 4000, .inl f))]) (wr := [(ta, .inr (7, [.ref tb, .int (nI L)])), (tb, .inl (cB, 9000, .inl ft)), (bb, .inl (cB, 4000, .inl f))]) (va_runV (As := []) (rest := []) ⟨hx, hb, hml, hown, hts⟩ (k_bclear l dC dI H.size aB sa bb us ad cS g le tu vo sr lo fr (hg)) (cwV 0 hts (gG_V kw_377 kw_378 kw_379 kw_22 kw_380) rfl rfl rfl (by decide +kernel) ⟨Nat.le_of_ble_eq_true rfl, Nat.le_of_ble_eq_true rfl⟩) (g_preVP (X := [(ta, .inr (7, [.ref tb, .int (nI L)])), (tb, .inl (cB, 9000, .inl ft)), (aB, .inr (0, [.ref sa, .ref bb, .int us])), (sa, .inl (cS, 32, .inr (.inr (.inr (.inr g))))), (bb, .inl (cB, 4000, .inl f))]) (C := RX0) (T := TX0) (N := 3) hP hD hK hS hA hN hZ (q0 := 2) rfl rfl [2, 3] (by decide) rfl [1] rfl) rfl rfl hl.1 rfl (lv_room (Nat.le_of_ble_eq_true rfl)) dX4_readSamples_1 ⟨Nat.le_of_ble_eq_true rfl, Nat.le_of_ble_eq_true rfl⟩) hP hD hK hS hA [2, 3] [0, 1, 4] rfl rfl (by decide) (by decide) (fun w ty1 H locs hw_1 hJ _ hS => ?_)
  rcases hw_1 with ⟨le2_1, fr2_1, hu, hB2_1⟩
  cases hu
  obtain ⟨hP, hD⟩ := hJ _ _ rfl
  have hP : va_P (dC, dI) vwCl ([(ta, .inr (7, [.ref tb, .int (nI L)])), (tb, .inl (cB, 9000, .inl ft)), (bb, .inl (cB, 4000, .inl f)), (aB, .inr (0, [.ref sa, .ref bb, .int 0])), (sa, .inl (cS, 32, .inr (.inr (.inr (.inr g)))))] ++ famN 32 ad le2_1 tu vo sr lo fr2_1) H := hP
  have hD : va_D A ([(ta, .inr (7, [.ref tb, .int (nI L)])), (tb, .inl (cB, 9000, .inl ft)), (bb, .inl (cB, 4000, .inl f)), (aB, .inr (0, [.ref sa, .ref bb, .int 0])), (sa, .inl (cS, 32, .inr (.inr (.inr (.inr g)))))] ++ famN 32 ad le2_1 tu vo sr lo fr2_1) := hD
  refine lv_iload_n hx hb dX4_readSamples_4 rfl (lv_at hl 2 rfl) ?_
  refine lv_istore_n (lv' := [(3, .int nx), (0, .ref ta), (1, .ref aB), (2, .int nx)]) hx hb dX4_readSamples_5 rfl hl (by decide) rfl (fun ls hl => ?_)
  refine lv_iconst (v := 1) hx hb dX4_readSamples_6 (by decide) ?_
  refine lv_istore (lv' := [(4, .int 1), (3, .int nx), (0, .ref ta), (1, .ref aB), (2, .int nx)]) hx hb dX4_readSamples_7 hl (by decide) rfl (fun ls hl => ?_)
  have hP := va_P.part (X := [(ta, .inr (7, [.ref tb, .int (nI L)])), (tb, .inl (cB, 9000, .inl ft)), (bb, .inl (cB, 4000, .inl f)), (aB, .inr (0, [.ref sa, .ref bb, .int 0])), (sa, .inl (cS, 32, .inr (.inr (.inr (.inr g)))))]) (cx := [(ta, .inr (7, [.ref tb, .int (nI L)])), (tb, .inl (cB, 9000, .inl ft)), (aB, .inr (0, [.ref sa, .ref bb, .int 0])), (sa, .inl (cS, 32, .inr (.inr (.inr (.inr g))))), (bb, .inl (cB, 4000, .inl f))]) hP [0, 1, 3, 4, 2] rfl
  have hD := va_D.part (X := [(ta, .inr (7, [.ref tb, .int (nI L)])), (tb, .inl (cB, 9000, .inl ft)), (bb, .inl (cB, 4000, .inl f)), (aB, .inr (0, [.ref sa, .ref bb, .int 0])), (sa, .inl (cS, 32, .inr (.inr (.inr (.inr g)))))]) (cx := [(ta, .inr (7, [.ref tb, .int (nI L)])), (tb, .inl (cB, 9000, .inl ft)), (aB, .inr (0, [.ref sa, .ref bb, .int 0])), (sa, .inl (cS, 32, .inr (.inr (.inr (.inr g))))), (bb, .inl (cB, 4000, .inl f))]) hD [0, 1, 3, 4, 2] (by decide) rfl
  have hP : va_P (dC, dI) vwCl ([(ta, .inr (7, [.ref tb, .int (nI L)])), (tb, .inl (cB, 9000, .inl ft)), (aB, .inr (0, [.ref sa, .ref bb, .int 0])), (sa, .inl (cS, 32, .inr (.inr (.inr (.inr g))))), (bb, .inl (cB, 4000, .inl f))] ++ famN 32 ad le2_1 tu vo sr lo fr2_1) H := hP
  have hD : va_D A ([(ta, .inr (7, [.ref tb, .int (nI L)])), (tb, .inl (cB, 9000, .inl ft)), (aB, .inr (0, [.ref sa, .ref bb, .int 0])), (sa, .inl (cS, 32, .inr (.inr (.inr (.inr g))))), (bb, .inl (cB, 4000, .inl f))] ++ famN 32 ad le2_1 tu vo sr lo fr2_1) := hD
  have LP9 : ∀ (fu9 : Nat) (q9 : Nat) (ln1 : Nat → Nat) (us1 : Int32) (fb1 : Nat → Int32) (le1 : Nat → Int32) (tu1 : Nat → Int32) (vo1 : Nat → Int32) (sr1 : Nat → Int32) (lo1 : Nat → Int32) (fr1 : Nat → Int32) (nx1 : Int32) (hq9a : 1 ≤ q9) (hq9 : q9 ≤ 32) (hB1 : bankOk ln1 le1 fr1 us1) (hf1 : sb_Fit fb1) (hm9 : 32 - q9 < fu9) (H : Heap) (locs : List Loc), va_P (dC, dI) vwCl ([(ta, .inr (7, [.ref tb, .int (nI L)])), (tb, .inl (cB, 9000, .inl ft)), (aB, .inr (0, [.ref sa, .ref bb, .int us1])), (sa, .inl (cS, 32, .inr (.inr (.inr (.inr g))))), (bb, .inl (cB, 4000, .inl fb1))] ++ famN 32 ad le1 tu1 vo1 sr1 lo1 fr1) H → va_D A ([(ta, .inr (7, [.ref tb, .int (nI L)])), (tb, .inl (cB, 9000, .inl ft)), (aB, .inr (0, [.ref sa, .ref bb, .int us1])), (sa, .inl (cS, 32, .inr (.inr (.inr (.inr g))))), (bb, .inl (cB, 4000, .inl fb1))] ++ famN 32 ad le1 tu1 vo1 sr1 lo1 fr1) → va_S A s.heap H locs → ∀ ls : Array Slot, lv_has ls 10 [(4, .int (nI q9)), (3, .int nx1), (0, .ref ta), (1, .ref aB)] → W p l e ({ frames := 4, cells := 0, slots := 0, locals := 93 }) s m ([.ref ta, .ref aB, .int nx] : List Value).toArray below meth c H locs (0) (0) (MQ below (va_Qv (fun u : va_W × gT => ∃ (ln2 : Nat → Nat) (us2 : Int32) (f2 : Nat → Int32) (le2 : Nat → Int32) (tu2 : Nat → Int32) (vo2 : Nat → Int32) (sr2 : Nat → Int32) (lo2 : Nat → Int32) (fr2 : Nat → Int32), u = (([(ta, .inr (7, [.ref tb, .int (nI L)])), (tb, .inl (cB, 9000, .inl ft)), (aB, .inr (0, [.ref sa, .ref bb, .int us2])), (sa, .inl (cS, 32, .inr (.inr (.inr (.inr g))))), (bb, .inl (cB, 4000, .inl f2))] ++ famN 32 ad le2 tu2 vo2 sr2 lo2 fr2), []) ∧ bankOk ln2 le2 fr2 us2 ∧ sb_Fit f2) (gB (dC, dI) A) A) ([.ref ta, .ref aB, .int nx] : List Value).toArray s 0 0 A) (F0 m 9 ls []) := by
    intro fu9
    induction fu9 with
    | zero => intro q9 ln1 us1 fb1 le1 tu1 vo1 sr1 lo1 fr1 nx1 hq9a hq9 hB1 hf1 hm9; exact absurd hm9 (Nat.not_lt_zero _)
    | succ fu9 ih9 =>
      intro q9 ln1 us1 fb1 le1 tu1 vo1 sr1 lo1 fr1 nx1 hq9a hq9 hB1 hf1 hm9 H locs hP hD hS ls hl
      refine lv_iload hx hb dX4_readSamples_9 (lv_at hl 0 rfl) ?_
      refine lv_bipush (v := 31) hx hb dX4_readSamples_11 (by decide) ?_
      refine lv_icmp_gt (tgt := 164) hx hb dX4_readSamples_13 (by decide) (fun c_13 => ?_) (fun c_13 => ?_)
      · have hP9 := hP
        have hD9 := hD
        have hK9 := hK.sub (tys' := []) [] rfl
        exact W.vret hx hb hr (fun t ht hW => ⟨⟨_, rfl, ⟨ln1, us1, fb1, le1, tu1, vo1, sr1, lo1, fr1, rfl, hB1, hf1⟩, by rw [ht]; exact hP9, va_K.moved hW.alike hK9, hD9⟩, hS.F ht⟩) hS.2.2 dX4_readSamples_164
      have hq3 : q9 < 32 := by have := nI_nlt2 (a := 31) c_13 (by omega); omega
      refine lv_iload hx hb dX4_readSamples_16 (lv_at hl 0 rfl) ?_
      refine g_calliQ (X := [(ta, .inr (7, [.ref tb, .int (nI L)])), (tb, .inl (cB, 9000, .inl ft)), (aB, .inr (0, [.ref sa, .ref bb, .int us1])), (sa, .inl (cS, 32, .inr (.inr (.inr (.inr g))))), (bb, .inl (cB, 4000, .inl fb1))]) (wr := [(ta, .inr (7, [.ref tb, .int (nI L)])), (tb, .inl (cB, 9000, .inl ft)), (aB, .inr (0, [.ref sa, .ref bb, .int us1])), (sa, .inl (cS, 32, .inr (.inr (.inr (.inr g))))), (bb, .inl (cB, 4000, .inl fb1))]) (va_runS (As := [.int (nI q9)]) (rest := []) ⟨hx, hb, hml, hown, hts⟩ (c_sampleAt l dC dI H.size q9 (hq9a)) (va_cwS 1 hts (gG_S kw_306 kw_307 kw_30 kw_308) rfl rfl rfl (by decide +kernel) ⟨Nat.le_of_ble_eq_true rfl, Nat.le_of_ble_eq_true rfl⟩) (g_preS (ws := [(ta, .inr (7, [.ref tb, .int (nI L)])), (tb, .inl (cB, 9000, .inl ft)), (aB, .inr (0, [.ref sa, .ref bb, .int us1])), (sa, .inl (cS, 32, .inr (.inr (.inr (.inr g))))), (bb, .inl (cB, 4000, .inl fb1))]) hP.left hD.left hK hS hA hN hZ [] (by decide) rfl [] rfl) rfl rfl hl.1 rfl (lv_room (Nat.le_of_ble_eq_true rfl)) dX4_readSamples_18 ⟨Nat.le_of_ble_eq_true rfl, Nat.le_of_ble_eq_true rfl⟩) hP hD hK hS hA [] [0, 1, 2, 3, 4] rfl rfl (by decide) (by decide) (fun r_18 w ty1 H locs hw_18 hP hD _ hS => ?_)
      rcases hw_18 with ⟨hu, hr_18⟩
      cases hu
      have hP : va_P (dC, dI) vwCl ([(ta, .inr (7, [.ref tb, .int (nI L)])), (tb, .inl (cB, 9000, .inl ft)), (aB, .inr (0, [.ref sa, .ref bb, .int us1])), (sa, .inl (cS, 32, .inr (.inr (.inr (.inr g))))), (bb, .inl (cB, 4000, .inl fb1))] ++ famN 32 ad le1 tu1 vo1 sr1 lo1 fr1) H := hP
      have hD : va_D A ([(ta, .inr (7, [.ref tb, .int (nI L)])), (tb, .inl (cB, 9000, .inl ft)), (aB, .inr (0, [.ref sa, .ref bb, .int us1])), (sa, .inl (cS, 32, .inr (.inr (.inr (.inr g))))), (bb, .inl (cB, 4000, .inl fb1))] ++ famN 32 ad le1 tu1 vo1 sr1 lo1 fr1) := hD
      refine g_topi (y := nI (20 + 30 * (q9 - 1))) hr_18 ?_
      refine lv_istore (lv' := [(5, .int (nI (20 + 30 * (q9 - 1)))), (4, .int (nI q9)), (3, .int nx1), (0, .ref ta), (1, .ref aB)]) hx hb dX4_readSamples_21 hl (by decide) rfl (fun ls hl => ?_)
      refine lv_iconst (v := 2) hx hb dX4_readSamples_23 (by decide) ?_
      refine lv_aload_n hx hb dX4_readSamples_24 rfl (lv_at hl 3 rfl) ?_
      refine lv_iload hx hb dX4_readSamples_25 (lv_at hl 0 rfl) ?_
      refine lv_bipush (v := 22) hx hb dX4_readSamples_27 (by decide) ?_
      refine lv_iadd hx hb dX4_readSamples_29 ?_
      refine lv_topi (fun tv_29 etv_29 => ?_)
      refine g_calliQ (X := [(ta, .inr (7, [.ref tb, .int (nI L)])), (tb, .inl (cB, 9000, .inl ft)), (aB, .inr (0, [.ref sa, .ref bb, .int us1])), (sa, .inl (cS, 32, .inr (.inr (.inr (.inr g))))), (bb, .inl (cB, 4000, .inl fb1))]) (wr := [(aB, .inr (0, [.ref sa, .ref bb, .int us1])), (sa, .inl (cS, 32, .inr (.inr (.inr (.inr g))))), (bb, .inl (cB, 4000, .inl fb1))]) (va_runV (As := [.int tv_29]) (rest := [.int 2]) ⟨hx, hb, hml, hown, hts⟩ (k_pairAt l dC dI H.size ta tb cB ft L tv_29 (hL)) (cwV 1 hts (gG_V kw_309 kw_310 kw_311 kw_18 kw_312) rfl rfl rfl (by decide +kernel) ⟨Nat.le_of_ble_eq_true rfl, Nat.le_of_ble_eq_true rfl⟩) (g_preV (ws := [(ta, .inr (7, [.ref tb, .int (nI L)])), (tb, .inl (cB, 9000, .inl ft)), (aB, .inr (0, [.ref sa, .ref bb, .int us1])), (sa, .inl (cS, 32, .inr (.inr (.inr (.inr g))))), (bb, .inl (cB, 4000, .inl fb1))]) (C := RX7) (T := TX7) (N := 2) hP.left hD.left hK hS hA hN hZ (q0 := 0) rfl rfl [0, 1] (by decide) rfl [0] rfl) rfl rfl hl.1 rfl (lv_room (Nat.le_of_ble_eq_true rfl)) dX4_readSamples_30 ⟨Nat.le_of_ble_eq_true rfl, Nat.le_of_ble_eq_true rfl⟩) hP hD hK hS hA [0, 1] [2, 3, 4] rfl rfl (by decide) (by decide) (fun r_30 w ty1 H locs hw_30 hP hD _ hS => ?_)
      have hu := hw_30
      cases hu
      have hP : va_P (dC, dI) vwCl ([(aB, .inr (0, [.ref sa, .ref bb, .int us1])), (sa, .inl (cS, 32, .inr (.inr (.inr (.inr g))))), (bb, .inl (cB, 4000, .inl fb1)), (ta, .inr (7, [.ref tb, .int (nI L)])), (tb, .inl (cB, 9000, .inl ft))] ++ famN 32 ad le1 tu1 vo1 sr1 lo1 fr1) H := hP
      have hD : va_D A ([(aB, .inr (0, [.ref sa, .ref bb, .int us1])), (sa, .inl (cS, 32, .inr (.inr (.inr (.inr g))))), (bb, .inl (cB, 4000, .inl fb1)), (ta, .inr (7, [.ref tb, .int (nI L)])), (tb, .inl (cB, 9000, .inl ft))] ++ famN 32 ad le1 tu1 vo1 sr1 lo1 fr1) := hD
      refine lv_imul hx hb dX4_readSamples_33 ?_
      refine lv_topi (fun tv_33 etv_33 => ?_)
      refine lv_istore (lv' := [(6, .int tv_33), (5, .int (nI (20 + 30 * (q9 - 1)))), (4, .int (nI q9)), (3, .int nx1), (0, .ref ta), (1, .ref aB)]) hx hb dX4_readSamples_34 hl (by decide) rfl (fun ls hl => ?_)
      refine lv_aload_n hx hb dX4_readSamples_36 rfl (lv_at hl 4 rfl) ?_
      refine lv_iload hx hb dX4_readSamples_37 (lv_at hl 1 rfl) ?_
      refine lv_bipush (v := 24) hx hb dX4_readSamples_39 (by decide) ?_
      refine lv_iadd hx hb dX4_readSamples_41 ?_
      refine lv_topi (fun tv_41 etv_41 => ?_)
      refine g_calliQ (X := [(aB, .inr (0, [.ref sa, .ref bb, .int us1])), (sa, .inl (cS, 32, .inr (.inr (.inr (.inr g))))), (bb, .inl (cB, 4000, .inl fb1)), (ta, .inr (7, [.ref tb, .int (nI L)])), (tb, .inl (cB, 9000, .inl ft))]) (wr := [(aB, .inr (0, [.ref sa, .ref bb, .int us1])), (sa, .inl (cS, 32, .inr (.inr (.inr (.inr g))))), (bb, .inl (cB, 4000, .inl fb1))]) (va_runV (As := [.int tv_41]) (rest := []) ⟨hx, hb, hml, hown, hts⟩ (k_at l dC dI H.size ta tb cB ft L tv_41 (hL)) (cwV 1 hts (gG_V kw_295 kw_296 kw_297 kw_18 kw_298) rfl rfl rfl (by decide +kernel) ⟨Nat.le_of_ble_eq_true rfl, Nat.le_of_ble_eq_true rfl⟩) (g_preV (ws := [(aB, .inr (0, [.ref sa, .ref bb, .int us1])), (sa, .inl (cS, 32, .inr (.inr (.inr (.inr g))))), (bb, .inl (cB, 4000, .inl fb1)), (ta, .inr (7, [.ref tb, .int (nI L)])), (tb, .inl (cB, 9000, .inl ft))]) (C := RX7) (T := TX7) (N := 2) hP.left hD.left hK hS hA hN hZ (q0 := 3) rfl rfl [3, 4] (by decide) rfl [0] rfl) rfl rfl hl.1 rfl (lv_room (Nat.le_of_ble_eq_true rfl)) dX4_readSamples_42 ⟨Nat.le_of_ble_eq_true rfl, Nat.le_of_ble_eq_true rfl⟩) hP hD hK hS hA [3, 4] [0, 1, 2] rfl rfl (by decide) (by decide) (fun r_42 w ty1 H locs hw_42 hP hD _ hS => ?_)
      have hu := hw_42
      cases hu
      have hP : va_P (dC, dI) vwCl ([(aB, .inr (0, [.ref sa, .ref bb, .int us1])), (sa, .inl (cS, 32, .inr (.inr (.inr (.inr g))))), (bb, .inl (cB, 4000, .inl fb1)), (ta, .inr (7, [.ref tb, .int (nI L)])), (tb, .inl (cB, 9000, .inl ft))] ++ famN 32 ad le1 tu1 vo1 sr1 lo1 fr1) H := hP
      have hD : va_D A ([(aB, .inr (0, [.ref sa, .ref bb, .int us1])), (sa, .inl (cS, 32, .inr (.inr (.inr (.inr g))))), (bb, .inl (cB, 4000, .inl fb1)), (ta, .inr (7, [.ref tb, .int (nI L)])), (tb, .inl (cB, 9000, .inl ft))] ++ famN 32 ad le1 tu1 vo1 sr1 lo1 fr1) := hD
      refine lv_istore (lv' := [(7, .int r_42), (6, .int tv_33), (5, .int (nI (20 + 30 * (q9 - 1)))), (4, .int (nI q9)), (3, .int nx1), (0, .ref ta), (1, .ref aB)]) hx hb dX4_readSamples_45 hl (by decide) rfl (fun ls hl => ?_)
      refine lv_aload_n hx hb dX4_readSamples_47 rfl (lv_at hl 6 rfl) ?_
      refine lv_iload hx hb dX4_readSamples_48 (lv_at hl 3 rfl) ?_
      refine lv_iload hx hb dX4_readSamples_50 (lv_at hl 1 rfl) ?_
      refine lv_iload hx hb dX4_readSamples_52 (lv_at hl 0 rfl) ?_
      refine lv_bipush (v := 7) hx hb dX4_readSamples_54 (by decide) ?_
      refine lv_icmp_le (tgt := 67) hx hb dX4_readSamples_56 (by decide) (fun c_56 => ?_) (fun c_56 => ?_)
      · refine lv_iload hx hb dX4_readSamples_67 (lv_at hl 0 rfl) ?_
        refine lv_aload_n hx hb dX4_readSamples_69 rfl (lv_at hl 5 rfl) ?_
        refine lv_iload hx hb dX4_readSamples_70 (lv_at hl 2 rfl) ?_
        refine lv_bipush (v := 25) hx hb dX4_readSamples_72 (by decide) ?_
        refine lv_iadd hx hb dX4_readSamples_74 ?_
        refine lv_topi (fun tv_74 etv_74 => ?_)
        refine g_calliQ (X := [(aB, .inr (0, [.ref sa, .ref bb, .int us1])), (sa, .inl (cS, 32, .inr (.inr (.inr (.inr g))))), (bb, .inl (cB, 4000, .inl fb1)), (ta, .inr (7, [.ref tb, .int (nI L)])), (tb, .inl (cB, 9000, .inl ft))]) (wr := [(aB, .inr (0, [.ref sa, .ref bb, .int us1])), (sa, .inl (cS, 32, .inr (.inr (.inr (.inr g))))), (bb, .inl (cB, 4000, .inl fb1))]) (va_runV (As := [.int tv_74]) (rest := [.int r_42, .int tv_33, .int (nI q9), .ref aB]) ⟨hx, hb, hml, hown, hts⟩ (k_at l dC dI H.size ta tb cB ft L tv_74 (hL)) (cwV 1 hts (gG_V kw_295 kw_296 kw_297 kw_18 kw_298) rfl rfl rfl (by decide +kernel) ⟨Nat.le_of_ble_eq_true rfl, Nat.le_of_ble_eq_true rfl⟩) (g_preV (ws := [(aB, .inr (0, [.ref sa, .ref bb, .int us1])), (sa, .inl (cS, 32, .inr (.inr (.inr (.inr g))))), (bb, .inl (cB, 4000, .inl fb1)), (ta, .inr (7, [.ref tb, .int (nI L)])), (tb, .inl (cB, 9000, .inl ft))]) (C := RX7) (T := TX7) (N := 2) hP.left hD.left hK hS hA hN hZ (q0 := 3) rfl rfl [3, 4] (by decide) rfl [0] rfl) rfl rfl hl.1 rfl (lv_room (Nat.le_of_ble_eq_true rfl)) dX4_readSamples_75 ⟨Nat.le_of_ble_eq_true rfl, Nat.le_of_ble_eq_true rfl⟩) hP hD hK hS hA [3, 4] [0, 1, 2] rfl rfl (by decide) (by decide) (fun r_75 w ty1 H locs hw_75 hP hD _ hS => ?_)
        have hu := hw_75
        cases hu
        have hP : va_P (dC, dI) vwCl ([(aB, .inr (0, [.ref sa, .ref bb, .int us1])), (sa, .inl (cS, 32, .inr (.inr (.inr (.inr g))))), (bb, .inl (cB, 4000, .inl fb1)), (ta, .inr (7, [.ref tb, .int (nI L)])), (tb, .inl (cB, 9000, .inl ft))] ++ famN 32 ad le1 tu1 vo1 sr1 lo1 fr1) H := hP
        have hD : va_D A ([(aB, .inr (0, [.ref sa, .ref bb, .int us1])), (sa, .inl (cS, 32, .inr (.inr (.inr (.inr g))))), (bb, .inl (cB, 4000, .inl fb1)), (ta, .inr (7, [.ref tb, .int (nI L)])), (tb, .inl (cB, 9000, .inl ft))] ++ famN 32 ad le1 tu1 vo1 sr1 lo1 fr1) := hD
        refine g_callvP (X := [(aB, .inr (0, [.ref sa, .ref bb, .int us1])), (sa, .inl (cS, 32, .inr (.inr (.inr (.inr g))))), (bb, .inl (cB, 4000, .inl fb1)), (ta, .inr (7, [.ref tb, .int (nI L)])), (tb, .inl (cB, 9000, .inl ft))]) (wr := [(ta, .inr (7, [.ref tb, .int (nI L)])), (tb, .inl (cB, 9000, .inl ft))]) (va_runV (As := [.int (nI q9), .int tv_33, .int r_42, .int r_75]) (rest := []) ⟨hx, hb, hml, hown, hts⟩ (k_reshape l dC dI H.size aB sa bb us1 ad cS cB g fb1 le1 tu1 vo1 sr1 lo1 fr1 ln1 q9 tv_33 r_42 r_75 (hg) (hq9a) (hq3) (hB1) (hf1)) (cwV 4 hts (gG_V kw_384 kw_385 kw_386 kw_22 kw_387) rfl rfl rfl (by decide +kernel) ⟨Nat.le_of_ble_eq_true rfl, Nat.le_of_ble_eq_true rfl⟩) (g_preVP (X := [(aB, .inr (0, [.ref sa, .ref bb, .int us1])), (sa, .inl (cS, 32, .inr (.inr (.inr (.inr g))))), (bb, .inl (cB, 4000, .inl fb1)), (ta, .inr (7, [.ref tb, .int (nI L)])), (tb, .inl (cB, 9000, .inl ft))]) (C := RX0) (T := TX0) (N := 3) hP hD hK hS hA hN hZ (q0 := 0) rfl rfl [0, 1, 2] (by decide) rfl [1, 0] rfl) rfl rfl hl.1 rfl (lv_room (Nat.le_of_ble_eq_true rfl)) dX4_readSamples_78 ⟨Nat.le_of_ble_eq_true rfl, Nat.le_of_ble_eq_true rfl⟩) hP hD hK hS hA [0, 1, 2] [3, 4] rfl rfl (by decide) (by decide) (fun w ty1 H locs hw_78 hJ _ hS => ?_)
        rcases hw_78 with ⟨ln2_78, us2_78, f2_78, le2_78, tu2_78, vo2_78, sr2_78, lo2_78, fr2_78, hu, hB2_78, hfit2_78⟩
        cases hu
        obtain ⟨hP, hD⟩ := hJ _ _ rfl
        have hP : va_P (dC, dI) vwCl ([(ta, .inr (7, [.ref tb, .int (nI L)])), (tb, .inl (cB, 9000, .inl ft)), (aB, .inr (0, [.ref sa, .ref bb, .int us2_78])), (sa, .inl (cS, 32, .inr (.inr (.inr (.inr g))))), (bb, .inl (cB, 4000, .inl f2_78))] ++ famN 32 ad le2_78 tu2_78 vo2_78 sr2_78 lo2_78 fr2_78) H := hP
        have hD : va_D A ([(ta, .inr (7, [.ref tb, .int (nI L)])), (tb, .inl (cB, 9000, .inl ft)), (aB, .inr (0, [.ref sa, .ref bb, .int us2_78])), (sa, .inl (cS, 32, .inr (.inr (.inr (.inr g))))), (bb, .inl (cB, 4000, .inl f2_78))] ++ famN 32 ad le2_78 tu2_78 vo2_78 sr2_78 lo2_78 fr2_78) := hD
        refine lv_aload_n hx hb dX4_readSamples_81 rfl (lv_at hl 6 rfl) ?_
        refine lv_iload hx hb dX4_readSamples_82 (lv_at hl 3 rfl) ?_
        refine g_callqQ (X := [(ta, .inr (7, [.ref tb, .int (nI L)])), (tb, .inl (cB, 9000, .inl ft)), (aB, .inr (0, [.ref sa, .ref bb, .int us2_78])), (sa, .inl (cS, 32, .inr (.inr (.inr (.inr g))))), (bb, .inl (cB, 4000, .inl f2_78))]) (wr := [(ta, .inr (7, [.ref tb, .int (nI L)])), (tb, .inl (cB, 9000, .inl ft)), (bb, .inl (cB, 4000, .inl f2_78))]) (va_runV (As := [.int (nI q9)]) (rest := []) ⟨hx, hb, hml, hown, hts⟩ (c_get l dC dI H.size aB sa bb us2_78 ad cS g q9 (hg) (hq3)) (cwV 1 hts (gG_V kw_415 kw_405 kw_406 kw_22 kw_407) rfl rfl rfl (by decide +kernel) ⟨Nat.le_of_ble_eq_true rfl, Nat.le_of_ble_eq_true rfl⟩) (g_preV (ws := [(ta, .inr (7, [.ref tb, .int (nI L)])), (tb, .inl (cB, 9000, .inl ft)), (aB, .inr (0, [.ref sa, .ref bb, .int us2_78])), (sa, .inl (cS, 32, .inr (.inr (.inr (.inr g))))), (bb, .inl (cB, 4000, .inl f2_78))]) (C := RX0) (T := TX0) (N := 3) hP.left hD.left hK hS hA hN hZ (q0 := 2) rfl rfl [2, 3] (by decide) rfl [1] rfl) rfl rfl hl.1 rfl (lv_room (Nat.le_of_ble_eq_true rfl)) dX4_readSamples_84 ⟨Nat.le_of_ble_eq_true rfl, Nat.le_of_ble_eq_true rfl⟩) hP hD hK hS hA [2, 3] [0, 1, 4] rfl rfl (by decide) (by decide) (fun r_84 w ty1 H locs hw_84 hP hD _ hS => ?_)
        rcases hw_84 with ⟨hu, hr_84⟩
        cases hu
        have hP : va_P (dC, dI) vwCl ([(ta, .inr (7, [.ref tb, .int (nI L)])), (tb, .inl (cB, 9000, .inl ft)), (bb, .inl (cB, 4000, .inl f2_78)), (aB, .inr (0, [.ref sa, .ref bb, .int us2_78])), (sa, .inl (cS, 32, .inr (.inr (.inr (.inr g)))))] ++ famN 32 ad le2_78 tu2_78 vo2_78 sr2_78 lo2_78 fr2_78) H := hP
        have hD : va_D A ([(ta, .inr (7, [.ref tb, .int (nI L)])), (tb, .inl (cB, 9000, .inl ft)), (bb, .inl (cB, 4000, .inl f2_78)), (aB, .inr (0, [.ref sa, .ref bb, .int us2_78])), (sa, .inl (cS, 32, .inr (.inr (.inr (.inr g)))))] ++ famN 32 ad le2_78 tu2_78 vo2_78 sr2_78 lo2_78 fr2_78) := hD
        subst hr_84
        refine W.eq (g2 := F0 m 87 ls [.ref (ad q9)]) rfl ?_
        refine lv_astore (lv' := [(8, .ref (ad q9)), (7, .int r_42), (6, .int tv_33), (5, .int (nI (20 + 30 * (q9 - 1)))), (4, .int (nI q9)), (3, .int nx1), (0, .ref ta), (1, .ref aB)]) hx hb dX4_readSamples_87 hl (by decide) rfl (fun ls hl => ?_)
        refine lv_aload hx hb dX4_readSamples_89 (lv_at hl 0 rfl) ?_
        refine lv_iconst (v := 2) hx hb dX4_readSamples_91 (by decide) ?_
        refine lv_aload_n hx hb dX4_readSamples_92 rfl (lv_at hl 6 rfl) ?_
        refine lv_iload hx hb dX4_readSamples_93 (lv_at hl 3 rfl) ?_
        refine lv_bipush (v := 26) hx hb dX4_readSamples_95 (by decide) ?_
        refine lv_iadd hx hb dX4_readSamples_97 ?_
        refine lv_topi (fun tv_97 etv_97 => ?_)
        refine g_calliQ (X := [(ta, .inr (7, [.ref tb, .int (nI L)])), (tb, .inl (cB, 9000, .inl ft)), (bb, .inl (cB, 4000, .inl f2_78)), (aB, .inr (0, [.ref sa, .ref bb, .int us2_78])), (sa, .inl (cS, 32, .inr (.inr (.inr (.inr g)))))]) (wr := [(bb, .inl (cB, 4000, .inl f2_78)), (aB, .inr (0, [.ref sa, .ref bb, .int us2_78])), (sa, .inl (cS, 32, .inr (.inr (.inr (.inr g)))))]) (va_runV (As := [.int tv_97]) (rest := [.int 2, .ref (ad q9)]) ⟨hx, hb, hml, hown, hts⟩ (k_pairAt l dC dI H.size ta tb cB ft L tv_97 (hL)) (cwV 1 hts (gG_V kw_309 kw_310 kw_311 kw_18 kw_312) rfl rfl rfl (by decide +kernel) ⟨Nat.le_of_ble_eq_true rfl, Nat.le_of_ble_eq_true rfl⟩) (g_preV (ws := [(ta, .inr (7, [.ref tb, .int (nI L)])), (tb, .inl (cB, 9000, .inl ft)), (bb, .inl (cB, 4000, .inl f2_78)), (aB, .inr (0, [.ref sa, .ref bb, .int us2_78])), (sa, .inl (cS, 32, .inr (.inr (.inr (.inr g)))))]) (C := RX7) (T := TX7) (N := 2) hP.left hD.left hK hS hA hN hZ (q0 := 0) rfl rfl [0, 1] (by decide) rfl [0] rfl) rfl rfl hl.1 rfl (lv_room (Nat.le_of_ble_eq_true rfl)) dX4_readSamples_98 ⟨Nat.le_of_ble_eq_true rfl, Nat.le_of_ble_eq_true rfl⟩) hP hD hK hS hA [0, 1] [2, 3, 4] rfl rfl (by decide) (by decide) (fun r_98 w ty1 H locs hw_98 hP hD _ hS => ?_)
        have hu := hw_98
        cases hu
        have hP : va_P (dC, dI) vwCl ([(bb, .inl (cB, 4000, .inl f2_78)), (aB, .inr (0, [.ref sa, .ref bb, .int us2_78])), (sa, .inl (cS, 32, .inr (.inr (.inr (.inr g))))), (ta, .inr (7, [.ref tb, .int (nI L)])), (tb, .inl (cB, 9000, .inl ft))] ++ famN 32 ad le2_78 tu2_78 vo2_78 sr2_78 lo2_78 fr2_78) H := hP
        have hD : va_D A ([(bb, .inl (cB, 4000, .inl f2_78)), (aB, .inr (0, [.ref sa, .ref bb, .int us2_78])), (sa, .inl (cS, 32, .inr (.inr (.inr (.inr g))))), (ta, .inr (7, [.ref tb, .int (nI L)])), (tb, .inl (cB, 9000, .inl ft))] ++ famN 32 ad le2_78 tu2_78 vo2_78 sr2_78 lo2_78 fr2_78) := hD
        refine lv_imul hx hb dX4_readSamples_101 ?_
        refine lv_topi (fun tv_101 etv_101 => ?_)
        refine va_put (D := (dC, dI)) (ci := 5) (v := .int tv_101) (ty := tyX5 3) (C := RX5) (T := TX5) (N := 6) hx hb hts iwX5 tyX5 tyX5_ok nmX5 hown hK hP hD hS _ (fam_at (k := q9) (hq3)) rfl 3 (by decide) (hts (.fieldLink RX4 120 "ModulePlayer$Sample" "start" "I") (List.mem_cons_of_mem _ kw_375)) (fun _ h9 => h9) rfl (by decide +kernel) rfl rfl (Nat.le_of_ble_eq_true rfl) dX4_readSamples_102 (fun H locs hP hD hS => ?_)
        have hP : va_P (dC, dI) vwCl ([(bb, .inl (cB, 4000, .inl f2_78)), (aB, .inr (0, [.ref sa, .ref bb, .int us2_78])), (sa, .inl (cS, 32, .inr (.inr (.inr (.inr g))))), (ta, .inr (7, [.ref tb, .int (nI L)])), (tb, .inl (cB, 9000, .inl ft))] ++ famN 32 ad le2_78 tu2_78 vo2_78 (upd sr2_78 q9 tv_101) lo2_78 fr2_78) H := by have h9 : va_P (dC, dI) vwCl ((([(bb, .inl (cB, 4000, .inl f2_78)), (aB, .inr (0, [.ref sa, .ref bb, .int us2_78])), (sa, .inl (cS, 32, .inr (.inr (.inr (.inr g))))), (ta, .inr (7, [.ref tb, .int (nI L)])), (tb, .inl (cB, 9000, .inl ft))] ++ famN 32 ad le2_78 tu2_78 vo2_78 sr2_78 lo2_78 fr2_78) : va_W).set (([(bb, .inl (cB, 4000, .inl f2_78)), (aB, .inr (0, [.ref sa, .ref bb, .int us2_78])), (sa, .inl (cS, 32, .inr (.inr (.inr (.inr g))))), (ta, .inr (7, [.ref tb, .int (nI L)])), (tb, .inl (cB, 9000, .inl ft))] : va_W).length + q9) (ad q9, .inr (5, [.int ((le2_78) q9), .int ((tu2_78) q9), .int ((vo2_78) q9), .int (tv_101), .int ((lo2_78) q9), .int ((fr2_78) q9)]))) H := hP; rw [fam_up] at h9; simp only [upd_id] at h9 ⊢; exact h9
        have hD : va_D A ([(bb, .inl (cB, 4000, .inl f2_78)), (aB, .inr (0, [.ref sa, .ref bb, .int us2_78])), (sa, .inl (cS, 32, .inr (.inr (.inr (.inr g))))), (ta, .inr (7, [.ref tb, .int (nI L)])), (tb, .inl (cB, 9000, .inl ft))] ++ famN 32 ad le2_78 tu2_78 vo2_78 (upd sr2_78 q9 tv_101) lo2_78 fr2_78) := by have h9 : va_D A ((([(bb, .inl (cB, 4000, .inl f2_78)), (aB, .inr (0, [.ref sa, .ref bb, .int us2_78])), (sa, .inl (cS, 32, .inr (.inr (.inr (.inr g))))), (ta, .inr (7, [.ref tb, .int (nI L)])), (tb, .inl (cB, 9000, .inl ft))] ++ famN 32 ad le2_78 tu2_78 vo2_78 sr2_78 lo2_78 fr2_78) : va_W).set (([(bb, .inl (cB, 4000, .inl f2_78)), (aB, .inr (0, [.ref sa, .ref bb, .int us2_78])), (sa, .inl (cS, 32, .inr (.inr (.inr (.inr g))))), (ta, .inr (7, [.ref tb, .int (nI L)])), (tb, .inl (cB, 9000, .inl ft))] : va_W).length + q9) (ad q9, .inr (5, [.int ((le2_78) q9), .int ((tu2_78) q9), .int ((vo2_78) q9), .int (tv_101), .int ((lo2_78) q9), .int ((fr2_78) q9)]))) := hD; rw [fam_up] at h9; simp only [upd_id] at h9 ⊢; exact h9
        refine lv_aload hx hb dX4_readSamples_105 (lv_at hl 0 rfl) ?_
        refine lv_iconst (v := 2) hx hb dX4_readSamples_107 (by decide) ?_
        refine lv_aload_n hx hb dX4_readSamples_108 rfl (lv_at hl 6 rfl) ?_
        refine lv_iload hx hb dX4_readSamples_109 (lv_at hl 3 rfl) ?_
        refine lv_bipush (v := 28) hx hb dX4_readSamples_111 (by decide) ?_
        refine lv_iadd hx hb dX4_readSamples_113 ?_
        refine lv_topi (fun tv_113 etv_113 => ?_)
        refine g_calliQ (X := [(bb, .inl (cB, 4000, .inl f2_78)), (aB, .inr (0, [.ref sa, .ref bb, .int us2_78])), (sa, .inl (cS, 32, .inr (.inr (.inr (.inr g))))), (ta, .inr (7, [.ref tb, .int (nI L)])), (tb, .inl (cB, 9000, .inl ft))]) (wr := [(bb, .inl (cB, 4000, .inl f2_78)), (aB, .inr (0, [.ref sa, .ref bb, .int us2_78])), (sa, .inl (cS, 32, .inr (.inr (.inr (.inr g)))))]) (va_runV (As := [.int tv_113]) (rest := [.int 2, .ref (ad q9)]) ⟨hx, hb, hml, hown, hts⟩ (k_pairAt l dC dI H.size ta tb cB ft L tv_113 (hL)) (cwV 1 hts (gG_V kw_309 kw_310 kw_311 kw_18 kw_312) rfl rfl rfl (by decide +kernel) ⟨Nat.le_of_ble_eq_true rfl, Nat.le_of_ble_eq_true rfl⟩) (g_preV (ws := [(bb, .inl (cB, 4000, .inl f2_78)), (aB, .inr (0, [.ref sa, .ref bb, .int us2_78])), (sa, .inl (cS, 32, .inr (.inr (.inr (.inr g))))), (ta, .inr (7, [.ref tb, .int (nI L)])), (tb, .inl (cB, 9000, .inl ft))]) (C := RX7) (T := TX7) (N := 2) hP.left hD.left hK hS hA hN hZ (q0 := 3) rfl rfl [3, 4] (by decide) rfl [0] rfl) rfl rfl hl.1 rfl (lv_room (Nat.le_of_ble_eq_true rfl)) dX4_readSamples_114 ⟨Nat.le_of_ble_eq_true rfl, Nat.le_of_ble_eq_true rfl⟩) hP hD hK hS hA [3, 4] [0, 1, 2] rfl rfl (by decide) (by decide) (fun r_114 w ty1 H locs hw_114 hP hD _ hS => ?_)
        have hu := hw_114
        cases hu
        have hP : va_P (dC, dI) vwCl ([(bb, .inl (cB, 4000, .inl f2_78)), (aB, .inr (0, [.ref sa, .ref bb, .int us2_78])), (sa, .inl (cS, 32, .inr (.inr (.inr (.inr g))))), (ta, .inr (7, [.ref tb, .int (nI L)])), (tb, .inl (cB, 9000, .inl ft))] ++ famN 32 ad le2_78 tu2_78 vo2_78 (upd sr2_78 q9 tv_101) lo2_78 fr2_78) H := hP
        have hD : va_D A ([(bb, .inl (cB, 4000, .inl f2_78)), (aB, .inr (0, [.ref sa, .ref bb, .int us2_78])), (sa, .inl (cS, 32, .inr (.inr (.inr (.inr g))))), (ta, .inr (7, [.ref tb, .int (nI L)])), (tb, .inl (cB, 9000, .inl ft))] ++ famN 32 ad le2_78 tu2_78 vo2_78 (upd sr2_78 q9 tv_101) lo2_78 fr2_78) := hD
        refine lv_imul hx hb dX4_readSamples_117 ?_
        refine lv_topi (fun tv_117 etv_117 => ?_)
        refine va_put (D := (dC, dI)) (ci := 5) (v := .int tv_117) (ty := tyX5 4) (C := RX5) (T := TX5) (N := 6) hx hb hts iwX5 tyX5 tyX5_ok nmX5 hown hK hP hD hS _ (fam_at (k := q9) (hq3)) rfl 4 (by decide) (hts (.fieldLink RX4 123 "ModulePlayer$Sample" "loop" "I") (List.mem_cons_of_mem _ kw_376)) (fun _ h9 => h9) rfl (by decide +kernel) rfl rfl (Nat.le_of_ble_eq_true rfl) dX4_readSamples_118 (fun H locs hP hD hS => ?_)
        have hP : va_P (dC, dI) vwCl ([(bb, .inl (cB, 4000, .inl f2_78)), (aB, .inr (0, [.ref sa, .ref bb, .int us2_78])), (sa, .inl (cS, 32, .inr (.inr (.inr (.inr g))))), (ta, .inr (7, [.ref tb, .int (nI L)])), (tb, .inl (cB, 9000, .inl ft))] ++ famN 32 ad le2_78 tu2_78 vo2_78 (upd sr2_78 q9 tv_101) (upd lo2_78 q9 tv_117) fr2_78) H := by have h9 : va_P (dC, dI) vwCl ((([(bb, .inl (cB, 4000, .inl f2_78)), (aB, .inr (0, [.ref sa, .ref bb, .int us2_78])), (sa, .inl (cS, 32, .inr (.inr (.inr (.inr g))))), (ta, .inr (7, [.ref tb, .int (nI L)])), (tb, .inl (cB, 9000, .inl ft))] ++ famN 32 ad le2_78 tu2_78 vo2_78 (upd sr2_78 q9 tv_101) lo2_78 fr2_78) : va_W).set (([(bb, .inl (cB, 4000, .inl f2_78)), (aB, .inr (0, [.ref sa, .ref bb, .int us2_78])), (sa, .inl (cS, 32, .inr (.inr (.inr (.inr g))))), (ta, .inr (7, [.ref tb, .int (nI L)])), (tb, .inl (cB, 9000, .inl ft))] : va_W).length + q9) (ad q9, .inr (5, [.int ((le2_78) q9), .int ((tu2_78) q9), .int ((vo2_78) q9), .int ((upd sr2_78 q9 tv_101) q9), .int (tv_117), .int ((fr2_78) q9)]))) H := hP; rw [fam_up] at h9; simp only [upd_id] at h9 ⊢; exact h9
        have hD : va_D A ([(bb, .inl (cB, 4000, .inl f2_78)), (aB, .inr (0, [.ref sa, .ref bb, .int us2_78])), (sa, .inl (cS, 32, .inr (.inr (.inr (.inr g))))), (ta, .inr (7, [.ref tb, .int (nI L)])), (tb, .inl (cB, 9000, .inl ft))] ++ famN 32 ad le2_78 tu2_78 vo2_78 (upd sr2_78 q9 tv_101) (upd lo2_78 q9 tv_117) fr2_78) := by have h9 : va_D A ((([(bb, .inl (cB, 4000, .inl f2_78)), (aB, .inr (0, [.ref sa, .ref bb, .int us2_78])), (sa, .inl (cS, 32, .inr (.inr (.inr (.inr g))))), (ta, .inr (7, [.ref tb, .int (nI L)])), (tb, .inl (cB, 9000, .inl ft))] ++ famN 32 ad le2_78 tu2_78 vo2_78 (upd sr2_78 q9 tv_101) lo2_78 fr2_78) : va_W).set (([(bb, .inl (cB, 4000, .inl f2_78)), (aB, .inr (0, [.ref sa, .ref bb, .int us2_78])), (sa, .inl (cS, 32, .inr (.inr (.inr (.inr g))))), (ta, .inr (7, [.ref tb, .int (nI L)])), (tb, .inl (cB, 9000, .inl ft))] : va_W).length + q9) (ad q9, .inr (5, [.int ((le2_78) q9), .int ((tu2_78) q9), .int ((vo2_78) q9), .int ((upd sr2_78 q9 tv_101) q9), .int (tv_117), .int ((fr2_78) q9)]))) := hD; rw [fam_up] at h9; simp only [upd_id] at h9 ⊢; exact h9
        refine lv_iconst (v := 0) hx hb dX4_readSamples_121 (by decide) ?_
        refine lv_istore (lv' := [(9, .int 0), (8, .ref (ad q9)), (7, .int r_42), (6, .int tv_33), (5, .int (nI (20 + 30 * (q9 - 1)))), (4, .int (nI q9)), (3, .int nx1), (0, .ref ta), (1, .ref aB)]) hx hb dX4_readSamples_122 hl (by decide) rfl (fun ls hl => ?_)
        obtain ⟨hTz, ehTz⟩ : ∃ xx : Nat, xx = (tv_33).toInt.toNat := ⟨_, rfl⟩
        have hP := va_P.part (X := [(bb, .inl (cB, 4000, .inl f2_78)), (aB, .inr (0, [.ref sa, .ref bb, .int us2_78])), (sa, .inl (cS, 32, .inr (.inr (.inr (.inr g))))), (ta, .inr (7, [.ref tb, .int (nI L)])), (tb, .inl (cB, 9000, .inl ft))]) (cx := [(ta, .inr (7, [.ref tb, .int (nI L)])), (tb, .inl (cB, 9000, .inl ft)), (aB, .inr (0, [.ref sa, .ref bb, .int us2_78])), (sa, .inl (cS, 32, .inr (.inr (.inr (.inr g))))), (bb, .inl (cB, 4000, .inl f2_78))]) hP [3, 4, 1, 2, 0] rfl
        have hD := va_D.part (X := [(bb, .inl (cB, 4000, .inl f2_78)), (aB, .inr (0, [.ref sa, .ref bb, .int us2_78])), (sa, .inl (cS, 32, .inr (.inr (.inr (.inr g))))), (ta, .inr (7, [.ref tb, .int (nI L)])), (tb, .inl (cB, 9000, .inl ft))]) (cx := [(ta, .inr (7, [.ref tb, .int (nI L)])), (tb, .inl (cB, 9000, .inl ft)), (aB, .inr (0, [.ref sa, .ref bb, .int us2_78])), (sa, .inl (cS, 32, .inr (.inr (.inr (.inr g))))), (bb, .inl (cB, 4000, .inl f2_78))]) hD [3, 4, 1, 2, 0] (by decide) rfl
        have hP : va_P (dC, dI) vwCl ([(ta, .inr (7, [.ref tb, .int (nI L)])), (tb, .inl (cB, 9000, .inl ft)), (aB, .inr (0, [.ref sa, .ref bb, .int us2_78])), (sa, .inl (cS, 32, .inr (.inr (.inr (.inr g))))), (bb, .inl (cB, 4000, .inl f2_78))] ++ famN 32 ad le2_78 tu2_78 vo2_78 (upd sr2_78 q9 tv_101) (upd lo2_78 q9 tv_117) fr2_78) H := hP
        have hD : va_D A ([(ta, .inr (7, [.ref tb, .int (nI L)])), (tb, .inl (cB, 9000, .inl ft)), (aB, .inr (0, [.ref sa, .ref bb, .int us2_78])), (sa, .inl (cS, 32, .inr (.inr (.inr (.inr g))))), (bb, .inl (cB, 4000, .inl f2_78))] ++ famN 32 ad le2_78 tu2_78 vo2_78 (upd sr2_78 q9 tv_101) (upd lo2_78 q9 tv_117) fr2_78) := hD
        have LP124 : ∀ (fu124 : Nat) (q124 : Nat) (fb3 : Nat → Int32) (hq124 : q124 < 2147483648) (hf3 : sb_Fit fb3) (hm124 : hTz - q124 < fu124) (H : Heap) (locs : List Loc), va_P (dC, dI) vwCl ([(ta, .inr (7, [.ref tb, .int (nI L)])), (tb, .inl (cB, 9000, .inl ft)), (aB, .inr (0, [.ref sa, .ref bb, .int us2_78])), (sa, .inl (cS, 32, .inr (.inr (.inr (.inr g))))), (bb, .inl (cB, 4000, .inl fb3))] ++ famN 32 ad le2_78 tu2_78 vo2_78 (upd sr2_78 q9 tv_101) (upd lo2_78 q9 tv_117) fr2_78) H → va_D A ([(ta, .inr (7, [.ref tb, .int (nI L)])), (tb, .inl (cB, 9000, .inl ft)), (aB, .inr (0, [.ref sa, .ref bb, .int us2_78])), (sa, .inl (cS, 32, .inr (.inr (.inr (.inr g))))), (bb, .inl (cB, 4000, .inl fb3))] ++ famN 32 ad le2_78 tu2_78 vo2_78 (upd sr2_78 q9 tv_101) (upd lo2_78 q9 tv_117) fr2_78) → va_S A s.heap H locs → ∀ ls : Array Slot, lv_has ls 10 [(9, .int (nI q124)), (8, .ref (ad q9)), (6, .int tv_33), (4, .int (nI q9)), (3, .int nx1), (0, .ref ta), (1, .ref aB)] → W p l e ({ frames := 4, cells := 0, slots := 0, locals := 93 }) s m ([.ref ta, .ref aB, .int nx] : List Value).toArray below meth c H locs (0) (0) (MQ below (va_Qv (fun u : va_W × gT => ∃ (ln2 : Nat → Nat) (us2 : Int32) (f2 : Nat → Int32) (le2 : Nat → Int32) (tu2 : Nat → Int32) (vo2 : Nat → Int32) (sr2 : Nat → Int32) (lo2 : Nat → Int32) (fr2 : Nat → Int32), u = (([(ta, .inr (7, [.ref tb, .int (nI L)])), (tb, .inl (cB, 9000, .inl ft)), (aB, .inr (0, [.ref sa, .ref bb, .int us2])), (sa, .inl (cS, 32, .inr (.inr (.inr (.inr g))))), (bb, .inl (cB, 4000, .inl f2))] ++ famN 32 ad le2 tu2 vo2 sr2 lo2 fr2), []) ∧ bankOk ln2 le2 fr2 us2 ∧ sb_Fit f2) (gB (dC, dI) A) A) ([.ref ta, .ref aB, .int nx] : List Value).toArray s 0 0 A) (F0 m 124 ls []) := by
          intro fu124
          induction fu124 with
          | zero => intro q124 fb3 hq124 hf3 hm124; exact absurd hm124 (Nat.not_lt_zero _)
          | succ fu124 ih124 =>
            intro q124 fb3 hq124 hf3 hm124 H locs hP hD hS ls hl
            refine lv_iload hx hb dX4_readSamples_124 (lv_at hl 0 rfl) ?_
            refine lv_iload hx hb dX4_readSamples_126 (lv_at hl 2 rfl) ?_
            refine lv_icmp_ge (tgt := 153) hx hb dX4_readSamples_128 (by decide) (fun c_128 => ?_) (fun c_128 => ?_)
            · refine lv_iload_n hx hb dX4_readSamples_153 rfl (lv_at hl 4 rfl) ?_
              refine lv_iload hx hb dX4_readSamples_154 (lv_at hl 2 rfl) ?_
              refine lv_iadd hx hb dX4_readSamples_156 ?_
              refine lv_topi (fun tv_156 etv_156 => ?_)
              refine lv_istore_n (lv' := [(3, .int tv_156), (9, .int (nI q124)), (8, .ref (ad q9)), (6, .int tv_33), (4, .int (nI q9)), (0, .ref ta), (1, .ref aB)]) hx hb dX4_readSamples_157 rfl hl (by decide) rfl (fun ls hl => ?_)
              refine lv_iinc (v := nI (q9 + 1)) (lv' := [(4, .int (nI (q9 + 1))), (3, .int tv_156), (9, .int (nI q124)), (8, .ref (ad q9)), (6, .int tv_33), (0, .ref ta), (1, .ref aB)]) hx hb dX4_readSamples_158 hl (k := 4) rfl (nI_1 q9) (by decide) rfl (fun ls hl => ?_)
              refine lv_goto (tgt := 9) hx hb dX4_readSamples_161 (by decide) ?_
              have hP : va_P (dC, dI) vwCl ([(ta, .inr (7, [.ref tb, .int (nI L)])), (tb, .inl (cB, 9000, .inl ft)), (aB, .inr (0, [.ref sa, .ref bb, .int us2_78])), (sa, .inl (cS, 32, .inr (.inr (.inr (.inr g))))), (bb, .inl (cB, 4000, .inl fb3))] ++ famN 32 ad le2_78 tu2_78 vo2_78 (upd sr2_78 q9 tv_101) (upd lo2_78 q9 tv_117) fr2_78) H := hP
              have hD : va_D A ([(ta, .inr (7, [.ref tb, .int (nI L)])), (tb, .inl (cB, 9000, .inl ft)), (aB, .inr (0, [.ref sa, .ref bb, .int us2_78])), (sa, .inl (cS, 32, .inr (.inr (.inr (.inr g))))), (bb, .inl (cB, 4000, .inl fb3))] ++ famN 32 ad le2_78 tu2_78 vo2_78 (upd sr2_78 q9 tv_101) (upd lo2_78 q9 tv_117) fr2_78) := hD
              exact ih9 (q9 + 1) ln2_78 us2_78 fb3 le2_78 tu2_78 vo2_78 (upd sr2_78 q9 tv_101) (upd lo2_78 q9 tv_117) fr2_78 tv_156 (by omega) (by omega) (hB2_78) (hf3) (by omega) _ _ hP hD hS _ (lv_sub hl [0, 1, 5, 6] rfl)
            refine lv_aload_n hx hb dX4_readSamples_131 rfl (lv_at hl 6 rfl) ?_
            refine lv_aload hx hb dX4_readSamples_132 (lv_at hl 1 rfl) ?_
            refine lv_iload hx hb dX4_readSamples_134 (lv_at hl 0 rfl) ?_
            refine lv_aload_n hx hb dX4_readSamples_136 rfl (lv_at hl 5 rfl) ?_
            refine lv_iload_n hx hb dX4_readSamples_137 rfl (lv_at hl 4 rfl) ?_
            refine lv_iload hx hb dX4_readSamples_138 (lv_at hl 0 rfl) ?_
            refine lv_iadd hx hb dX4_readSamples_140 ?_
            refine lv_topi (fun tv_140 etv_140 => ?_)
            refine g_calliQ (X := [(ta, .inr (7, [.ref tb, .int (nI L)])), (tb, .inl (cB, 9000, .inl ft)), (aB, .inr (0, [.ref sa, .ref bb, .int us2_78])), (sa, .inl (cS, 32, .inr (.inr (.inr (.inr g))))), (bb, .inl (cB, 4000, .inl fb3))]) (wr := [(aB, .inr (0, [.ref sa, .ref bb, .int us2_78])), (sa, .inl (cS, 32, .inr (.inr (.inr (.inr g))))), (bb, .inl (cB, 4000, .inl fb3))]) (va_runV (As := [.int tv_140]) (rest := [.int (nI q124), .ref (ad q9), .ref aB]) ⟨hx, hb, hml, hown, hts⟩ (k_at l dC dI H.size ta tb cB ft L tv_140 (hL)) (cwV 1 hts (gG_V kw_295 kw_296 kw_297 kw_18 kw_298) rfl rfl rfl (by decide +kernel) ⟨Nat.le_of_ble_eq_true rfl, Nat.le_of_ble_eq_true rfl⟩) (g_preV (ws := [(ta, .inr (7, [.ref tb, .int (nI L)])), (tb, .inl (cB, 9000, .inl ft)), (aB, .inr (0, [.ref sa, .ref bb, .int us2_78])), (sa, .inl (cS, 32, .inr (.inr (.inr (.inr g))))), (bb, .inl (cB, 4000, .inl fb3))]) (C := RX7) (T := TX7) (N := 2) hP.left hD.left hK hS hA hN hZ (q0 := 0) rfl rfl [0, 1] (by decide) rfl [0] rfl) rfl rfl hl.1 rfl (lv_room (Nat.le_of_ble_eq_true rfl)) dX4_readSamples_141 ⟨Nat.le_of_ble_eq_true rfl, Nat.le_of_ble_eq_true rfl⟩) hP hD hK hS hA [0, 1] [2, 3, 4] rfl rfl (by decide) (by decide) (fun r_141 w ty1 H locs hw_141 hP hD _ hS => ?_)
            have hu := hw_141
            cases hu
            have hP : va_P (dC, dI) vwCl ([(aB, .inr (0, [.ref sa, .ref bb, .int us2_78])), (sa, .inl (cS, 32, .inr (.inr (.inr (.inr g))))), (bb, .inl (cB, 4000, .inl fb3)), (ta, .inr (7, [.ref tb, .int (nI L)])), (tb, .inl (cB, 9000, .inl ft))] ++ famN 32 ad le2_78 tu2_78 vo2_78 (upd sr2_78 q9 tv_101) (upd lo2_78 q9 tv_117) fr2_78) H := hP
            have hD : va_D A ([(aB, .inr (0, [.ref sa, .ref bb, .int us2_78])), (sa, .inl (cS, 32, .inr (.inr (.inr (.inr g))))), (bb, .inl (cB, 4000, .inl fb3)), (ta, .inr (7, [.ref tb, .int (nI L)])), (tb, .inl (cB, 9000, .inl ft))] ++ famN 32 ad le2_78 tu2_78 vo2_78 (upd sr2_78 q9 tv_101) (upd lo2_78 q9 tv_117) fr2_78) := hD
            refine g_callvP (X := [(aB, .inr (0, [.ref sa, .ref bb, .int us2_78])), (sa, .inl (cS, 32, .inr (.inr (.inr (.inr g))))), (bb, .inl (cB, 4000, .inl fb3)), (ta, .inr (7, [.ref tb, .int (nI L)])), (tb, .inl (cB, 9000, .inl ft))]) (wr := [(sa, .inl (cS, 32, .inr (.inr (.inr (.inr g))))), (ta, .inr (7, [.ref tb, .int (nI L)])), (tb, .inl (cB, 9000, .inl ft))]) (va_runV (As := [.ref (ad q9), .int (nI q124), .int r_141]) (rest := []) ⟨hx, hb, hml, hown, hts⟩ (k_putByte l dC dI H.size aB sa bb us2_78 ad cB fb3 le2_78 tu2_78 vo2_78 (upd sr2_78 q9 tv_101) (upd lo2_78 q9 tv_117) fr2_78 q9 (nI q124) r_141 (hq3) (hf3)) (cwV 3 hts (gG_V kw_416 kw_417 kw_418 kw_22 kw_419) rfl rfl rfl (by decide +kernel) ⟨Nat.le_of_ble_eq_true rfl, Nat.le_of_ble_eq_true rfl⟩) (g_preVP (X := [(aB, .inr (0, [.ref sa, .ref bb, .int us2_78])), (sa, .inl (cS, 32, .inr (.inr (.inr (.inr g))))), (bb, .inl (cB, 4000, .inl fb3)), (ta, .inr (7, [.ref tb, .int (nI L)])), (tb, .inl (cB, 9000, .inl ft))]) (C := RX0) (T := TX0) (N := 3) hP hD hK hS hA hN hZ (q0 := 0) rfl rfl [0, 2] (by decide) rfl [0] rfl) rfl rfl hl.1 rfl (lv_room (Nat.le_of_ble_eq_true rfl)) dX4_readSamples_144 ⟨Nat.le_of_ble_eq_true rfl, Nat.le_of_ble_eq_true rfl⟩) hP hD hK hS hA [0, 2] [1, 3, 4] rfl rfl (by decide) (by decide) (fun w ty1 H locs hw_144 hJ _ hS => ?_)
            rcases hw_144 with ⟨f2_144, hu, hfit2_144⟩
            cases hu
            obtain ⟨hP, hD⟩ := hJ _ _ rfl
            have hP : va_P (dC, dI) vwCl ([(sa, .inl (cS, 32, .inr (.inr (.inr (.inr g))))), (ta, .inr (7, [.ref tb, .int (nI L)])), (tb, .inl (cB, 9000, .inl ft)), (aB, .inr (0, [.ref sa, .ref bb, .int us2_78])), (bb, .inl (cB, 4000, .inl f2_144))] ++ famN 32 ad le2_78 tu2_78 vo2_78 (upd sr2_78 q9 tv_101) (upd lo2_78 q9 tv_117) fr2_78) H := hP
            have hD : va_D A ([(sa, .inl (cS, 32, .inr (.inr (.inr (.inr g))))), (ta, .inr (7, [.ref tb, .int (nI L)])), (tb, .inl (cB, 9000, .inl ft)), (aB, .inr (0, [.ref sa, .ref bb, .int us2_78])), (bb, .inl (cB, 4000, .inl f2_144))] ++ famN 32 ad le2_78 tu2_78 vo2_78 (upd sr2_78 q9 tv_101) (upd lo2_78 q9 tv_117) fr2_78) := hD
            refine lv_iinc (v := nI (q124 + 1)) (lv' := [(9, .int (nI (q124 + 1))), (8, .ref (ad q9)), (6, .int tv_33), (4, .int (nI q9)), (3, .int nx1), (0, .ref ta), (1, .ref aB)]) hx hb dX4_readSamples_147 hl (k := 0) rfl (nI_1 q124) (by decide) rfl (fun ls hl => ?_)
            refine lv_goto (tgt := 124) hx hb dX4_readSamples_150 (by decide) ?_
            have hP := va_P.part (X := [(sa, .inl (cS, 32, .inr (.inr (.inr (.inr g))))), (ta, .inr (7, [.ref tb, .int (nI L)])), (tb, .inl (cB, 9000, .inl ft)), (aB, .inr (0, [.ref sa, .ref bb, .int us2_78])), (bb, .inl (cB, 4000, .inl f2_144))]) (cx := [(ta, .inr (7, [.ref tb, .int (nI L)])), (tb, .inl (cB, 9000, .inl ft)), (aB, .inr (0, [.ref sa, .ref bb, .int us2_78])), (sa, .inl (cS, 32, .inr (.inr (.inr (.inr g))))), (bb, .inl (cB, 4000, .inl f2_144))]) hP [1, 2, 3, 0, 4] rfl
            have hD := va_D.part (X := [(sa, .inl (cS, 32, .inr (.inr (.inr (.inr g))))), (ta, .inr (7, [.ref tb, .int (nI L)])), (tb, .inl (cB, 9000, .inl ft)), (aB, .inr (0, [.ref sa, .ref bb, .int us2_78])), (bb, .inl (cB, 4000, .inl f2_144))]) (cx := [(ta, .inr (7, [.ref tb, .int (nI L)])), (tb, .inl (cB, 9000, .inl ft)), (aB, .inr (0, [.ref sa, .ref bb, .int us2_78])), (sa, .inl (cS, 32, .inr (.inr (.inr (.inr g))))), (bb, .inl (cB, 4000, .inl f2_144))]) hD [1, 2, 3, 0, 4] (by decide) rfl
            have hP : va_P (dC, dI) vwCl ([(ta, .inr (7, [.ref tb, .int (nI L)])), (tb, .inl (cB, 9000, .inl ft)), (aB, .inr (0, [.ref sa, .ref bb, .int us2_78])), (sa, .inl (cS, 32, .inr (.inr (.inr (.inr g))))), (bb, .inl (cB, 4000, .inl f2_144))] ++ famN 32 ad le2_78 tu2_78 vo2_78 (upd sr2_78 q9 tv_101) (upd lo2_78 q9 tv_117) fr2_78) H := hP
            have hD : va_D A ([(ta, .inr (7, [.ref tb, .int (nI L)])), (tb, .inl (cB, 9000, .inl ft)), (aB, .inr (0, [.ref sa, .ref bb, .int us2_78])), (sa, .inl (cS, 32, .inr (.inr (.inr (.inr g))))), (bb, .inl (cB, 4000, .inl f2_144))] ++ famN 32 ad le2_78 tu2_78 vo2_78 (upd sr2_78 q9 tv_101) (upd lo2_78 q9 tv_117) fr2_78) := hD
            exact ih124 (q124 + 1) f2_144 (by have := ht_lt ehTz c_128 hq124; omega) (hfit2_144) (by have := ht_lt ehTz c_128 hq124; omega) _ _ hP hD hS _ (lv_sub hl [0, 1, 2, 3, 4, 5, 6] rfl)
        exact LP124 _ 0 f2_78 (by decide) (hfit2_78) (Nat.lt_succ_self _) _ _ hP hD hS _ (lv_sub hl [0, 1, 3, 5, 6, 7, 8] rfl)
      refine lv_iload hx hb dX4_readSamples_59 (lv_at hl 0 rfl) ?_
      refine lv_bipush (v := 16) hx hb dX4_readSamples_61 (by decide) ?_
      refine lv_isub hx hb dX4_readSamples_63 ?_
      refine lv_topi (fun tv_63 etv_63 => ?_)
      refine lv_goto (tgt := 69) hx hb dX4_readSamples_64 (by decide) ?_
      refine lv_aload_n hx hb dX4_readSamples_69 rfl (lv_at hl 5 rfl) ?_
      refine lv_iload hx hb dX4_readSamples_70 (lv_at hl 2 rfl) ?_
      refine lv_bipush (v := 25) hx hb dX4_readSamples_72 (by decide) ?_
      refine lv_iadd hx hb dX4_readSamples_74 ?_
      refine lv_topi (fun tv_74 etv_74 => ?_)
      refine g_calliQ (X := [(aB, .inr (0, [.ref sa, .ref bb, .int us1])), (sa, .inl (cS, 32, .inr (.inr (.inr (.inr g))))), (bb, .inl (cB, 4000, .inl fb1)), (ta, .inr (7, [.ref tb, .int (nI L)])), (tb, .inl (cB, 9000, .inl ft))]) (wr := [(aB, .inr (0, [.ref sa, .ref bb, .int us1])), (sa, .inl (cS, 32, .inr (.inr (.inr (.inr g))))), (bb, .inl (cB, 4000, .inl fb1))]) (va_runV (As := [.int tv_74]) (rest := [.int tv_63, .int tv_33, .int (nI q9), .ref aB]) ⟨hx, hb, hml, hown, hts⟩ (k_at l dC dI H.size ta tb cB ft L tv_74 (hL)) (cwV 1 hts (gG_V kw_295 kw_296 kw_297 kw_18 kw_298) rfl rfl rfl (by decide +kernel) ⟨Nat.le_of_ble_eq_true rfl, Nat.le_of_ble_eq_true rfl⟩) (g_preV (ws := [(aB, .inr (0, [.ref sa, .ref bb, .int us1])), (sa, .inl (cS, 32, .inr (.inr (.inr (.inr g))))), (bb, .inl (cB, 4000, .inl fb1)), (ta, .inr (7, [.ref tb, .int (nI L)])), (tb, .inl (cB, 9000, .inl ft))]) (C := RX7) (T := TX7) (N := 2) hP.left hD.left hK hS hA hN hZ (q0 := 3) rfl rfl [3, 4] (by decide) rfl [0] rfl) rfl rfl hl.1 rfl (lv_room (Nat.le_of_ble_eq_true rfl)) dX4_readSamples_75 ⟨Nat.le_of_ble_eq_true rfl, Nat.le_of_ble_eq_true rfl⟩) hP hD hK hS hA [3, 4] [0, 1, 2] rfl rfl (by decide) (by decide) (fun r_75 w ty1 H locs hw_75 hP hD _ hS => ?_)
      have hu := hw_75
      cases hu
      have hP : va_P (dC, dI) vwCl ([(aB, .inr (0, [.ref sa, .ref bb, .int us1])), (sa, .inl (cS, 32, .inr (.inr (.inr (.inr g))))), (bb, .inl (cB, 4000, .inl fb1)), (ta, .inr (7, [.ref tb, .int (nI L)])), (tb, .inl (cB, 9000, .inl ft))] ++ famN 32 ad le1 tu1 vo1 sr1 lo1 fr1) H := hP
      have hD : va_D A ([(aB, .inr (0, [.ref sa, .ref bb, .int us1])), (sa, .inl (cS, 32, .inr (.inr (.inr (.inr g))))), (bb, .inl (cB, 4000, .inl fb1)), (ta, .inr (7, [.ref tb, .int (nI L)])), (tb, .inl (cB, 9000, .inl ft))] ++ famN 32 ad le1 tu1 vo1 sr1 lo1 fr1) := hD
      refine g_callvP (X := [(aB, .inr (0, [.ref sa, .ref bb, .int us1])), (sa, .inl (cS, 32, .inr (.inr (.inr (.inr g))))), (bb, .inl (cB, 4000, .inl fb1)), (ta, .inr (7, [.ref tb, .int (nI L)])), (tb, .inl (cB, 9000, .inl ft))]) (wr := [(ta, .inr (7, [.ref tb, .int (nI L)])), (tb, .inl (cB, 9000, .inl ft))]) (va_runV (As := [.int (nI q9), .int tv_33, .int tv_63, .int r_75]) (rest := []) ⟨hx, hb, hml, hown, hts⟩ (k_reshape l dC dI H.size aB sa bb us1 ad cS cB g fb1 le1 tu1 vo1 sr1 lo1 fr1 ln1 q9 tv_33 tv_63 r_75 (hg) (hq9a) (hq3) (hB1) (hf1)) (cwV 4 hts (gG_V kw_384 kw_385 kw_386 kw_22 kw_387) rfl rfl rfl (by decide +kernel) ⟨Nat.le_of_ble_eq_true rfl, Nat.le_of_ble_eq_true rfl⟩) (g_preVP (X := [(aB, .inr (0, [.ref sa, .ref bb, .int us1])), (sa, .inl (cS, 32, .inr (.inr (.inr (.inr g))))), (bb, .inl (cB, 4000, .inl fb1)), (ta, .inr (7, [.ref tb, .int (nI L)])), (tb, .inl (cB, 9000, .inl ft))]) (C := RX0) (T := TX0) (N := 3) hP hD hK hS hA hN hZ (q0 := 0) rfl rfl [0, 1, 2] (by decide) rfl [1, 0] rfl) rfl rfl hl.1 rfl (lv_room (Nat.le_of_ble_eq_true rfl)) dX4_readSamples_78 ⟨Nat.le_of_ble_eq_true rfl, Nat.le_of_ble_eq_true rfl⟩) hP hD hK hS hA [0, 1, 2] [3, 4] rfl rfl (by decide) (by decide) (fun w ty1 H locs hw_78 hJ _ hS => ?_)
      rcases hw_78 with ⟨ln2_78, us2_78, f2_78, le2_78, tu2_78, vo2_78, sr2_78, lo2_78, fr2_78, hu, hB2_78, hfit2_78⟩
      cases hu
      obtain ⟨hP, hD⟩ := hJ _ _ rfl
      have hP : va_P (dC, dI) vwCl ([(ta, .inr (7, [.ref tb, .int (nI L)])), (tb, .inl (cB, 9000, .inl ft)), (aB, .inr (0, [.ref sa, .ref bb, .int us2_78])), (sa, .inl (cS, 32, .inr (.inr (.inr (.inr g))))), (bb, .inl (cB, 4000, .inl f2_78))] ++ famN 32 ad le2_78 tu2_78 vo2_78 sr2_78 lo2_78 fr2_78) H := hP
      have hD : va_D A ([(ta, .inr (7, [.ref tb, .int (nI L)])), (tb, .inl (cB, 9000, .inl ft)), (aB, .inr (0, [.ref sa, .ref bb, .int us2_78])), (sa, .inl (cS, 32, .inr (.inr (.inr (.inr g))))), (bb, .inl (cB, 4000, .inl f2_78))] ++ famN 32 ad le2_78 tu2_78 vo2_78 sr2_78 lo2_78 fr2_78) := hD
      refine lv_aload_n hx hb dX4_readSamples_81 rfl (lv_at hl 6 rfl) ?_
      refine lv_iload hx hb dX4_readSamples_82 (lv_at hl 3 rfl) ?_
      refine g_callqQ (X := [(ta, .inr (7, [.ref tb, .int (nI L)])), (tb, .inl (cB, 9000, .inl ft)), (aB, .inr (0, [.ref sa, .ref bb, .int us2_78])), (sa, .inl (cS, 32, .inr (.inr (.inr (.inr g))))), (bb, .inl (cB, 4000, .inl f2_78))]) (wr := [(ta, .inr (7, [.ref tb, .int (nI L)])), (tb, .inl (cB, 9000, .inl ft)), (bb, .inl (cB, 4000, .inl f2_78))]) (va_runV (As := [.int (nI q9)]) (rest := []) ⟨hx, hb, hml, hown, hts⟩ (c_get l dC dI H.size aB sa bb us2_78 ad cS g q9 (hg) (hq3)) (cwV 1 hts (gG_V kw_415 kw_405 kw_406 kw_22 kw_407) rfl rfl rfl (by decide +kernel) ⟨Nat.le_of_ble_eq_true rfl, Nat.le_of_ble_eq_true rfl⟩) (g_preV (ws := [(ta, .inr (7, [.ref tb, .int (nI L)])), (tb, .inl (cB, 9000, .inl ft)), (aB, .inr (0, [.ref sa, .ref bb, .int us2_78])), (sa, .inl (cS, 32, .inr (.inr (.inr (.inr g))))), (bb, .inl (cB, 4000, .inl f2_78))]) (C := RX0) (T := TX0) (N := 3) hP.left hD.left hK hS hA hN hZ (q0 := 2) rfl rfl [2, 3] (by decide) rfl [1] rfl) rfl rfl hl.1 rfl (lv_room (Nat.le_of_ble_eq_true rfl)) dX4_readSamples_84 ⟨Nat.le_of_ble_eq_true rfl, Nat.le_of_ble_eq_true rfl⟩) hP hD hK hS hA [2, 3] [0, 1, 4] rfl rfl (by decide) (by decide) (fun r_84 w ty1 H locs hw_84 hP hD _ hS => ?_)
      rcases hw_84 with ⟨hu, hr_84⟩
      cases hu
      have hP : va_P (dC, dI) vwCl ([(ta, .inr (7, [.ref tb, .int (nI L)])), (tb, .inl (cB, 9000, .inl ft)), (bb, .inl (cB, 4000, .inl f2_78)), (aB, .inr (0, [.ref sa, .ref bb, .int us2_78])), (sa, .inl (cS, 32, .inr (.inr (.inr (.inr g)))))] ++ famN 32 ad le2_78 tu2_78 vo2_78 sr2_78 lo2_78 fr2_78) H := hP
      have hD : va_D A ([(ta, .inr (7, [.ref tb, .int (nI L)])), (tb, .inl (cB, 9000, .inl ft)), (bb, .inl (cB, 4000, .inl f2_78)), (aB, .inr (0, [.ref sa, .ref bb, .int us2_78])), (sa, .inl (cS, 32, .inr (.inr (.inr (.inr g)))))] ++ famN 32 ad le2_78 tu2_78 vo2_78 sr2_78 lo2_78 fr2_78) := hD
      subst hr_84
      refine W.eq (g2 := F0 m 87 ls [.ref (ad q9)]) rfl ?_
      refine lv_astore (lv' := [(8, .ref (ad q9)), (7, .int r_42), (6, .int tv_33), (5, .int (nI (20 + 30 * (q9 - 1)))), (4, .int (nI q9)), (3, .int nx1), (0, .ref ta), (1, .ref aB)]) hx hb dX4_readSamples_87 hl (by decide) rfl (fun ls hl => ?_)
      refine lv_aload hx hb dX4_readSamples_89 (lv_at hl 0 rfl) ?_
      refine lv_iconst (v := 2) hx hb dX4_readSamples_91 (by decide) ?_
      refine lv_aload_n hx hb dX4_readSamples_92 rfl (lv_at hl 6 rfl) ?_
      refine lv_iload hx hb dX4_readSamples_93 (lv_at hl 3 rfl) ?_
      refine lv_bipush (v := 26) hx hb dX4_readSamples_95 (by decide) ?_
      refine lv_iadd hx hb dX4_readSamples_97 ?_
      refine lv_topi (fun tv_97 etv_97 => ?_)
      refine g_calliQ (X := [(ta, .inr (7, [.ref tb, .int (nI L)])), (tb, .inl (cB, 9000, .inl ft)), (bb, .inl (cB, 4000, .inl f2_78)), (aB, .inr (0, [.ref sa, .ref bb, .int us2_78])), (sa, .inl (cS, 32, .inr (.inr (.inr (.inr g)))))]) (wr := [(bb, .inl (cB, 4000, .inl f2_78)), (aB, .inr (0, [.ref sa, .ref bb, .int us2_78])), (sa, .inl (cS, 32, .inr (.inr (.inr (.inr g)))))]) (va_runV (As := [.int tv_97]) (rest := [.int 2, .ref (ad q9)]) ⟨hx, hb, hml, hown, hts⟩ (k_pairAt l dC dI H.size ta tb cB ft L tv_97 (hL)) (cwV 1 hts (gG_V kw_309 kw_310 kw_311 kw_18 kw_312) rfl rfl rfl (by decide +kernel) ⟨Nat.le_of_ble_eq_true rfl, Nat.le_of_ble_eq_true rfl⟩) (g_preV (ws := [(ta, .inr (7, [.ref tb, .int (nI L)])), (tb, .inl (cB, 9000, .inl ft)), (bb, .inl (cB, 4000, .inl f2_78)), (aB, .inr (0, [.ref sa, .ref bb, .int us2_78])), (sa, .inl (cS, 32, .inr (.inr (.inr (.inr g)))))]) (C := RX7) (T := TX7) (N := 2) hP.left hD.left hK hS hA hN hZ (q0 := 0) rfl rfl [0, 1] (by decide) rfl [0] rfl) rfl rfl hl.1 rfl (lv_room (Nat.le_of_ble_eq_true rfl)) dX4_readSamples_98 ⟨Nat.le_of_ble_eq_true rfl, Nat.le_of_ble_eq_true rfl⟩) hP hD hK hS hA [0, 1] [2, 3, 4] rfl rfl (by decide) (by decide) (fun r_98 w ty1 H locs hw_98 hP hD _ hS => ?_)
      have hu := hw_98
      cases hu
      have hP : va_P (dC, dI) vwCl ([(bb, .inl (cB, 4000, .inl f2_78)), (aB, .inr (0, [.ref sa, .ref bb, .int us2_78])), (sa, .inl (cS, 32, .inr (.inr (.inr (.inr g))))), (ta, .inr (7, [.ref tb, .int (nI L)])), (tb, .inl (cB, 9000, .inl ft))] ++ famN 32 ad le2_78 tu2_78 vo2_78 sr2_78 lo2_78 fr2_78) H := hP
      have hD : va_D A ([(bb, .inl (cB, 4000, .inl f2_78)), (aB, .inr (0, [.ref sa, .ref bb, .int us2_78])), (sa, .inl (cS, 32, .inr (.inr (.inr (.inr g))))), (ta, .inr (7, [.ref tb, .int (nI L)])), (tb, .inl (cB, 9000, .inl ft))] ++ famN 32 ad le2_78 tu2_78 vo2_78 sr2_78 lo2_78 fr2_78) := hD
      refine lv_imul hx hb dX4_readSamples_101 ?_
      refine lv_topi (fun tv_101 etv_101 => ?_)
      refine va_put (D := (dC, dI)) (ci := 5) (v := .int tv_101) (ty := tyX5 3) (C := RX5) (T := TX5) (N := 6) hx hb hts iwX5 tyX5 tyX5_ok nmX5 hown hK hP hD hS _ (fam_at (k := q9) (hq3)) rfl 3 (by decide) (hts (.fieldLink RX4 120 "ModulePlayer$Sample" "start" "I") (List.mem_cons_of_mem _ kw_375)) (fun _ h9 => h9) rfl (by decide +kernel) rfl rfl (Nat.le_of_ble_eq_true rfl) dX4_readSamples_102 (fun H locs hP hD hS => ?_)
      have hP : va_P (dC, dI) vwCl ([(bb, .inl (cB, 4000, .inl f2_78)), (aB, .inr (0, [.ref sa, .ref bb, .int us2_78])), (sa, .inl (cS, 32, .inr (.inr (.inr (.inr g))))), (ta, .inr (7, [.ref tb, .int (nI L)])), (tb, .inl (cB, 9000, .inl ft))] ++ famN 32 ad le2_78 tu2_78 vo2_78 (upd sr2_78 q9 tv_101) lo2_78 fr2_78) H := by have h9 : va_P (dC, dI) vwCl ((([(bb, .inl (cB, 4000, .inl f2_78)), (aB, .inr (0, [.ref sa, .ref bb, .int us2_78])), (sa, .inl (cS, 32, .inr (.inr (.inr (.inr g))))), (ta, .inr (7, [.ref tb, .int (nI L)])), (tb, .inl (cB, 9000, .inl ft))] ++ famN 32 ad le2_78 tu2_78 vo2_78 sr2_78 lo2_78 fr2_78) : va_W).set (([(bb, .inl (cB, 4000, .inl f2_78)), (aB, .inr (0, [.ref sa, .ref bb, .int us2_78])), (sa, .inl (cS, 32, .inr (.inr (.inr (.inr g))))), (ta, .inr (7, [.ref tb, .int (nI L)])), (tb, .inl (cB, 9000, .inl ft))] : va_W).length + q9) (ad q9, .inr (5, [.int ((le2_78) q9), .int ((tu2_78) q9), .int ((vo2_78) q9), .int (tv_101), .int ((lo2_78) q9), .int ((fr2_78) q9)]))) H := hP; rw [fam_up] at h9; simp only [upd_id] at h9 ⊢; exact h9
      have hD : va_D A ([(bb, .inl (cB, 4000, .inl f2_78)), (aB, .inr (0, [.ref sa, .ref bb, .int us2_78])), (sa, .inl (cS, 32, .inr (.inr (.inr (.inr g))))), (ta, .inr (7, [.ref tb, .int (nI L)])), (tb, .inl (cB, 9000, .inl ft))] ++ famN 32 ad le2_78 tu2_78 vo2_78 (upd sr2_78 q9 tv_101) lo2_78 fr2_78) := by have h9 : va_D A ((([(bb, .inl (cB, 4000, .inl f2_78)), (aB, .inr (0, [.ref sa, .ref bb, .int us2_78])), (sa, .inl (cS, 32, .inr (.inr (.inr (.inr g))))), (ta, .inr (7, [.ref tb, .int (nI L)])), (tb, .inl (cB, 9000, .inl ft))] ++ famN 32 ad le2_78 tu2_78 vo2_78 sr2_78 lo2_78 fr2_78) : va_W).set (([(bb, .inl (cB, 4000, .inl f2_78)), (aB, .inr (0, [.ref sa, .ref bb, .int us2_78])), (sa, .inl (cS, 32, .inr (.inr (.inr (.inr g))))), (ta, .inr (7, [.ref tb, .int (nI L)])), (tb, .inl (cB, 9000, .inl ft))] : va_W).length + q9) (ad q9, .inr (5, [.int ((le2_78) q9), .int ((tu2_78) q9), .int ((vo2_78) q9), .int (tv_101), .int ((lo2_78) q9), .int ((fr2_78) q9)]))) := hD; rw [fam_up] at h9; simp only [upd_id] at h9 ⊢; exact h9
      refine lv_aload hx hb dX4_readSamples_105 (lv_at hl 0 rfl) ?_
      refine lv_iconst (v := 2) hx hb dX4_readSamples_107 (by decide) ?_
      refine lv_aload_n hx hb dX4_readSamples_108 rfl (lv_at hl 6 rfl) ?_
      refine lv_iload hx hb dX4_readSamples_109 (lv_at hl 3 rfl) ?_
      refine lv_bipush (v := 28) hx hb dX4_readSamples_111 (by decide) ?_
      refine lv_iadd hx hb dX4_readSamples_113 ?_
      refine lv_topi (fun tv_113 etv_113 => ?_)
      refine g_calliQ (X := [(bb, .inl (cB, 4000, .inl f2_78)), (aB, .inr (0, [.ref sa, .ref bb, .int us2_78])), (sa, .inl (cS, 32, .inr (.inr (.inr (.inr g))))), (ta, .inr (7, [.ref tb, .int (nI L)])), (tb, .inl (cB, 9000, .inl ft))]) (wr := [(bb, .inl (cB, 4000, .inl f2_78)), (aB, .inr (0, [.ref sa, .ref bb, .int us2_78])), (sa, .inl (cS, 32, .inr (.inr (.inr (.inr g)))))]) (va_runV (As := [.int tv_113]) (rest := [.int 2, .ref (ad q9)]) ⟨hx, hb, hml, hown, hts⟩ (k_pairAt l dC dI H.size ta tb cB ft L tv_113 (hL)) (cwV 1 hts (gG_V kw_309 kw_310 kw_311 kw_18 kw_312) rfl rfl rfl (by decide +kernel) ⟨Nat.le_of_ble_eq_true rfl, Nat.le_of_ble_eq_true rfl⟩) (g_preV (ws := [(bb, .inl (cB, 4000, .inl f2_78)), (aB, .inr (0, [.ref sa, .ref bb, .int us2_78])), (sa, .inl (cS, 32, .inr (.inr (.inr (.inr g))))), (ta, .inr (7, [.ref tb, .int (nI L)])), (tb, .inl (cB, 9000, .inl ft))]) (C := RX7) (T := TX7) (N := 2) hP.left hD.left hK hS hA hN hZ (q0 := 3) rfl rfl [3, 4] (by decide) rfl [0] rfl) rfl rfl hl.1 rfl (lv_room (Nat.le_of_ble_eq_true rfl)) dX4_readSamples_114 ⟨Nat.le_of_ble_eq_true rfl, Nat.le_of_ble_eq_true rfl⟩) hP hD hK hS hA [3, 4] [0, 1, 2] rfl rfl (by decide) (by decide) (fun r_114 w ty1 H locs hw_114 hP hD _ hS => ?_)
      have hu := hw_114
      cases hu
      have hP : va_P (dC, dI) vwCl ([(bb, .inl (cB, 4000, .inl f2_78)), (aB, .inr (0, [.ref sa, .ref bb, .int us2_78])), (sa, .inl (cS, 32, .inr (.inr (.inr (.inr g))))), (ta, .inr (7, [.ref tb, .int (nI L)])), (tb, .inl (cB, 9000, .inl ft))] ++ famN 32 ad le2_78 tu2_78 vo2_78 (upd sr2_78 q9 tv_101) lo2_78 fr2_78) H := hP
      have hD : va_D A ([(bb, .inl (cB, 4000, .inl f2_78)), (aB, .inr (0, [.ref sa, .ref bb, .int us2_78])), (sa, .inl (cS, 32, .inr (.inr (.inr (.inr g))))), (ta, .inr (7, [.ref tb, .int (nI L)])), (tb, .inl (cB, 9000, .inl ft))] ++ famN 32 ad le2_78 tu2_78 vo2_78 (upd sr2_78 q9 tv_101) lo2_78 fr2_78) := hD
      refine lv_imul hx hb dX4_readSamples_117 ?_
      refine lv_topi (fun tv_117 etv_117 => ?_)
      refine va_put (D := (dC, dI)) (ci := 5) (v := .int tv_117) (ty := tyX5 4) (C := RX5) (T := TX5) (N := 6) hx hb hts iwX5 tyX5 tyX5_ok nmX5 hown hK hP hD hS _ (fam_at (k := q9) (hq3)) rfl 4 (by decide) (hts (.fieldLink RX4 123 "ModulePlayer$Sample" "loop" "I") (List.mem_cons_of_mem _ kw_376)) (fun _ h9 => h9) rfl (by decide +kernel) rfl rfl (Nat.le_of_ble_eq_true rfl) dX4_readSamples_118 (fun H locs hP hD hS => ?_)
      have hP : va_P (dC, dI) vwCl ([(bb, .inl (cB, 4000, .inl f2_78)), (aB, .inr (0, [.ref sa, .ref bb, .int us2_78])), (sa, .inl (cS, 32, .inr (.inr (.inr (.inr g))))), (ta, .inr (7, [.ref tb, .int (nI L)])), (tb, .inl (cB, 9000, .inl ft))] ++ famN 32 ad le2_78 tu2_78 vo2_78 (upd sr2_78 q9 tv_101) (upd lo2_78 q9 tv_117) fr2_78) H := by have h9 : va_P (dC, dI) vwCl ((([(bb, .inl (cB, 4000, .inl f2_78)), (aB, .inr (0, [.ref sa, .ref bb, .int us2_78])), (sa, .inl (cS, 32, .inr (.inr (.inr (.inr g))))), (ta, .inr (7, [.ref tb, .int (nI L)])), (tb, .inl (cB, 9000, .inl ft))] ++ famN 32 ad le2_78 tu2_78 vo2_78 (upd sr2_78 q9 tv_101) lo2_78 fr2_78) : va_W).set (([(bb, .inl (cB, 4000, .inl f2_78)), (aB, .inr (0, [.ref sa, .ref bb, .int us2_78])), (sa, .inl (cS, 32, .inr (.inr (.inr (.inr g))))), (ta, .inr (7, [.ref tb, .int (nI L)])), (tb, .inl (cB, 9000, .inl ft))] : va_W).length + q9) (ad q9, .inr (5, [.int ((le2_78) q9), .int ((tu2_78) q9), .int ((vo2_78) q9), .int ((upd sr2_78 q9 tv_101) q9), .int (tv_117), .int ((fr2_78) q9)]))) H := hP; rw [fam_up] at h9; simp only [upd_id] at h9 ⊢; exact h9
      have hD : va_D A ([(bb, .inl (cB, 4000, .inl f2_78)), (aB, .inr (0, [.ref sa, .ref bb, .int us2_78])), (sa, .inl (cS, 32, .inr (.inr (.inr (.inr g))))), (ta, .inr (7, [.ref tb, .int (nI L)])), (tb, .inl (cB, 9000, .inl ft))] ++ famN 32 ad le2_78 tu2_78 vo2_78 (upd sr2_78 q9 tv_101) (upd lo2_78 q9 tv_117) fr2_78) := by have h9 : va_D A ((([(bb, .inl (cB, 4000, .inl f2_78)), (aB, .inr (0, [.ref sa, .ref bb, .int us2_78])), (sa, .inl (cS, 32, .inr (.inr (.inr (.inr g))))), (ta, .inr (7, [.ref tb, .int (nI L)])), (tb, .inl (cB, 9000, .inl ft))] ++ famN 32 ad le2_78 tu2_78 vo2_78 (upd sr2_78 q9 tv_101) lo2_78 fr2_78) : va_W).set (([(bb, .inl (cB, 4000, .inl f2_78)), (aB, .inr (0, [.ref sa, .ref bb, .int us2_78])), (sa, .inl (cS, 32, .inr (.inr (.inr (.inr g))))), (ta, .inr (7, [.ref tb, .int (nI L)])), (tb, .inl (cB, 9000, .inl ft))] : va_W).length + q9) (ad q9, .inr (5, [.int ((le2_78) q9), .int ((tu2_78) q9), .int ((vo2_78) q9), .int ((upd sr2_78 q9 tv_101) q9), .int (tv_117), .int ((fr2_78) q9)]))) := hD; rw [fam_up] at h9; simp only [upd_id] at h9 ⊢; exact h9
      refine lv_iconst (v := 0) hx hb dX4_readSamples_121 (by decide) ?_
      refine lv_istore (lv' := [(9, .int 0), (8, .ref (ad q9)), (7, .int r_42), (6, .int tv_33), (5, .int (nI (20 + 30 * (q9 - 1)))), (4, .int (nI q9)), (3, .int nx1), (0, .ref ta), (1, .ref aB)]) hx hb dX4_readSamples_122 hl (by decide) rfl (fun ls hl => ?_)
      obtain ⟨hTz, ehTz⟩ : ∃ xx : Nat, xx = (tv_33).toInt.toNat := ⟨_, rfl⟩
      have hP := va_P.part (X := [(bb, .inl (cB, 4000, .inl f2_78)), (aB, .inr (0, [.ref sa, .ref bb, .int us2_78])), (sa, .inl (cS, 32, .inr (.inr (.inr (.inr g))))), (ta, .inr (7, [.ref tb, .int (nI L)])), (tb, .inl (cB, 9000, .inl ft))]) (cx := [(ta, .inr (7, [.ref tb, .int (nI L)])), (tb, .inl (cB, 9000, .inl ft)), (aB, .inr (0, [.ref sa, .ref bb, .int us2_78])), (sa, .inl (cS, 32, .inr (.inr (.inr (.inr g))))), (bb, .inl (cB, 4000, .inl f2_78))]) hP [3, 4, 1, 2, 0] rfl
      have hD := va_D.part (X := [(bb, .inl (cB, 4000, .inl f2_78)), (aB, .inr (0, [.ref sa, .ref bb, .int us2_78])), (sa, .inl (cS, 32, .inr (.inr (.inr (.inr g))))), (ta, .inr (7, [.ref tb, .int (nI L)])), (tb, .inl (cB, 9000, .inl ft))]) (cx := [(ta, .inr (7, [.ref tb, .int (nI L)])), (tb, .inl (cB, 9000, .inl ft)), (aB, .inr (0, [.ref sa, .ref bb, .int us2_78])), (sa, .inl (cS, 32, .inr (.inr (.inr (.inr g))))), (bb, .inl (cB, 4000, .inl f2_78))]) hD [3, 4, 1, 2, 0] (by decide) rfl
      have hP : va_P (dC, dI) vwCl ([(ta, .inr (7, [.ref tb, .int (nI L)])), (tb, .inl (cB, 9000, .inl ft)), (aB, .inr (0, [.ref sa, .ref bb, .int us2_78])), (sa, .inl (cS, 32, .inr (.inr (.inr (.inr g))))), (bb, .inl (cB, 4000, .inl f2_78))] ++ famN 32 ad le2_78 tu2_78 vo2_78 (upd sr2_78 q9 tv_101) (upd lo2_78 q9 tv_117) fr2_78) H := hP
      have hD : va_D A ([(ta, .inr (7, [.ref tb, .int (nI L)])), (tb, .inl (cB, 9000, .inl ft)), (aB, .inr (0, [.ref sa, .ref bb, .int us2_78])), (sa, .inl (cS, 32, .inr (.inr (.inr (.inr g))))), (bb, .inl (cB, 4000, .inl f2_78))] ++ famN 32 ad le2_78 tu2_78 vo2_78 (upd sr2_78 q9 tv_101) (upd lo2_78 q9 tv_117) fr2_78) := hD
      have LP124 : ∀ (fu124 : Nat) (q124 : Nat) (fb3 : Nat → Int32) (hq124 : q124 < 2147483648) (hf3 : sb_Fit fb3) (hm124 : hTz - q124 < fu124) (H : Heap) (locs : List Loc), va_P (dC, dI) vwCl ([(ta, .inr (7, [.ref tb, .int (nI L)])), (tb, .inl (cB, 9000, .inl ft)), (aB, .inr (0, [.ref sa, .ref bb, .int us2_78])), (sa, .inl (cS, 32, .inr (.inr (.inr (.inr g))))), (bb, .inl (cB, 4000, .inl fb3))] ++ famN 32 ad le2_78 tu2_78 vo2_78 (upd sr2_78 q9 tv_101) (upd lo2_78 q9 tv_117) fr2_78) H → va_D A ([(ta, .inr (7, [.ref tb, .int (nI L)])), (tb, .inl (cB, 9000, .inl ft)), (aB, .inr (0, [.ref sa, .ref bb, .int us2_78])), (sa, .inl (cS, 32, .inr (.inr (.inr (.inr g))))), (bb, .inl (cB, 4000, .inl fb3))] ++ famN 32 ad le2_78 tu2_78 vo2_78 (upd sr2_78 q9 tv_101) (upd lo2_78 q9 tv_117) fr2_78) → va_S A s.heap H locs → ∀ ls : Array Slot, lv_has ls 10 [(9, .int (nI q124)), (8, .ref (ad q9)), (6, .int tv_33), (4, .int (nI q9)), (3, .int nx1), (0, .ref ta), (1, .ref aB)] → W p l e ({ frames := 4, cells := 0, slots := 0, locals := 93 }) s m ([.ref ta, .ref aB, .int nx] : List Value).toArray below meth c H locs (0) (0) (MQ below (va_Qv (fun u : va_W × gT => ∃ (ln2 : Nat → Nat) (us2 : Int32) (f2 : Nat → Int32) (le2 : Nat → Int32) (tu2 : Nat → Int32) (vo2 : Nat → Int32) (sr2 : Nat → Int32) (lo2 : Nat → Int32) (fr2 : Nat → Int32), u = (([(ta, .inr (7, [.ref tb, .int (nI L)])), (tb, .inl (cB, 9000, .inl ft)), (aB, .inr (0, [.ref sa, .ref bb, .int us2])), (sa, .inl (cS, 32, .inr (.inr (.inr (.inr g))))), (bb, .inl (cB, 4000, .inl f2))] ++ famN 32 ad le2 tu2 vo2 sr2 lo2 fr2), []) ∧ bankOk ln2 le2 fr2 us2 ∧ sb_Fit f2) (gB (dC, dI) A) A) ([.ref ta, .ref aB, .int nx] : List Value).toArray s 0 0 A) (F0 m 124 ls []) := by
        intro fu124
        induction fu124 with
        | zero => intro q124 fb3 hq124 hf3 hm124; exact absurd hm124 (Nat.not_lt_zero _)
        | succ fu124 ih124 =>
          intro q124 fb3 hq124 hf3 hm124 H locs hP hD hS ls hl
          refine lv_iload hx hb dX4_readSamples_124 (lv_at hl 0 rfl) ?_
          refine lv_iload hx hb dX4_readSamples_126 (lv_at hl 2 rfl) ?_
          refine lv_icmp_ge (tgt := 153) hx hb dX4_readSamples_128 (by decide) (fun c_128 => ?_) (fun c_128 => ?_)
          · refine lv_iload_n hx hb dX4_readSamples_153 rfl (lv_at hl 4 rfl) ?_
            refine lv_iload hx hb dX4_readSamples_154 (lv_at hl 2 rfl) ?_
            refine lv_iadd hx hb dX4_readSamples_156 ?_
            refine lv_topi (fun tv_156 etv_156 => ?_)
            refine lv_istore_n (lv' := [(3, .int tv_156), (9, .int (nI q124)), (8, .ref (ad q9)), (6, .int tv_33), (4, .int (nI q9)), (0, .ref ta), (1, .ref aB)]) hx hb dX4_readSamples_157 rfl hl (by decide) rfl (fun ls hl => ?_)
            refine lv_iinc (v := nI (q9 + 1)) (lv' := [(4, .int (nI (q9 + 1))), (3, .int tv_156), (9, .int (nI q124)), (8, .ref (ad q9)), (6, .int tv_33), (0, .ref ta), (1, .ref aB)]) hx hb dX4_readSamples_158 hl (k := 4) rfl (nI_1 q9) (by decide) rfl (fun ls hl => ?_)
            refine lv_goto (tgt := 9) hx hb dX4_readSamples_161 (by decide) ?_
            have hP : va_P (dC, dI) vwCl ([(ta, .inr (7, [.ref tb, .int (nI L)])), (tb, .inl (cB, 9000, .inl ft)), (aB, .inr (0, [.ref sa, .ref bb, .int us2_78])), (sa, .inl (cS, 32, .inr (.inr (.inr (.inr g))))), (bb, .inl (cB, 4000, .inl fb3))] ++ famN 32 ad le2_78 tu2_78 vo2_78 (upd sr2_78 q9 tv_101) (upd lo2_78 q9 tv_117) fr2_78) H := hP
            have hD : va_D A ([(ta, .inr (7, [.ref tb, .int (nI L)])), (tb, .inl (cB, 9000, .inl ft)), (aB, .inr (0, [.ref sa, .ref bb, .int us2_78])), (sa, .inl (cS, 32, .inr (.inr (.inr (.inr g))))), (bb, .inl (cB, 4000, .inl fb3))] ++ famN 32 ad le2_78 tu2_78 vo2_78 (upd sr2_78 q9 tv_101) (upd lo2_78 q9 tv_117) fr2_78) := hD
            exact ih9 (q9 + 1) ln2_78 us2_78 fb3 le2_78 tu2_78 vo2_78 (upd sr2_78 q9 tv_101) (upd lo2_78 q9 tv_117) fr2_78 tv_156 (by omega) (by omega) (hB2_78) (hf3) (by omega) _ _ hP hD hS _ (lv_sub hl [0, 1, 5, 6] rfl)
          refine lv_aload_n hx hb dX4_readSamples_131 rfl (lv_at hl 6 rfl) ?_
          refine lv_aload hx hb dX4_readSamples_132 (lv_at hl 1 rfl) ?_
          refine lv_iload hx hb dX4_readSamples_134 (lv_at hl 0 rfl) ?_
          refine lv_aload_n hx hb dX4_readSamples_136 rfl (lv_at hl 5 rfl) ?_
          refine lv_iload_n hx hb dX4_readSamples_137 rfl (lv_at hl 4 rfl) ?_
          refine lv_iload hx hb dX4_readSamples_138 (lv_at hl 0 rfl) ?_
          refine lv_iadd hx hb dX4_readSamples_140 ?_
          refine lv_topi (fun tv_140 etv_140 => ?_)
          refine g_calliQ (X := [(ta, .inr (7, [.ref tb, .int (nI L)])), (tb, .inl (cB, 9000, .inl ft)), (aB, .inr (0, [.ref sa, .ref bb, .int us2_78])), (sa, .inl (cS, 32, .inr (.inr (.inr (.inr g))))), (bb, .inl (cB, 4000, .inl fb3))]) (wr := [(aB, .inr (0, [.ref sa, .ref bb, .int us2_78])), (sa, .inl (cS, 32, .inr (.inr (.inr (.inr g))))), (bb, .inl (cB, 4000, .inl fb3))]) (va_runV (As := [.int tv_140]) (rest := [.int (nI q124), .ref (ad q9), .ref aB]) ⟨hx, hb, hml, hown, hts⟩ (k_at l dC dI H.size ta tb cB ft L tv_140 (hL)) (cwV 1 hts (gG_V kw_295 kw_296 kw_297 kw_18 kw_298) rfl rfl rfl (by decide +kernel) ⟨Nat.le_of_ble_eq_true rfl, Nat.le_of_ble_eq_true rfl⟩) (g_preV (ws := [(ta, .inr (7, [.ref tb, .int (nI L)])), (tb, .inl (cB, 9000, .inl ft)), (aB, .inr (0, [.ref sa, .ref bb, .int us2_78])), (sa, .inl (cS, 32, .inr (.inr (.inr (.inr g))))), (bb, .inl (cB, 4000, .inl fb3))]) (C := RX7) (T := TX7) (N := 2) hP.left hD.left hK hS hA hN hZ (q0 := 0) rfl rfl [0, 1] (by decide) rfl [0] rfl) rfl rfl hl.1 rfl (lv_room (Nat.le_of_ble_eq_true rfl)) dX4_readSamples_141 ⟨Nat.le_of_ble_eq_true rfl, Nat.le_of_ble_eq_true rfl⟩) hP hD hK hS hA [0, 1] [2, 3, 4] rfl rfl (by decide) (by decide) (fun r_141 w ty1 H locs hw_141 hP hD _ hS => ?_)
          have hu := hw_141
          cases hu
          have hP : va_P (dC, dI) vwCl ([(aB, .inr (0, [.ref sa, .ref bb, .int us2_78])), (sa, .inl (cS, 32, .inr (.inr (.inr (.inr g))))), (bb, .inl (cB, 4000, .inl fb3)), (ta, .inr (7, [.ref tb, .int (nI L)])), (tb, .inl (cB, 9000, .inl ft))] ++ famN 32 ad le2_78 tu2_78 vo2_78 (upd sr2_78 q9 tv_101) (upd lo2_78 q9 tv_117) fr2_78) H := hP
          have hD : va_D A ([(aB, .inr (0, [.ref sa, .ref bb, .int us2_78])), (sa, .inl (cS, 32, .inr (.inr (.inr (.inr g))))), (bb, .inl (cB, 4000, .inl fb3)), (ta, .inr (7, [.ref tb, .int (nI L)])), (tb, .inl (cB, 9000, .inl ft))] ++ famN 32 ad le2_78 tu2_78 vo2_78 (upd sr2_78 q9 tv_101) (upd lo2_78 q9 tv_117) fr2_78) := hD
          refine g_callvP (X := [(aB, .inr (0, [.ref sa, .ref bb, .int us2_78])), (sa, .inl (cS, 32, .inr (.inr (.inr (.inr g))))), (bb, .inl (cB, 4000, .inl fb3)), (ta, .inr (7, [.ref tb, .int (nI L)])), (tb, .inl (cB, 9000, .inl ft))]) (wr := [(sa, .inl (cS, 32, .inr (.inr (.inr (.inr g))))), (ta, .inr (7, [.ref tb, .int (nI L)])), (tb, .inl (cB, 9000, .inl ft))]) (va_runV (As := [.ref (ad q9), .int (nI q124), .int r_141]) (rest := []) ⟨hx, hb, hml, hown, hts⟩ (k_putByte l dC dI H.size aB sa bb us2_78 ad cB fb3 le2_78 tu2_78 vo2_78 (upd sr2_78 q9 tv_101) (upd lo2_78 q9 tv_117) fr2_78 q9 (nI q124) r_141 (hq3) (hf3)) (cwV 3 hts (gG_V kw_416 kw_417 kw_418 kw_22 kw_419) rfl rfl rfl (by decide +kernel) ⟨Nat.le_of_ble_eq_true rfl, Nat.le_of_ble_eq_true rfl⟩) (g_preVP (X := [(aB, .inr (0, [.ref sa, .ref bb, .int us2_78])), (sa, .inl (cS, 32, .inr (.inr (.inr (.inr g))))), (bb, .inl (cB, 4000, .inl fb3)), (ta, .inr (7, [.ref tb, .int (nI L)])), (tb, .inl (cB, 9000, .inl ft))]) (C := RX0) (T := TX0) (N := 3) hP hD hK hS hA hN hZ (q0 := 0) rfl rfl [0, 2] (by decide) rfl [0] rfl) rfl rfl hl.1 rfl (lv_room (Nat.le_of_ble_eq_true rfl)) dX4_readSamples_144 ⟨Nat.le_of_ble_eq_true rfl, Nat.le_of_ble_eq_true rfl⟩) hP hD hK hS hA [0, 2] [1, 3, 4] rfl rfl (by decide) (by decide) (fun w ty1 H locs hw_144 hJ _ hS => ?_)
          rcases hw_144 with ⟨f2_144, hu, hfit2_144⟩
          cases hu
          obtain ⟨hP, hD⟩ := hJ _ _ rfl
          have hP : va_P (dC, dI) vwCl ([(sa, .inl (cS, 32, .inr (.inr (.inr (.inr g))))), (ta, .inr (7, [.ref tb, .int (nI L)])), (tb, .inl (cB, 9000, .inl ft)), (aB, .inr (0, [.ref sa, .ref bb, .int us2_78])), (bb, .inl (cB, 4000, .inl f2_144))] ++ famN 32 ad le2_78 tu2_78 vo2_78 (upd sr2_78 q9 tv_101) (upd lo2_78 q9 tv_117) fr2_78) H := hP
          have hD : va_D A ([(sa, .inl (cS, 32, .inr (.inr (.inr (.inr g))))), (ta, .inr (7, [.ref tb, .int (nI L)])), (tb, .inl (cB, 9000, .inl ft)), (aB, .inr (0, [.ref sa, .ref bb, .int us2_78])), (bb, .inl (cB, 4000, .inl f2_144))] ++ famN 32 ad le2_78 tu2_78 vo2_78 (upd sr2_78 q9 tv_101) (upd lo2_78 q9 tv_117) fr2_78) := hD
          refine lv_iinc (v := nI (q124 + 1)) (lv' := [(9, .int (nI (q124 + 1))), (8, .ref (ad q9)), (6, .int tv_33), (4, .int (nI q9)), (3, .int nx1), (0, .ref ta), (1, .ref aB)]) hx hb dX4_readSamples_147 hl (k := 0) rfl (nI_1 q124) (by decide) rfl (fun ls hl => ?_)
          refine lv_goto (tgt := 124) hx hb dX4_readSamples_150 (by decide) ?_
          have hP := va_P.part (X := [(sa, .inl (cS, 32, .inr (.inr (.inr (.inr g))))), (ta, .inr (7, [.ref tb, .int (nI L)])), (tb, .inl (cB, 9000, .inl ft)), (aB, .inr (0, [.ref sa, .ref bb, .int us2_78])), (bb, .inl (cB, 4000, .inl f2_144))]) (cx := [(ta, .inr (7, [.ref tb, .int (nI L)])), (tb, .inl (cB, 9000, .inl ft)), (aB, .inr (0, [.ref sa, .ref bb, .int us2_78])), (sa, .inl (cS, 32, .inr (.inr (.inr (.inr g))))), (bb, .inl (cB, 4000, .inl f2_144))]) hP [1, 2, 3, 0, 4] rfl
          have hD := va_D.part (X := [(sa, .inl (cS, 32, .inr (.inr (.inr (.inr g))))), (ta, .inr (7, [.ref tb, .int (nI L)])), (tb, .inl (cB, 9000, .inl ft)), (aB, .inr (0, [.ref sa, .ref bb, .int us2_78])), (bb, .inl (cB, 4000, .inl f2_144))]) (cx := [(ta, .inr (7, [.ref tb, .int (nI L)])), (tb, .inl (cB, 9000, .inl ft)), (aB, .inr (0, [.ref sa, .ref bb, .int us2_78])), (sa, .inl (cS, 32, .inr (.inr (.inr (.inr g))))), (bb, .inl (cB, 4000, .inl f2_144))]) hD [1, 2, 3, 0, 4] (by decide) rfl
          have hP : va_P (dC, dI) vwCl ([(ta, .inr (7, [.ref tb, .int (nI L)])), (tb, .inl (cB, 9000, .inl ft)), (aB, .inr (0, [.ref sa, .ref bb, .int us2_78])), (sa, .inl (cS, 32, .inr (.inr (.inr (.inr g))))), (bb, .inl (cB, 4000, .inl f2_144))] ++ famN 32 ad le2_78 tu2_78 vo2_78 (upd sr2_78 q9 tv_101) (upd lo2_78 q9 tv_117) fr2_78) H := hP
          have hD : va_D A ([(ta, .inr (7, [.ref tb, .int (nI L)])), (tb, .inl (cB, 9000, .inl ft)), (aB, .inr (0, [.ref sa, .ref bb, .int us2_78])), (sa, .inl (cS, 32, .inr (.inr (.inr (.inr g))))), (bb, .inl (cB, 4000, .inl f2_144))] ++ famN 32 ad le2_78 tu2_78 vo2_78 (upd sr2_78 q9 tv_101) (upd lo2_78 q9 tv_117) fr2_78) := hD
          exact ih124 (q124 + 1) f2_144 (by have := ht_lt ehTz c_128 hq124; omega) (hfit2_144) (by have := ht_lt ehTz c_128 hq124; omega) _ _ hP hD hS _ (lv_sub hl [0, 1, 2, 3, 4, 5, 6] rfl)
      exact LP124 _ 0 f2_78 (by decide) (hfit2_78) (Nat.lt_succ_self _) _ _ hP hD hS _ (lv_sub hl [0, 1, 3, 5, 6, 7, 8] rfl)
  exact LP9 _ 1 (fun _ => 0) 0 f le2_1 tu vo sr lo fr2_1 nx (by decide) (by decide) (hB2_1) (hfit) (Nat.lt_succ_self _) _ _ hP hD hS _ (lv_sub hl [0, 1, 2, 3] rfl)

set_option maxHeartbeats 400000 in
set_option maxRecDepth 100000 in
theorem k_writeCell (l : Launch) (dC : Nat → ClassId) (dI : Nat → Nat → Nat) (sz : Nat) (ta tb : Nat) (cB : ClassId) (ft : Nat → Int32) (L : Nat) (iv vv : Int32) (hL : L ≤ 9000) : Met l yX9_writeCell (wsG (.code yX9_writeCell cX9_writeCell 5 none)) ({ frames := 2, cells := 0, slots := 0, locals := 44 }) (va_Pc [.ref ta, .int iv, .int vv] (gP (dC, dI) [(cB, .byte)] [(ta, .inr (7, [.ref tb, .int (nI L)])), (tb, .inl (cB, 9000, .inl ft))] sz)) (va_Qv (fun u : va_W × gT => ∃ (L2 : Nat) (f2 : Nat → Int32), u = ([(ta, .inr (7, [.ref tb, .int (nI L2)])), (tb, .inl (cB, 9000, .inl f2))], []) ∧ L2 ≤ 9000) (gB (dC, dI) (va_A [(ta, .inr (7, [.ref tb, .int (nI L)])), (tb, .inl (cB, 9000, .inl ft))] sz)) (va_A [(ta, .inr (7, [.ref tb, .int (nI L)])), (tb, .inl (cB, 9000, .inl ft))] sz)) 0 0 (va_A [(ta, .inr (7, [.ref tb, .int (nI L)])), (tb, .inl (cB, 9000, .inl ft))] sz) := by
  refine Met.ofW (cc := cX9_writeCell) (maxL := 5) (ret := none) (by decide) rfl ?_
  intro p e s m args below meth c s₁ B hml hv
  obtain ⟨rfl, hsz, hP, hK, hD0, hN, hZ⟩ := hv
  have hx := B.exec
  have hb := B.bytes
  have hr := B.returns
  have hts := atoms_spec (ws := (wsG (.code yX9_writeCell cX9_writeCell 5 none))) B.pre
  have hown : s.vm.findClass RX9 = some m.cls := findClass_of_methodNamed B.named
  have hlocks := B.notSynchronized
  subst hsz
  have hD := hD0.self (sz := s.heap.size)
  generalize hAe : va_A [(ta, .inr (7, [.ref tb, .int (nI L)])), (tb, .inl (cB, 9000, .inl ft))] s.heap.size = A at hD hZ ⊢
  have hA : ∀ q : Nat, s.heap.size ≤ q → A q := fun q h => by rw [← hAe]; exact Or.inr h
  have hl := lv_entry ([.ref ta, .int iv, .int vv]) (n := 5) (Nat.le_of_ble_eq_true rfl)
  rw [lg_entry_eq]
  generalize (lg_sl ([.ref ta, .int iv, .int vv]) ++ List.replicate (5 - (lg_sl ([.ref ta, .int iv, .int vv])).length) Slot.unset).toArray = ls at hl ⊢
  have hl : lv_has ls 5 [(0, .ref ta), (1, .int iv), (2, .int vv)] := hl
  refine g_start (A := A) hP (fun H locs hP hS => ?_)
  refine lv_iload_n hx hb dX9_writeCell_0 rfl (lv_at hl 2 rfl) ?_
  refine lv_bipush (v := 17) hx hb dX9_writeCell_1 (by decide) ?_
  refine lv_ishr hx hb dX9_writeCell_3 ?_
  refine lv_topi (fun tv_3 etv_3 => ?_)
  refine lv_istore_n (lv' := [(3, .int tv_3), (0, .ref ta), (1, .int iv), (2, .int vv)]) hx hb dX9_writeCell_4 rfl hl (by decide) rfl (fun ls hl => ?_)
  refine lv_iload_n hx hb dX9_writeCell_5 rfl (lv_at hl 3 rfl) ?_
  refine lv_bipush (v := 12) hx hb dX9_writeCell_6 (by decide) ?_
  refine lv_ishr hx hb dX9_writeCell_8 ?_
  refine lv_topi (fun tv_8 etv_8 => ?_)
  refine lv_bipush (v := 31) hx hb dX9_writeCell_9 (by decide) ?_
  refine lv_iand hx hb dX9_writeCell_11 ?_
  refine lv_topi (fun tv_11 etv_11 => ?_)
  refine lv_istore (lv' := [(4, .int tv_11), (3, .int tv_3), (0, .ref ta), (1, .int iv), (2, .int vv)]) hx hb dX9_writeCell_12 hl (by decide) rfl (fun ls hl => ?_)
  refine lv_aload_n hx hb dX9_writeCell_14 rfl (lv_at hl 2 rfl) ?_
  refine lv_iload_n hx hb dX9_writeCell_15 rfl (lv_at hl 3 rfl) ?_
  refine lv_iload hx hb dX9_writeCell_16 (lv_at hl 0 rfl) ?_
  refine lv_bipush (v := 16) hx hb dX9_writeCell_18 (by decide) ?_
  refine lv_iand hx hb dX9_writeCell_20 ?_
  refine lv_topi (fun tv_20 etv_20 => ?_)
  refine lv_iload_n hx hb dX9_writeCell_21 rfl (lv_at hl 1 rfl) ?_
  refine lv_bipush (v := 8) hx hb dX9_writeCell_22 (by decide) ?_
  refine lv_ishr hx hb dX9_writeCell_24 ?_
  refine lv_topi (fun tv_24 etv_24 => ?_)
  refine lv_ior hx hb dX9_writeCell_25 ?_
  refine lv_topi (fun tv_25 etv_25 => ?_)
  refine g_callv (wr := []) (va_runV (As := [.int iv, .int tv_25]) (rest := []) ⟨hx, hb, hml, hown, hts⟩ (k_put l dC dI H.size ta tb cB ft L iv tv_25 (hL)) (cwV 2 hts (gG_V kw_474 kw_243 kw_244 kw_18 kw_245) rfl rfl rfl (by decide +kernel) ⟨Nat.le_of_ble_eq_true rfl, Nat.le_of_ble_eq_true rfl⟩) (g_preV (C := RX7) (T := TX7) (N := 2) hP hD hK hS hA hN hZ (q0 := 0) rfl rfl [0, 1] (by decide) rfl [0] rfl) rfl rfl hl.1 rfl (lv_room (Nat.le_of_ble_eq_true rfl)) dX9_writeCell_26 ⟨Nat.le_of_ble_eq_true rfl, Nat.le_of_ble_eq_true rfl⟩) hP hD hK hS hA [0, 1] [] rfl rfl (by decide) (by decide) (fun w ty1 H locs hw_26 hP hD _ hS => ?_)
  rcases hw_26 with ⟨L2_26, f2_26, hu, hL2_26⟩
  cases hu
  have hP : va_P (dC, dI) vwCl [(ta, .inr (7, [.ref tb, .int (nI L2_26)])), (tb, .inl (cB, 9000, .inl f2_26))] H := hP
  have hD : va_D A [(ta, .inr (7, [.ref tb, .int (nI L2_26)])), (tb, .inl (cB, 9000, .inl f2_26))] := hD
  refine lv_aload_n hx hb dX9_writeCell_29 rfl (lv_at hl 2 rfl) ?_
  refine lv_iload_n hx hb dX9_writeCell_30 rfl (lv_at hl 3 rfl) ?_
  refine lv_iconst (v := 1) hx hb dX9_writeCell_31 (by decide) ?_
  refine lv_iadd hx hb dX9_writeCell_32 ?_
  refine lv_topi (fun tv_32 etv_32 => ?_)
  refine lv_iload_n hx hb dX9_writeCell_33 rfl (lv_at hl 1 rfl) ?_
  refine lv_sipush (v := 255) hx hb dX9_writeCell_34 (by decide) ?_
  refine lv_iand hx hb dX9_writeCell_37 ?_
  refine lv_topi (fun tv_37 etv_37 => ?_)
  refine g_callv (wr := []) (va_runV (As := [.int tv_32, .int tv_37]) (rest := []) ⟨hx, hb, hml, hown, hts⟩ (k_put l dC dI H.size ta tb cB f2_26 L2_26 tv_32 tv_37 (hL2_26)) (cwV 2 hts (gG_V kw_474 kw_243 kw_244 kw_18 kw_245) rfl rfl rfl (by decide +kernel) ⟨Nat.le_of_ble_eq_true rfl, Nat.le_of_ble_eq_true rfl⟩) (g_preV (C := RX7) (T := TX7) (N := 2) hP hD hK hS hA hN hZ (q0 := 0) rfl rfl [0, 1] (by decide) rfl [0] rfl) rfl rfl hl.1 rfl (lv_room (Nat.le_of_ble_eq_true rfl)) dX9_writeCell_38 ⟨Nat.le_of_ble_eq_true rfl, Nat.le_of_ble_eq_true rfl⟩) hP hD hK hS hA [0, 1] [] rfl rfl (by decide) (by decide) (fun w ty1 H locs hw_38 hP hD _ hS => ?_)
  rcases hw_38 with ⟨L2_38, f2_38, hu, hL2_38⟩
  cases hu
  have hP : va_P (dC, dI) vwCl [(ta, .inr (7, [.ref tb, .int (nI L2_38)])), (tb, .inl (cB, 9000, .inl f2_38))] H := hP
  have hD : va_D A [(ta, .inr (7, [.ref tb, .int (nI L2_38)])), (tb, .inl (cB, 9000, .inl f2_38))] := hD
  refine lv_aload_n hx hb dX9_writeCell_41 rfl (lv_at hl 2 rfl) ?_
  refine lv_iload_n hx hb dX9_writeCell_42 rfl (lv_at hl 3 rfl) ?_
  refine lv_iconst (v := 2) hx hb dX9_writeCell_43 (by decide) ?_
  refine lv_iadd hx hb dX9_writeCell_44 ?_
  refine lv_topi (fun tv_44 etv_44 => ?_)
  refine lv_iload hx hb dX9_writeCell_45 (lv_at hl 0 rfl) ?_
  refine lv_bipush (v := 15) hx hb dX9_writeCell_47 (by decide) ?_
  refine lv_iand hx hb dX9_writeCell_49 ?_
  refine lv_topi (fun tv_49 etv_49 => ?_)
  refine lv_iconst (v := 4) hx hb dX9_writeCell_50 (by decide) ?_
  refine lv_ishl hx hb dX9_writeCell_51 ?_
  refine lv_topi (fun tv_51 etv_51 => ?_)
  refine lv_iload_n hx hb dX9_writeCell_52 rfl (lv_at hl 4 rfl) ?_
  refine lv_bipush (v := 8) hx hb dX9_writeCell_53 (by decide) ?_
  refine lv_ishr hx hb dX9_writeCell_55 ?_
  refine lv_topi (fun tv_55 etv_55 => ?_)
  refine lv_bipush (v := 15) hx hb dX9_writeCell_56 (by decide) ?_
  refine lv_iand hx hb dX9_writeCell_58 ?_
  refine lv_topi (fun tv_58 etv_58 => ?_)
  refine lv_ior hx hb dX9_writeCell_59 ?_
  refine lv_topi (fun tv_59 etv_59 => ?_)
  refine g_callv (wr := []) (va_runV (As := [.int tv_44, .int tv_59]) (rest := []) ⟨hx, hb, hml, hown, hts⟩ (k_put l dC dI H.size ta tb cB f2_38 L2_38 tv_44 tv_59 (hL2_38)) (cwV 2 hts (gG_V kw_474 kw_243 kw_244 kw_18 kw_245) rfl rfl rfl (by decide +kernel) ⟨Nat.le_of_ble_eq_true rfl, Nat.le_of_ble_eq_true rfl⟩) (g_preV (C := RX7) (T := TX7) (N := 2) hP hD hK hS hA hN hZ (q0 := 0) rfl rfl [0, 1] (by decide) rfl [0] rfl) rfl rfl hl.1 rfl (lv_room (Nat.le_of_ble_eq_true rfl)) dX9_writeCell_60 ⟨Nat.le_of_ble_eq_true rfl, Nat.le_of_ble_eq_true rfl⟩) hP hD hK hS hA [0, 1] [] rfl rfl (by decide) (by decide) (fun w ty1 H locs hw_60 hP hD _ hS => ?_)
  rcases hw_60 with ⟨L2_60, f2_60, hu, hL2_60⟩
  cases hu
  have hP : va_P (dC, dI) vwCl [(ta, .inr (7, [.ref tb, .int (nI L2_60)])), (tb, .inl (cB, 9000, .inl f2_60))] H := hP
  have hD : va_D A [(ta, .inr (7, [.ref tb, .int (nI L2_60)])), (tb, .inl (cB, 9000, .inl f2_60))] := hD
  refine lv_aload_n hx hb dX9_writeCell_63 rfl (lv_at hl 2 rfl) ?_
  refine lv_iload_n hx hb dX9_writeCell_64 rfl (lv_at hl 3 rfl) ?_
  refine lv_iconst (v := 3) hx hb dX9_writeCell_65 (by decide) ?_
  refine lv_iadd hx hb dX9_writeCell_66 ?_
  refine lv_topi (fun tv_66 etv_66 => ?_)
  refine lv_iload_n hx hb dX9_writeCell_67 rfl (lv_at hl 4 rfl) ?_
  refine lv_sipush (v := 255) hx hb dX9_writeCell_68 (by decide) ?_
  refine lv_iand hx hb dX9_writeCell_71 ?_
  refine lv_topi (fun tv_71 etv_71 => ?_)
  refine g_callv (wr := []) (va_runV (As := [.int tv_66, .int tv_71]) (rest := []) ⟨hx, hb, hml, hown, hts⟩ (k_put l dC dI H.size ta tb cB f2_60 L2_60 tv_66 tv_71 (hL2_60)) (cwV 2 hts (gG_V kw_474 kw_243 kw_244 kw_18 kw_245) rfl rfl rfl (by decide +kernel) ⟨Nat.le_of_ble_eq_true rfl, Nat.le_of_ble_eq_true rfl⟩) (g_preV (C := RX7) (T := TX7) (N := 2) hP hD hK hS hA hN hZ (q0 := 0) rfl rfl [0, 1] (by decide) rfl [0] rfl) rfl rfl hl.1 rfl (lv_room (Nat.le_of_ble_eq_true rfl)) dX9_writeCell_72 ⟨Nat.le_of_ble_eq_true rfl, Nat.le_of_ble_eq_true rfl⟩) hP hD hK hS hA [0, 1] [] rfl rfl (by decide) (by decide) (fun w ty1 H locs hw_72 hP hD _ hS => ?_)
  rcases hw_72 with ⟨L2_72, f2_72, hu, hL2_72⟩
  cases hu
  have hP : va_P (dC, dI) vwCl [(ta, .inr (7, [.ref tb, .int (nI L2_72)])), (tb, .inl (cB, 9000, .inl f2_72))] H := hP
  have hD : va_D A [(ta, .inr (7, [.ref tb, .int (nI L2_72)])), (tb, .inl (cB, 9000, .inl f2_72))] := hD
  have hP9 := hP
  have hD9 := hD
  have hK9 := hK.sub (tys' := []) [] rfl
  exact W.vret hx hb hr (fun t ht hW => ⟨⟨_, rfl, ⟨L2_72, f2_72, rfl, hL2_72⟩, by rw [ht]; exact hP9, va_K.moved hW.alike hK9, hD9⟩, hS.F ht⟩) hS.2.2 dX9_writeCell_75

set_option maxHeartbeats 400000 in
set_option maxRecDepth 100000 in
theorem k_writePattern (l : Launch) (dC : Nat → ClassId) (dI : Nat → Nat → Nat) (sz : Nat) (ta tb : Nat) (cB : ClassId) (ft : Nat → Int32) (L : Nat) (aS ce pl : Nat) (sln srs : Int32) (fc : Nat → Int32) (cI : ClassId) (pv : Int32) (hL : L ≤ 9000) : Met l yX9_writePattern (wsG (.code yX9_writePattern cX9_writePattern 6 none)) ({ frames := 3, cells := 0, slots := 0, locals := 68 }) (va_Pc [.ref ta, .ref aS, .int pv] (gP (dC, dI) [(cB, .byte), (cI, .int)] [(ta, .inr (7, [.ref tb, .int (nI L)])), (tb, .inl (cB, 9000, .inl ft)), (aS, .inr (6, [.ref ce, .ref pl, .int sln, .int srs])), (ce, .inl (cI, 2048, .inl fc))] sz)) (va_Qv (fun u : va_W × gT => ∃ (L2 : Nat) (f2 : Nat → Int32), u = ([(ta, .inr (7, [.ref tb, .int (nI L2)])), (tb, .inl (cB, 9000, .inl f2)), (aS, .inr (6, [.ref ce, .ref pl, .int sln, .int srs])), (ce, .inl (cI, 2048, .inl fc))], []) ∧ L2 ≤ 9000) (gB (dC, dI) (va_A [(ta, .inr (7, [.ref tb, .int (nI L)])), (tb, .inl (cB, 9000, .inl ft)), (aS, .inr (6, [.ref ce, .ref pl, .int sln, .int srs])), (ce, .inl (cI, 2048, .inl fc))] sz)) (va_A [(ta, .inr (7, [.ref tb, .int (nI L)])), (tb, .inl (cB, 9000, .inl ft)), (aS, .inr (6, [.ref ce, .ref pl, .int sln, .int srs])), (ce, .inl (cI, 2048, .inl fc))] sz)) 0 0 (va_A [(ta, .inr (7, [.ref tb, .int (nI L)])), (tb, .inl (cB, 9000, .inl ft)), (aS, .inr (6, [.ref ce, .ref pl, .int sln, .int srs])), (ce, .inl (cI, 2048, .inl fc))] sz) := by
  refine Met.ofW (cc := cX9_writePattern) (maxL := 6) (ret := none) (by decide) rfl ?_
  intro p e s m args below meth c s₁ B hml hv
  obtain ⟨rfl, hsz, hP, hK, hD0, hN, hZ⟩ := hv
  have hx := B.exec
  have hb := B.bytes
  have hr := B.returns
  have hts := atoms_spec (ws := (wsG (.code yX9_writePattern cX9_writePattern 6 none))) B.pre
  have hown : s.vm.findClass RX9 = some m.cls := findClass_of_methodNamed B.named
  have hlocks := B.notSynchronized
  subst hsz
  have hD := hD0.self (sz := s.heap.size)
  generalize hAe : va_A [(ta, .inr (7, [.ref tb, .int (nI L)])), (tb, .inl (cB, 9000, .inl ft)), (aS, .inr (6, [.ref ce, .ref pl, .int sln, .int srs])), (ce, .inl (cI, 2048, .inl fc))] s.heap.size = A at hD hZ ⊢
  have hA : ∀ q : Nat, s.heap.size ≤ q → A q := fun q h => by rw [← hAe]; exact Or.inr h
  have hl := lv_entry ([.ref ta, .ref aS, .int pv]) (n := 6) (Nat.le_of_ble_eq_true rfl)
  rw [lg_entry_eq]
  generalize (lg_sl ([.ref ta, .ref aS, .int pv]) ++ List.replicate (6 - (lg_sl ([.ref ta, .ref aS, .int pv])).length) Slot.unset).toArray = ls at hl ⊢
  have hl : lv_has ls 6 [(0, .ref ta), (1, .ref aS), (2, .int pv)] := hl
  refine g_start (A := A) hP (fun H locs hP hS => ?_)
  refine lv_iconst (v := 0) hx hb dX9_writePattern_0 (by decide) ?_
  refine lv_istore_n (lv' := [(3, .int 0), (0, .ref ta), (1, .ref aS), (2, .int pv)]) hx hb dX9_writePattern_1 rfl hl (by decide) rfl (fun ls hl => ?_)
  have LP2 : ∀ (fu2 : Nat) (q2 : Nat) (L1_ : Nat) (ft1 : Nat → Int32) (hq2 : q2 ≤ 64) (hL1 : L1_ ≤ 9000) (hm2 : 64 - q2 < fu2) (H : Heap) (locs : List Loc), va_P (dC, dI) vwCl [(ta, .inr (7, [.ref tb, .int (nI L1_)])), (tb, .inl (cB, 9000, .inl ft1)), (aS, .inr (6, [.ref ce, .ref pl, .int sln, .int srs])), (ce, .inl (cI, 2048, .inl fc))] H → va_D A [(ta, .inr (7, [.ref tb, .int (nI L1_)])), (tb, .inl (cB, 9000, .inl ft1)), (aS, .inr (6, [.ref ce, .ref pl, .int sln, .int srs])), (ce, .inl (cI, 2048, .inl fc))] → va_S A s.heap H locs → ∀ ls : Array Slot, lv_has ls 6 [(3, .int (nI q2)), (0, .ref ta), (1, .ref aS), (2, .int pv)] → W p l e ({ frames := 3, cells := 0, slots := 0, locals := 68 }) s m ([.ref ta, .ref aS, .int pv] : List Value).toArray below meth c H locs (0) (0) (MQ below (va_Qv (fun u : va_W × gT => ∃ (L2 : Nat) (f2 : Nat → Int32), u = ([(ta, .inr (7, [.ref tb, .int (nI L2)])), (tb, .inl (cB, 9000, .inl f2)), (aS, .inr (6, [.ref ce, .ref pl, .int sln, .int srs])), (ce, .inl (cI, 2048, .inl fc))], []) ∧ L2 ≤ 9000) (gB (dC, dI) A) A) ([.ref ta, .ref aS, .int pv] : List Value).toArray s 0 0 A) (F0 m 2 ls []) := by
    intro fu2
    induction fu2 with
    | zero => intro q2 L1_ ft1 hq2 hL1 hm2; exact absurd hm2 (Nat.not_lt_zero _)
    | succ fu2 ih2 =>
      intro q2 L1_ ft1 hq2 hL1 hm2 H locs hP hD hS ls hl
      refine lv_iload_n hx hb dX9_writePattern_2 rfl (lv_at hl 0 rfl) ?_
      refine lv_bipush (v := 64) hx hb dX9_writePattern_3 (by decide) ?_
      refine lv_icmp_ge (tgt := 52) hx hb dX9_writePattern_5 (by decide) (fun c_5 => ?_) (fun c_5 => ?_)
      · have hP9 := hP
        have hD9 := hD
        have hK9 := hK.sub (tys' := []) [] rfl
        exact W.vret hx hb hr (fun t ht hW => ⟨⟨_, rfl, ⟨L1_, ft1, rfl, hL1⟩, by rw [ht]; exact hP9, va_K.moved hW.alike hK9, hD9⟩, hS.F ht⟩) hS.2.2 dX9_writePattern_52
      refine lv_iconst (v := 0) hx hb dX9_writePattern_8 (by decide) ?_
      refine lv_istore (lv' := [(4, .int 0), (3, .int (nI q2)), (0, .ref ta), (1, .ref aS), (2, .int pv)]) hx hb dX9_writePattern_9 hl (by decide) rfl (fun ls hl => ?_)
      refine lv_iload hx hb dX9_writePattern_11 (lv_at hl 0 rfl) ?_
      refine lv_iconst (v := 4) hx hb dX9_writePattern_13 (by decide) ?_
      refine lv_icmp_ge (tgt := 46) hx hb dX9_writePattern_14 (by decide) (fun c_14 => absurd c_14 (by decide)) (fun c_14 => ?_)
      refine lv_iload_n hx hb dX9_writePattern_17 rfl (lv_at hl 4 rfl) ?_
      refine lv_iload_n hx hb dX9_writePattern_18 rfl (lv_at hl 1 rfl) ?_
      refine lv_iload hx hb dX9_writePattern_19 (lv_at hl 0 rfl) ?_
      refine g_calli (wr := [(ta, .inr (7, [.ref tb, .int (nI L1_)])), (tb, .inl (cB, 9000, .inl ft1)), (aS, .inr (6, [.ref ce, .ref pl, .int sln, .int srs])), (ce, .inl (cI, 2048, .inl fc))]) (va_runS (As := [.int pv, .int (nI q2), .int 0]) (rest := []) ⟨hx, hb, hml, hown, hts⟩ (k_cellAt l dC dI H.size pv (nI q2) 0 ) (va_cwS 3 hts (gG_S kw_480 kw_355 kw_30 kw_356) rfl rfl rfl (by decide +kernel) ⟨Nat.le_of_ble_eq_true rfl, Nat.le_of_ble_eq_true rfl⟩) (g_preS hP hD hK hS hA hN hZ [] (by decide) rfl [] rfl) rfl rfl hl.1 rfl (lv_room (Nat.le_of_ble_eq_true rfl)) dX9_writePattern_21 ⟨Nat.le_of_ble_eq_true rfl, Nat.le_of_ble_eq_true rfl⟩) hP hD hK hS hA [] [0, 1, 2, 3] rfl rfl (by decide) (by decide) (fun r_21 w ty1 H locs hw_21 hP hD _ hS => ?_)
      have hu := hw_21
      cases hu
      have hP : va_P (dC, dI) vwCl [(ta, .inr (7, [.ref tb, .int (nI L1_)])), (tb, .inl (cB, 9000, .inl ft1)), (aS, .inr (6, [.ref ce, .ref pl, .int sln, .int srs])), (ce, .inl (cI, 2048, .inl fc))] H := hP
      have hD : va_D A [(ta, .inr (7, [.ref tb, .int (nI L1_)])), (tb, .inl (cB, 9000, .inl ft1)), (aS, .inr (6, [.ref ce, .ref pl, .int sln, .int srs])), (ce, .inl (cI, 2048, .inl fc))] := hD
      refine lv_istore (lv' := [(5, .int r_21), (4, .int 0), (3, .int (nI q2)), (0, .ref ta), (1, .ref aS), (2, .int pv)]) hx hb dX9_writePattern_24 hl (by decide) rfl (fun ls hl => ?_)
      refine lv_aload_n hx hb dX9_writePattern_26 rfl (lv_at hl 3 rfl) ?_
      refine lv_iload hx hb dX9_writePattern_27 (lv_at hl 0 rfl) ?_
      refine lv_aload_n hx hb dX9_writePattern_29 rfl (lv_at hl 4 rfl) ?_
      refine lv_iload_n hx hb dX9_writePattern_30 rfl (lv_at hl 5 rfl) ?_
      refine lv_iload_n hx hb dX9_writePattern_31 rfl (lv_at hl 2 rfl) ?_
      refine lv_iload hx hb dX9_writePattern_32 (lv_at hl 1 rfl) ?_
      refine g_calli (wr := [(ta, .inr (7, [.ref tb, .int (nI L1_)])), (tb, .inl (cB, 9000, .inl ft1))]) (va_runV (As := [.int pv, .int (nI q2), .int 0]) (rest := [.int r_21, .ref ta]) ⟨hx, hb, hml, hown, hts⟩ (k_getCell l dC dI H.size aS ce pl sln srs cI fc pv (nI q2) 0 ) (cwV 3 hts (gG_V kw_481 kw_482 kw_483 kw_26 kw_484) rfl rfl rfl (by decide +kernel) ⟨Nat.le_of_ble_eq_true rfl, Nat.le_of_ble_eq_true rfl⟩) (g_preV (C := RX6) (T := TX6) (N := 4) hP hD hK hS hA hN hZ (q0 := 2) rfl rfl [2, 3] (by decide) rfl [1] rfl) rfl rfl hl.1 rfl (lv_room (Nat.le_of_ble_eq_true rfl)) dX9_writePattern_34 ⟨Nat.le_of_ble_eq_true rfl, Nat.le_of_ble_eq_true rfl⟩) hP hD hK hS hA [2, 3] [0, 1] rfl rfl (by decide) (by decide) (fun r_34 w ty1 H locs hw_34 hP hD _ hS => ?_)
      have hu := hw_34
      cases hu
      have hP : va_P (dC, dI) vwCl [(ta, .inr (7, [.ref tb, .int (nI L1_)])), (tb, .inl (cB, 9000, .inl ft1)), (aS, .inr (6, [.ref ce, .ref pl, .int sln, .int srs])), (ce, .inl (cI, 2048, .inl fc))] H := hP
      have hD : va_D A [(ta, .inr (7, [.ref tb, .int (nI L1_)])), (tb, .inl (cB, 9000, .inl ft1)), (aS, .inr (6, [.ref ce, .ref pl, .int sln, .int srs])), (ce, .inl (cI, 2048, .inl fc))] := hD
      refine g_callv (wr := [(aS, .inr (6, [.ref ce, .ref pl, .int sln, .int srs])), (ce, .inl (cI, 2048, .inl fc))]) (va_runS (As := [.ref ta, .int r_21, .int r_34]) (rest := []) ⟨hx, hb, hml, hown, hts⟩ (k_writeCell l dC dI H.size ta tb cB ft1 L1_ r_21 r_34 (hL1)) (va_cwS 3 hts (gG_S kw_485 kw_486 kw_469 kw_487) rfl rfl rfl (by decide +kernel) ⟨Nat.le_of_ble_eq_true rfl, Nat.le_of_ble_eq_true rfl⟩) (g_preS hP hD hK hS hA hN hZ [0, 1] (by decide) rfl [0] rfl) rfl rfl hl.1 rfl (lv_room (Nat.le_of_ble_eq_true rfl)) dX9_writePattern_37 ⟨Nat.le_of_ble_eq_true rfl, Nat.le_of_ble_eq_true rfl⟩) hP hD hK hS hA [0, 1] [2, 3] rfl rfl (by decide) (by decide) (fun w ty1 H locs hw_37 hP hD _ hS => ?_)
      rcases hw_37 with ⟨L2_37, f2_37, hu, hL2_37⟩
      cases hu
      have hP : va_P (dC, dI) vwCl [(aS, .inr (6, [.ref ce, .ref pl, .int sln, .int srs])), (ce, .inl (cI, 2048, .inl fc)), (ta, .inr (7, [.ref tb, .int (nI L2_37)])), (tb, .inl (cB, 9000, .inl f2_37))] H := hP
      have hD : va_D A [(aS, .inr (6, [.ref ce, .ref pl, .int sln, .int srs])), (ce, .inl (cI, 2048, .inl fc)), (ta, .inr (7, [.ref tb, .int (nI L2_37)])), (tb, .inl (cB, 9000, .inl f2_37))] := hD
      refine lv_iinc (v := 1) (lv' := [(4, .int 1), (5, .int r_21), (3, .int (nI q2)), (0, .ref ta), (1, .ref aS), (2, .int pv)]) hx hb dX9_writePattern_40 hl (k := 1) rfl (by decide) (by decide) rfl (fun ls hl => ?_)
      refine lv_goto (tgt := 11) hx hb dX9_writePattern_43 (by decide) ?_
      refine lv_iload hx hb dX9_writePattern_11 (lv_at hl 0 rfl) ?_
      refine lv_iconst (v := 4) hx hb dX9_writePattern_13 (by decide) ?_
      refine lv_icmp_ge (tgt := 46) hx hb dX9_writePattern_14 (by decide) (fun c_14_2 => absurd c_14_2 (by decide)) (fun c_14_2 => ?_)
      refine lv_iload_n hx hb dX9_writePattern_17 rfl (lv_at hl 5 rfl) ?_
      refine lv_iload_n hx hb dX9_writePattern_18 rfl (lv_at hl 2 rfl) ?_
      refine lv_iload hx hb dX9_writePattern_19 (lv_at hl 0 rfl) ?_
      refine g_calli (wr := [(aS, .inr (6, [.ref ce, .ref pl, .int sln, .int srs])), (ce, .inl (cI, 2048, .inl fc)), (ta, .inr (7, [.ref tb, .int (nI L2_37)])), (tb, .inl (cB, 9000, .inl f2_37))]) (va_runS (As := [.int pv, .int (nI q2), .int 1]) (rest := []) ⟨hx, hb, hml, hown, hts⟩ (k_cellAt l dC dI H.size pv (nI q2) 1 ) (va_cwS 3 hts (gG_S kw_480 kw_355 kw_30 kw_356) rfl rfl rfl (by decide +kernel) ⟨Nat.le_of_ble_eq_true rfl, Nat.le_of_ble_eq_true rfl⟩) (g_preS hP hD hK hS hA hN hZ [] (by decide) rfl [] rfl) rfl rfl hl.1 rfl (lv_room (Nat.le_of_ble_eq_true rfl)) dX9_writePattern_21 ⟨Nat.le_of_ble_eq_true rfl, Nat.le_of_ble_eq_true rfl⟩) hP hD hK hS hA [] [0, 1, 2, 3] rfl rfl (by decide) (by decide) (fun r_21_2 w ty1 H locs hw_21 hP hD _ hS => ?_)
      have hu := hw_21
      cases hu
      have hP : va_P (dC, dI) vwCl [(aS, .inr (6, [.ref ce, .ref pl, .int sln, .int srs])), (ce, .inl (cI, 2048, .inl fc)), (ta, .inr (7, [.ref tb, .int (nI L2_37)])), (tb, .inl (cB, 9000, .inl f2_37))] H := hP
      have hD : va_D A [(aS, .inr (6, [.ref ce, .ref pl, .int sln, .int srs])), (ce, .inl (cI, 2048, .inl fc)), (ta, .inr (7, [.ref tb, .int (nI L2_37)])), (tb, .inl (cB, 9000, .inl f2_37))] := hD
      refine lv_istore (lv' := [(5, .int r_21_2), (4, .int 1), (3, .int (nI q2)), (0, .ref ta), (1, .ref aS), (2, .int pv)]) hx hb dX9_writePattern_24 hl (by decide) rfl (fun ls hl => ?_)
      refine lv_aload_n hx hb dX9_writePattern_26 rfl (lv_at hl 3 rfl) ?_
      refine lv_iload hx hb dX9_writePattern_27 (lv_at hl 0 rfl) ?_
      refine lv_aload_n hx hb dX9_writePattern_29 rfl (lv_at hl 4 rfl) ?_
      refine lv_iload_n hx hb dX9_writePattern_30 rfl (lv_at hl 5 rfl) ?_
      refine lv_iload_n hx hb dX9_writePattern_31 rfl (lv_at hl 2 rfl) ?_
      refine lv_iload hx hb dX9_writePattern_32 (lv_at hl 1 rfl) ?_
      refine g_calli (wr := [(ta, .inr (7, [.ref tb, .int (nI L2_37)])), (tb, .inl (cB, 9000, .inl f2_37))]) (va_runV (As := [.int pv, .int (nI q2), .int 1]) (rest := [.int r_21_2, .ref ta]) ⟨hx, hb, hml, hown, hts⟩ (k_getCell l dC dI H.size aS ce pl sln srs cI fc pv (nI q2) 1 ) (cwV 3 hts (gG_V kw_481 kw_482 kw_483 kw_26 kw_484) rfl rfl rfl (by decide +kernel) ⟨Nat.le_of_ble_eq_true rfl, Nat.le_of_ble_eq_true rfl⟩) (g_preV (C := RX6) (T := TX6) (N := 4) hP hD hK hS hA hN hZ (q0 := 0) rfl rfl [0, 1] (by decide) rfl [1] rfl) rfl rfl hl.1 rfl (lv_room (Nat.le_of_ble_eq_true rfl)) dX9_writePattern_34 ⟨Nat.le_of_ble_eq_true rfl, Nat.le_of_ble_eq_true rfl⟩) hP hD hK hS hA [0, 1] [2, 3] rfl rfl (by decide) (by decide) (fun r_34_2 w ty1 H locs hw_34 hP hD _ hS => ?_)
      have hu := hw_34
      cases hu
      have hP : va_P (dC, dI) vwCl [(ta, .inr (7, [.ref tb, .int (nI L2_37)])), (tb, .inl (cB, 9000, .inl f2_37)), (aS, .inr (6, [.ref ce, .ref pl, .int sln, .int srs])), (ce, .inl (cI, 2048, .inl fc))] H := hP
      have hD : va_D A [(ta, .inr (7, [.ref tb, .int (nI L2_37)])), (tb, .inl (cB, 9000, .inl f2_37)), (aS, .inr (6, [.ref ce, .ref pl, .int sln, .int srs])), (ce, .inl (cI, 2048, .inl fc))] := hD
      refine g_callv (wr := [(aS, .inr (6, [.ref ce, .ref pl, .int sln, .int srs])), (ce, .inl (cI, 2048, .inl fc))]) (va_runS (As := [.ref ta, .int r_21_2, .int r_34_2]) (rest := []) ⟨hx, hb, hml, hown, hts⟩ (k_writeCell l dC dI H.size ta tb cB f2_37 L2_37 r_21_2 r_34_2 (hL2_37)) (va_cwS 3 hts (gG_S kw_485 kw_486 kw_469 kw_487) rfl rfl rfl (by decide +kernel) ⟨Nat.le_of_ble_eq_true rfl, Nat.le_of_ble_eq_true rfl⟩) (g_preS hP hD hK hS hA hN hZ [0, 1] (by decide) rfl [0] rfl) rfl rfl hl.1 rfl (lv_room (Nat.le_of_ble_eq_true rfl)) dX9_writePattern_37 ⟨Nat.le_of_ble_eq_true rfl, Nat.le_of_ble_eq_true rfl⟩) hP hD hK hS hA [0, 1] [2, 3] rfl rfl (by decide) (by decide) (fun w ty1 H locs hw_37 hP hD _ hS => ?_)
      rcases hw_37 with ⟨L2_37_2, f2_37_2, hu, hL2_37_2⟩
      cases hu
      have hP : va_P (dC, dI) vwCl [(aS, .inr (6, [.ref ce, .ref pl, .int sln, .int srs])), (ce, .inl (cI, 2048, .inl fc)), (ta, .inr (7, [.ref tb, .int (nI L2_37_2)])), (tb, .inl (cB, 9000, .inl f2_37_2))] H := hP
      have hD : va_D A [(aS, .inr (6, [.ref ce, .ref pl, .int sln, .int srs])), (ce, .inl (cI, 2048, .inl fc)), (ta, .inr (7, [.ref tb, .int (nI L2_37_2)])), (tb, .inl (cB, 9000, .inl f2_37_2))] := hD
      refine lv_iinc (v := 2) (lv' := [(4, .int 2), (5, .int r_21_2), (3, .int (nI q2)), (0, .ref ta), (1, .ref aS), (2, .int pv)]) hx hb dX9_writePattern_40 hl (k := 1) rfl (by decide) (by decide) rfl (fun ls hl => ?_)
      refine lv_goto (tgt := 11) hx hb dX9_writePattern_43 (by decide) ?_
      refine lv_iload hx hb dX9_writePattern_11 (lv_at hl 0 rfl) ?_
      refine lv_iconst (v := 4) hx hb dX9_writePattern_13 (by decide) ?_
      refine lv_icmp_ge (tgt := 46) hx hb dX9_writePattern_14 (by decide) (fun c_14_3 => absurd c_14_3 (by decide)) (fun c_14_3 => ?_)
      refine lv_iload_n hx hb dX9_writePattern_17 rfl (lv_at hl 5 rfl) ?_
      refine lv_iload_n hx hb dX9_writePattern_18 rfl (lv_at hl 2 rfl) ?_
      refine lv_iload hx hb dX9_writePattern_19 (lv_at hl 0 rfl) ?_
      refine g_calli (wr := [(aS, .inr (6, [.ref ce, .ref pl, .int sln, .int srs])), (ce, .inl (cI, 2048, .inl fc)), (ta, .inr (7, [.ref tb, .int (nI L2_37_2)])), (tb, .inl (cB, 9000, .inl f2_37_2))]) (va_runS (As := [.int pv, .int (nI q2), .int 2]) (rest := []) ⟨hx, hb, hml, hown, hts⟩ (k_cellAt l dC dI H.size pv (nI q2) 2 ) (va_cwS 3 hts (gG_S kw_480 kw_355 kw_30 kw_356) rfl rfl rfl (by decide +kernel) ⟨Nat.le_of_ble_eq_true rfl, Nat.le_of_ble_eq_true rfl⟩) (g_preS hP hD hK hS hA hN hZ [] (by decide) rfl [] rfl) rfl rfl hl.1 rfl (lv_room (Nat.le_of_ble_eq_true rfl)) dX9_writePattern_21 ⟨Nat.le_of_ble_eq_true rfl, Nat.le_of_ble_eq_true rfl⟩) hP hD hK hS hA [] [0, 1, 2, 3] rfl rfl (by decide) (by decide) (fun r_21_3 w ty1 H locs hw_21 hP hD _ hS => ?_)
      have hu := hw_21
      cases hu
      have hP : va_P (dC, dI) vwCl [(aS, .inr (6, [.ref ce, .ref pl, .int sln, .int srs])), (ce, .inl (cI, 2048, .inl fc)), (ta, .inr (7, [.ref tb, .int (nI L2_37_2)])), (tb, .inl (cB, 9000, .inl f2_37_2))] H := hP
      have hD : va_D A [(aS, .inr (6, [.ref ce, .ref pl, .int sln, .int srs])), (ce, .inl (cI, 2048, .inl fc)), (ta, .inr (7, [.ref tb, .int (nI L2_37_2)])), (tb, .inl (cB, 9000, .inl f2_37_2))] := hD
      refine lv_istore (lv' := [(5, .int r_21_3), (4, .int 2), (3, .int (nI q2)), (0, .ref ta), (1, .ref aS), (2, .int pv)]) hx hb dX9_writePattern_24 hl (by decide) rfl (fun ls hl => ?_)
      refine lv_aload_n hx hb dX9_writePattern_26 rfl (lv_at hl 3 rfl) ?_
      refine lv_iload hx hb dX9_writePattern_27 (lv_at hl 0 rfl) ?_
      refine lv_aload_n hx hb dX9_writePattern_29 rfl (lv_at hl 4 rfl) ?_
      refine lv_iload_n hx hb dX9_writePattern_30 rfl (lv_at hl 5 rfl) ?_
      refine lv_iload_n hx hb dX9_writePattern_31 rfl (lv_at hl 2 rfl) ?_
      refine lv_iload hx hb dX9_writePattern_32 (lv_at hl 1 rfl) ?_
      refine g_calli (wr := [(ta, .inr (7, [.ref tb, .int (nI L2_37_2)])), (tb, .inl (cB, 9000, .inl f2_37_2))]) (va_runV (As := [.int pv, .int (nI q2), .int 2]) (rest := [.int r_21_3, .ref ta]) ⟨hx, hb, hml, hown, hts⟩ (k_getCell l dC dI H.size aS ce pl sln srs cI fc pv (nI q2) 2 ) (cwV 3 hts (gG_V kw_481 kw_482 kw_483 kw_26 kw_484) rfl rfl rfl (by decide +kernel) ⟨Nat.le_of_ble_eq_true rfl, Nat.le_of_ble_eq_true rfl⟩) (g_preV (C := RX6) (T := TX6) (N := 4) hP hD hK hS hA hN hZ (q0 := 0) rfl rfl [0, 1] (by decide) rfl [1] rfl) rfl rfl hl.1 rfl (lv_room (Nat.le_of_ble_eq_true rfl)) dX9_writePattern_34 ⟨Nat.le_of_ble_eq_true rfl, Nat.le_of_ble_eq_true rfl⟩) hP hD hK hS hA [0, 1] [2, 3] rfl rfl (by decide) (by decide) (fun r_34_3 w ty1 H locs hw_34 hP hD _ hS => ?_)
      have hu := hw_34
      cases hu
      have hP : va_P (dC, dI) vwCl [(ta, .inr (7, [.ref tb, .int (nI L2_37_2)])), (tb, .inl (cB, 9000, .inl f2_37_2)), (aS, .inr (6, [.ref ce, .ref pl, .int sln, .int srs])), (ce, .inl (cI, 2048, .inl fc))] H := hP
      have hD : va_D A [(ta, .inr (7, [.ref tb, .int (nI L2_37_2)])), (tb, .inl (cB, 9000, .inl f2_37_2)), (aS, .inr (6, [.ref ce, .ref pl, .int sln, .int srs])), (ce, .inl (cI, 2048, .inl fc))] := hD
      refine g_callv (wr := [(aS, .inr (6, [.ref ce, .ref pl, .int sln, .int srs])), (ce, .inl (cI, 2048, .inl fc))]) (va_runS (As := [.ref ta, .int r_21_3, .int r_34_3]) (rest := []) ⟨hx, hb, hml, hown, hts⟩ (k_writeCell l dC dI H.size ta tb cB f2_37_2 L2_37_2 r_21_3 r_34_3 (hL2_37_2)) (va_cwS 3 hts (gG_S kw_485 kw_486 kw_469 kw_487) rfl rfl rfl (by decide +kernel) ⟨Nat.le_of_ble_eq_true rfl, Nat.le_of_ble_eq_true rfl⟩) (g_preS hP hD hK hS hA hN hZ [0, 1] (by decide) rfl [0] rfl) rfl rfl hl.1 rfl (lv_room (Nat.le_of_ble_eq_true rfl)) dX9_writePattern_37 ⟨Nat.le_of_ble_eq_true rfl, Nat.le_of_ble_eq_true rfl⟩) hP hD hK hS hA [0, 1] [2, 3] rfl rfl (by decide) (by decide) (fun w ty1 H locs hw_37 hP hD _ hS => ?_)
      rcases hw_37 with ⟨L2_37_3, f2_37_3, hu, hL2_37_3⟩
      cases hu
      have hP : va_P (dC, dI) vwCl [(aS, .inr (6, [.ref ce, .ref pl, .int sln, .int srs])), (ce, .inl (cI, 2048, .inl fc)), (ta, .inr (7, [.ref tb, .int (nI L2_37_3)])), (tb, .inl (cB, 9000, .inl f2_37_3))] H := hP
      have hD : va_D A [(aS, .inr (6, [.ref ce, .ref pl, .int sln, .int srs])), (ce, .inl (cI, 2048, .inl fc)), (ta, .inr (7, [.ref tb, .int (nI L2_37_3)])), (tb, .inl (cB, 9000, .inl f2_37_3))] := hD
      refine lv_iinc (v := 3) (lv' := [(4, .int 3), (5, .int r_21_3), (3, .int (nI q2)), (0, .ref ta), (1, .ref aS), (2, .int pv)]) hx hb dX9_writePattern_40 hl (k := 1) rfl (by decide) (by decide) rfl (fun ls hl => ?_)
      refine lv_goto (tgt := 11) hx hb dX9_writePattern_43 (by decide) ?_
      refine lv_iload hx hb dX9_writePattern_11 (lv_at hl 0 rfl) ?_
      refine lv_iconst (v := 4) hx hb dX9_writePattern_13 (by decide) ?_
      refine lv_icmp_ge (tgt := 46) hx hb dX9_writePattern_14 (by decide) (fun c_14_4 => absurd c_14_4 (by decide)) (fun c_14_4 => ?_)
      refine lv_iload_n hx hb dX9_writePattern_17 rfl (lv_at hl 5 rfl) ?_
      refine lv_iload_n hx hb dX9_writePattern_18 rfl (lv_at hl 2 rfl) ?_
      refine lv_iload hx hb dX9_writePattern_19 (lv_at hl 0 rfl) ?_
      refine g_calli (wr := [(aS, .inr (6, [.ref ce, .ref pl, .int sln, .int srs])), (ce, .inl (cI, 2048, .inl fc)), (ta, .inr (7, [.ref tb, .int (nI L2_37_3)])), (tb, .inl (cB, 9000, .inl f2_37_3))]) (va_runS (As := [.int pv, .int (nI q2), .int 3]) (rest := []) ⟨hx, hb, hml, hown, hts⟩ (k_cellAt l dC dI H.size pv (nI q2) 3 ) (va_cwS 3 hts (gG_S kw_480 kw_355 kw_30 kw_356) rfl rfl rfl (by decide +kernel) ⟨Nat.le_of_ble_eq_true rfl, Nat.le_of_ble_eq_true rfl⟩) (g_preS hP hD hK hS hA hN hZ [] (by decide) rfl [] rfl) rfl rfl hl.1 rfl (lv_room (Nat.le_of_ble_eq_true rfl)) dX9_writePattern_21 ⟨Nat.le_of_ble_eq_true rfl, Nat.le_of_ble_eq_true rfl⟩) hP hD hK hS hA [] [0, 1, 2, 3] rfl rfl (by decide) (by decide) (fun r_21_4 w ty1 H locs hw_21 hP hD _ hS => ?_)
      have hu := hw_21
      cases hu
      have hP : va_P (dC, dI) vwCl [(aS, .inr (6, [.ref ce, .ref pl, .int sln, .int srs])), (ce, .inl (cI, 2048, .inl fc)), (ta, .inr (7, [.ref tb, .int (nI L2_37_3)])), (tb, .inl (cB, 9000, .inl f2_37_3))] H := hP
      have hD : va_D A [(aS, .inr (6, [.ref ce, .ref pl, .int sln, .int srs])), (ce, .inl (cI, 2048, .inl fc)), (ta, .inr (7, [.ref tb, .int (nI L2_37_3)])), (tb, .inl (cB, 9000, .inl f2_37_3))] := hD
      refine lv_istore (lv' := [(5, .int r_21_4), (4, .int 3), (3, .int (nI q2)), (0, .ref ta), (1, .ref aS), (2, .int pv)]) hx hb dX9_writePattern_24 hl (by decide) rfl (fun ls hl => ?_)
      refine lv_aload_n hx hb dX9_writePattern_26 rfl (lv_at hl 3 rfl) ?_
      refine lv_iload hx hb dX9_writePattern_27 (lv_at hl 0 rfl) ?_
      refine lv_aload_n hx hb dX9_writePattern_29 rfl (lv_at hl 4 rfl) ?_
      refine lv_iload_n hx hb dX9_writePattern_30 rfl (lv_at hl 5 rfl) ?_
      refine lv_iload_n hx hb dX9_writePattern_31 rfl (lv_at hl 2 rfl) ?_
      refine lv_iload hx hb dX9_writePattern_32 (lv_at hl 1 rfl) ?_
      refine g_calli (wr := [(ta, .inr (7, [.ref tb, .int (nI L2_37_3)])), (tb, .inl (cB, 9000, .inl f2_37_3))]) (va_runV (As := [.int pv, .int (nI q2), .int 3]) (rest := [.int r_21_4, .ref ta]) ⟨hx, hb, hml, hown, hts⟩ (k_getCell l dC dI H.size aS ce pl sln srs cI fc pv (nI q2) 3 ) (cwV 3 hts (gG_V kw_481 kw_482 kw_483 kw_26 kw_484) rfl rfl rfl (by decide +kernel) ⟨Nat.le_of_ble_eq_true rfl, Nat.le_of_ble_eq_true rfl⟩) (g_preV (C := RX6) (T := TX6) (N := 4) hP hD hK hS hA hN hZ (q0 := 0) rfl rfl [0, 1] (by decide) rfl [1] rfl) rfl rfl hl.1 rfl (lv_room (Nat.le_of_ble_eq_true rfl)) dX9_writePattern_34 ⟨Nat.le_of_ble_eq_true rfl, Nat.le_of_ble_eq_true rfl⟩) hP hD hK hS hA [0, 1] [2, 3] rfl rfl (by decide) (by decide) (fun r_34_4 w ty1 H locs hw_34 hP hD _ hS => ?_)
      have hu := hw_34
      cases hu
      have hP : va_P (dC, dI) vwCl [(ta, .inr (7, [.ref tb, .int (nI L2_37_3)])), (tb, .inl (cB, 9000, .inl f2_37_3)), (aS, .inr (6, [.ref ce, .ref pl, .int sln, .int srs])), (ce, .inl (cI, 2048, .inl fc))] H := hP
      have hD : va_D A [(ta, .inr (7, [.ref tb, .int (nI L2_37_3)])), (tb, .inl (cB, 9000, .inl f2_37_3)), (aS, .inr (6, [.ref ce, .ref pl, .int sln, .int srs])), (ce, .inl (cI, 2048, .inl fc))] := hD
      refine g_callv (wr := [(aS, .inr (6, [.ref ce, .ref pl, .int sln, .int srs])), (ce, .inl (cI, 2048, .inl fc))]) (va_runS (As := [.ref ta, .int r_21_4, .int r_34_4]) (rest := []) ⟨hx, hb, hml, hown, hts⟩ (k_writeCell l dC dI H.size ta tb cB f2_37_3 L2_37_3 r_21_4 r_34_4 (hL2_37_3)) (va_cwS 3 hts (gG_S kw_485 kw_486 kw_469 kw_487) rfl rfl rfl (by decide +kernel) ⟨Nat.le_of_ble_eq_true rfl, Nat.le_of_ble_eq_true rfl⟩) (g_preS hP hD hK hS hA hN hZ [0, 1] (by decide) rfl [0] rfl) rfl rfl hl.1 rfl (lv_room (Nat.le_of_ble_eq_true rfl)) dX9_writePattern_37 ⟨Nat.le_of_ble_eq_true rfl, Nat.le_of_ble_eq_true rfl⟩) hP hD hK hS hA [0, 1] [2, 3] rfl rfl (by decide) (by decide) (fun w ty1 H locs hw_37 hP hD _ hS => ?_)
      rcases hw_37 with ⟨L2_37_4, f2_37_4, hu, hL2_37_4⟩
      cases hu
      have hP : va_P (dC, dI) vwCl [(aS, .inr (6, [.ref ce, .ref pl, .int sln, .int srs])), (ce, .inl (cI, 2048, .inl fc)), (ta, .inr (7, [.ref tb, .int (nI L2_37_4)])), (tb, .inl (cB, 9000, .inl f2_37_4))] H := hP
      have hD : va_D A [(aS, .inr (6, [.ref ce, .ref pl, .int sln, .int srs])), (ce, .inl (cI, 2048, .inl fc)), (ta, .inr (7, [.ref tb, .int (nI L2_37_4)])), (tb, .inl (cB, 9000, .inl f2_37_4))] := hD
      refine lv_iinc (v := 4) (lv' := [(4, .int 4), (5, .int r_21_4), (3, .int (nI q2)), (0, .ref ta), (1, .ref aS), (2, .int pv)]) hx hb dX9_writePattern_40 hl (k := 1) rfl (by decide) (by decide) rfl (fun ls hl => ?_)
      refine lv_goto (tgt := 11) hx hb dX9_writePattern_43 (by decide) ?_
      refine lv_iload hx hb dX9_writePattern_11 (lv_at hl 0 rfl) ?_
      refine lv_iconst (v := 4) hx hb dX9_writePattern_13 (by decide) ?_
      refine lv_icmp_ge (tgt := 46) hx hb dX9_writePattern_14 (by decide) (fun c_14_5 => ?_) (fun c_14_5 => absurd c_14_5 (by decide))
      refine lv_iinc (v := nI (q2 + 1)) (lv' := [(3, .int (nI (q2 + 1))), (4, .int 4), (5, .int r_21_4), (0, .ref ta), (1, .ref aS), (2, .int pv)]) hx hb dX9_writePattern_46 hl (k := 2) rfl (nI_1 q2) (by decide) rfl (fun ls hl => ?_)
      refine lv_goto (tgt := 2) hx hb dX9_writePattern_49 (by decide) ?_
      exact ih2 (q2 + 1) L2_37_4 f2_37_4 (by have := nI_nle' (a := 64) c_5 (by omega); omega) (hL2_37_4) (by have := nI_nle' (a := 64) c_5 (by omega); omega) _ _ (hP.sub [2, 3, 0, 1] rfl) (hD.sub [2, 3, 0, 1] (by decide) rfl) hS _ (lv_sub hl [0, 3, 4, 5] rfl)
  exact LP2 _ 0 L ft (Nat.zero_le _) (hL) (Nat.lt_succ_self _) _ _ (hP.sub [0, 1, 2, 3] rfl) (hD.sub [0, 1, 2, 3] (by decide) rfl) hS _ (lv_sub hl [0, 1, 2, 3] rfl)

set_option maxHeartbeats 400000 in
set_option maxRecDepth 100000 in
theorem k_writeSong (l : Launch) (dC : Nat → ClassId) (dI : Nat → Nat → Nat) (sz : Nat) (ta tb : Nat) (cB : ClassId) (ft : Nat → Int32) (L : Nat) (aS ce pl : Nat) (sln srs : Int32) (fc fp : Nat → Int32) (cI : ClassId) (hL : L ≤ 9000) : Met l yX9_writeSong (wsG (.code yX9_writeSong cX9_writeSong 4 none)) ({ frames := 4, cells := 0, slots := 0, locals := 93 }) (va_Pc [.ref ta, .ref aS] (gP (dC, dI) [(cB, .byte), (cI, .int)] [(ta, .inr (7, [.ref tb, .int (nI L)])), (tb, .inl (cB, 9000, .inl ft)), (aS, .inr (6, [.ref ce, .ref pl, .int sln, .int srs])), (ce, .inl (cI, 2048, .inl fc)), (pl, .inl (cI, 128, .inl fp))] sz)) (va_Qv (fun u : va_W × gT => ∃ (L2 : Nat) (f2 : Nat → Int32), u = ([(ta, .inr (7, [.ref tb, .int (nI L2)])), (tb, .inl (cB, 9000, .inl f2)), (aS, .inr (6, [.ref ce, .ref pl, .int sln, .int srs])), (ce, .inl (cI, 2048, .inl fc)), (pl, .inl (cI, 128, .inl fp))], []) ∧ L2 ≤ 9000) (gB (dC, dI) (va_A [(ta, .inr (7, [.ref tb, .int (nI L)])), (tb, .inl (cB, 9000, .inl ft)), (aS, .inr (6, [.ref ce, .ref pl, .int sln, .int srs])), (ce, .inl (cI, 2048, .inl fc)), (pl, .inl (cI, 128, .inl fp))] sz)) (va_A [(ta, .inr (7, [.ref tb, .int (nI L)])), (tb, .inl (cB, 9000, .inl ft)), (aS, .inr (6, [.ref ce, .ref pl, .int sln, .int srs])), (ce, .inl (cI, 2048, .inl fc)), (pl, .inl (cI, 128, .inl fp))] sz)) 0 0 (va_A [(ta, .inr (7, [.ref tb, .int (nI L)])), (tb, .inl (cB, 9000, .inl ft)), (aS, .inr (6, [.ref ce, .ref pl, .int sln, .int srs])), (ce, .inl (cI, 2048, .inl fc)), (pl, .inl (cI, 128, .inl fp))] sz) := by
  refine Met.ofW (cc := cX9_writeSong) (maxL := 4) (ret := none) (by decide) rfl ?_
  intro p e s m args below meth c s₁ B hml hv
  obtain ⟨rfl, hsz, hP, hK, hD0, hN, hZ⟩ := hv
  have hx := B.exec
  have hb := B.bytes
  have hr := B.returns
  have hts := atoms_spec (ws := (wsG (.code yX9_writeSong cX9_writeSong 4 none))) B.pre
  have hown : s.vm.findClass RX9 = some m.cls := findClass_of_methodNamed B.named
  have hlocks := B.notSynchronized
  subst hsz
  have hD := hD0.self (sz := s.heap.size)
  generalize hAe : va_A [(ta, .inr (7, [.ref tb, .int (nI L)])), (tb, .inl (cB, 9000, .inl ft)), (aS, .inr (6, [.ref ce, .ref pl, .int sln, .int srs])), (ce, .inl (cI, 2048, .inl fc)), (pl, .inl (cI, 128, .inl fp))] s.heap.size = A at hD hZ ⊢
  have hA : ∀ q : Nat, s.heap.size ≤ q → A q := fun q h => by rw [← hAe]; exact Or.inr h
  have hl := lv_entry ([.ref ta, .ref aS]) (n := 4) (Nat.le_of_ble_eq_true rfl)
  rw [lg_entry_eq]
  generalize (lg_sl ([.ref ta, .ref aS]) ++ List.replicate (4 - (lg_sl ([.ref ta, .ref aS])).length) Slot.unset).toArray = ls at hl ⊢
  have hl : lv_has ls 4 [(0, .ref ta), (1, .ref aS)] := hl
  refine g_start (A := A) hP (fun H locs hP hS => ?_)
  refine lv_aload_n hx hb dX9_writeSong_0 rfl (lv_at hl 0 rfl) ?_
  refine lv_sipush (v := 950) hx hb dX9_writeSong_1 (by decide) ?_
  refine lv_aload_n hx hb dX9_writeSong_4 rfl (lv_at hl 1 rfl) ?_
  refine va_get (D := (dC, dI)) (ci := 6) (v := .int sln) (C := RX6) (T := TX6) (N := 4) hx hb hts iwX6 hown hK hP 2 rfl rfl 2 (by decide) (hts (.fieldLink RX9 11 "ModulePlayer$Score" "length" "I") (List.mem_cons_of_mem _ kw_471)) (fun _ h9 => h9) rfl dX9_writeSong_5 ?_
  refine g_callv (wr := [(aS, .inr (6, [.ref ce, .ref pl, .int sln, .int srs])), (ce, .inl (cI, 2048, .inl fc)), (pl, .inl (cI, 128, .inl fp))]) (va_runV (As := [.int 950, .int sln]) (rest := []) ⟨hx, hb, hml, hown, hts⟩ (k_put l dC dI H.size ta tb cB ft L 950 sln (hL)) (cwV 2 hts (gG_V kw_474 kw_243 kw_244 kw_18 kw_245) rfl rfl rfl (by decide +kernel) ⟨Nat.le_of_ble_eq_true rfl, Nat.le_of_ble_eq_true rfl⟩) (g_preV (C := RX7) (T := TX7) (N := 2) hP hD hK hS hA hN hZ (q0 := 0) rfl rfl [0, 1] (by decide) rfl [0] rfl) rfl rfl hl.1 rfl (lv_room (Nat.le_of_ble_eq_true rfl)) dX9_writeSong_8 ⟨Nat.le_of_ble_eq_true rfl, Nat.le_of_ble_eq_true rfl⟩) hP hD hK hS hA [0, 1] [2, 3, 4] rfl rfl (by decide) (by decide) (fun w ty1 H locs hw_8 hP hD _ hS => ?_)
  rcases hw_8 with ⟨L2_8, f2_8, hu, hL2_8⟩
  cases hu
  have hP : va_P (dC, dI) vwCl [(aS, .inr (6, [.ref ce, .ref pl, .int sln, .int srs])), (ce, .inl (cI, 2048, .inl fc)), (pl, .inl (cI, 128, .inl fp)), (ta, .inr (7, [.ref tb, .int (nI L2_8)])), (tb, .inl (cB, 9000, .inl f2_8))] H := hP
  have hD : va_D A [(aS, .inr (6, [.ref ce, .ref pl, .int sln, .int srs])), (ce, .inl (cI, 2048, .inl fc)), (pl, .inl (cI, 128, .inl fp)), (ta, .inr (7, [.ref tb, .int (nI L2_8)])), (tb, .inl (cB, 9000, .inl f2_8))] := hD
  refine lv_aload_n hx hb dX9_writeSong_11 rfl (lv_at hl 0 rfl) ?_
  refine lv_sipush (v := 951) hx hb dX9_writeSong_12 (by decide) ?_
  refine lv_aload_n hx hb dX9_writeSong_15 rfl (lv_at hl 1 rfl) ?_
  refine va_get (D := (dC, dI)) (ci := 6) (v := .int srs) (C := RX6) (T := TX6) (N := 4) hx hb hts iwX6 hown hK hP 0 rfl rfl 3 (by decide) (hts (.fieldLink RX9 23 "ModulePlayer$Score" "restart" "I") (List.mem_cons_of_mem _ kw_472)) (fun _ h9 => h9) rfl dX9_writeSong_16 ?_
  refine g_callv (wr := [(aS, .inr (6, [.ref ce, .ref pl, .int sln, .int srs])), (ce, .inl (cI, 2048, .inl fc)), (pl, .inl (cI, 128, .inl fp))]) (va_runV (As := [.int 951, .int srs]) (rest := []) ⟨hx, hb, hml, hown, hts⟩ (k_put l dC dI H.size ta tb cB f2_8 L2_8 951 srs (hL2_8)) (cwV 2 hts (gG_V kw_474 kw_243 kw_244 kw_18 kw_245) rfl rfl rfl (by decide +kernel) ⟨Nat.le_of_ble_eq_true rfl, Nat.le_of_ble_eq_true rfl⟩) (g_preV (C := RX7) (T := TX7) (N := 2) hP hD hK hS hA hN hZ (q0 := 3) rfl rfl [3, 4] (by decide) rfl [0] rfl) rfl rfl hl.1 rfl (lv_room (Nat.le_of_ble_eq_true rfl)) dX9_writeSong_19 ⟨Nat.le_of_ble_eq_true rfl, Nat.le_of_ble_eq_true rfl⟩) hP hD hK hS hA [3, 4] [0, 1, 2] rfl rfl (by decide) (by decide) (fun w ty1 H locs hw_19 hP hD _ hS => ?_)
  rcases hw_19 with ⟨L2_19, f2_19, hu, hL2_19⟩
  cases hu
  have hP : va_P (dC, dI) vwCl [(aS, .inr (6, [.ref ce, .ref pl, .int sln, .int srs])), (ce, .inl (cI, 2048, .inl fc)), (pl, .inl (cI, 128, .inl fp)), (ta, .inr (7, [.ref tb, .int (nI L2_19)])), (tb, .inl (cB, 9000, .inl f2_19))] H := hP
  have hD : va_D A [(aS, .inr (6, [.ref ce, .ref pl, .int sln, .int srs])), (ce, .inl (cI, 2048, .inl fc)), (pl, .inl (cI, 128, .inl fp)), (ta, .inr (7, [.ref tb, .int (nI L2_19)])), (tb, .inl (cB, 9000, .inl f2_19))] := hD
  refine lv_iconst (v := 0) hx hb dX9_writeSong_22 (by decide) ?_
  refine lv_istore_n (lv' := [(2, .int 0), (0, .ref ta), (1, .ref aS)]) hx hb dX9_writeSong_23 rfl hl (by decide) rfl (fun ls hl => ?_)
  have LP24 : ∀ (fu24 : Nat) (q24 : Nat) (La : Nat) (fta : Nat → Int32) (hq24 : q24 ≤ 128) (hLa : La ≤ 9000) (hm24 : 128 - q24 < fu24) (H : Heap) (locs : List Loc), va_P (dC, dI) vwCl [(aS, .inr (6, [.ref ce, .ref pl, .int sln, .int srs])), (ce, .inl (cI, 2048, .inl fc)), (pl, .inl (cI, 128, .inl fp)), (ta, .inr (7, [.ref tb, .int (nI La)])), (tb, .inl (cB, 9000, .inl fta))] H → va_D A [(aS, .inr (6, [.ref ce, .ref pl, .int sln, .int srs])), (ce, .inl (cI, 2048, .inl fc)), (pl, .inl (cI, 128, .inl fp)), (ta, .inr (7, [.ref tb, .int (nI La)])), (tb, .inl (cB, 9000, .inl fta))] → va_S A s.heap H locs → ∀ ls : Array Slot, lv_has ls 4 [(2, .int (nI q24)), (0, .ref ta), (1, .ref aS)] → W p l e ({ frames := 4, cells := 0, slots := 0, locals := 93 }) s m ([.ref ta, .ref aS] : List Value).toArray below meth c H locs (0) (0) (MQ below (va_Qv (fun u : va_W × gT => ∃ (L2 : Nat) (f2 : Nat → Int32), u = ([(ta, .inr (7, [.ref tb, .int (nI L2)])), (tb, .inl (cB, 9000, .inl f2)), (aS, .inr (6, [.ref ce, .ref pl, .int sln, .int srs])), (ce, .inl (cI, 2048, .inl fc)), (pl, .inl (cI, 128, .inl fp))], []) ∧ L2 ≤ 9000) (gB (dC, dI) A) A) ([.ref ta, .ref aS] : List Value).toArray s 0 0 A) (F0 m 24 ls []) := by
    intro fu24
    induction fu24 with
    | zero => intro q24 La fta hq24 hLa hm24; exact absurd hm24 (Nat.not_lt_zero _)
    | succ fu24 ih24 =>
      intro q24 La fta hq24 hLa hm24 H locs hP hD hS ls hl
      refine lv_iload_n hx hb dX9_writeSong_24 rfl (lv_at hl 0 rfl) ?_
      refine lv_aload_n hx hb dX9_writeSong_25 rfl (lv_at hl 2 rfl) ?_
      refine va_get (D := (dC, dI)) (ci := 6) (v := .int sln) (C := RX6) (T := TX6) (N := 4) hx hb hts iwX6 hown hK hP 0 rfl rfl 2 (by decide) (hts (.fieldLink RX9 11 "ModulePlayer$Score" "length" "I") (List.mem_cons_of_mem _ kw_471)) (fun _ h9 => h9) rfl dX9_writeSong_26 ?_
      refine lv_icmp_ge (tgt := 60) hx hb dX9_writeSong_29 (by decide) (fun c_29 => ?_) (fun c_29 => ?_)
      · refine lv_iconst (v := 0) hx hb dX9_writeSong_60 (by decide) ?_
        refine lv_istore_n (lv' := [(2, .int 0), (0, .ref ta), (1, .ref aS)]) hx hb dX9_writeSong_61 rfl hl (by decide) rfl (fun ls hl => ?_)
        refine lv_iload_n hx hb dX9_writeSong_62 rfl (lv_at hl 0 rfl) ?_
        refine lv_iconst (v := 4) hx hb dX9_writeSong_63 (by decide) ?_
        refine lv_icmp_ge (tgt := 86) hx hb dX9_writeSong_64 (by decide) (fun c_64 => absurd c_64 (by decide)) (fun c_64 => ?_)
        refine lv_aload_n hx hb dX9_writeSong_67 rfl (lv_at hl 1 rfl) ?_
        refine lv_sipush (v := 1080) hx hb dX9_writeSong_68 (by decide) ?_
        refine lv_iload_n hx hb dX9_writeSong_71 rfl (lv_at hl 0 rfl) ?_
        refine lv_iadd hx hb dX9_writeSong_72 ?_
        refine g_topi (y := 1080) (by decide) ?_
        refine lv_iload_n hx hb dX9_writeSong_73 rfl (lv_at hl 0 rfl) ?_
        refine g_calli (wr := [(aS, .inr (6, [.ref ce, .ref pl, .int sln, .int srs])), (ce, .inl (cI, 2048, .inl fc)), (pl, .inl (cI, 128, .inl fp)), (ta, .inr (7, [.ref tb, .int (nI La)])), (tb, .inl (cB, 9000, .inl fta))]) (va_runS (As := [.int 0]) (rest := [.int 1080, .ref ta]) ⟨hx, hb, hml, hown, hts⟩ (c_mark l dC dI H.size 0 (by decide)) (va_cwS 1 hts (gG_S kw_475 kw_300 kw_30 kw_301) rfl rfl rfl (by decide +kernel) ⟨Nat.le_of_ble_eq_true rfl, Nat.le_of_ble_eq_true rfl⟩) (g_preS hP hD hK hS hA hN hZ [] (by decide) rfl [] rfl) rfl rfl hl.1 rfl (lv_room (Nat.le_of_ble_eq_true rfl)) dX9_writeSong_74 ⟨Nat.le_of_ble_eq_true rfl, Nat.le_of_ble_eq_true rfl⟩) hP hD hK hS hA [] [0, 1, 2, 3, 4] rfl rfl (by decide) (by decide) (fun r_74 w ty1 H locs hw_74 hP hD _ hS => ?_)
        rcases hw_74 with ⟨hu, hr_74⟩
        cases hu
        have hP : va_P (dC, dI) vwCl [(aS, .inr (6, [.ref ce, .ref pl, .int sln, .int srs])), (ce, .inl (cI, 2048, .inl fc)), (pl, .inl (cI, 128, .inl fp)), (ta, .inr (7, [.ref tb, .int (nI La)])), (tb, .inl (cB, 9000, .inl fta))] H := hP
        have hD : va_D A [(aS, .inr (6, [.ref ce, .ref pl, .int sln, .int srs])), (ce, .inl (cI, 2048, .inl fc)), (pl, .inl (cI, 128, .inl fp)), (ta, .inr (7, [.ref tb, .int (nI La)])), (tb, .inl (cB, 9000, .inl fta))] := hD
        refine g_topi (y := mkv 0) hr_74 ?_
        refine g_callv (wr := [(aS, .inr (6, [.ref ce, .ref pl, .int sln, .int srs])), (ce, .inl (cI, 2048, .inl fc)), (pl, .inl (cI, 128, .inl fp))]) (va_runV (As := [.int 1080, .int (mkv 0)]) (rest := []) ⟨hx, hb, hml, hown, hts⟩ (k_put l dC dI H.size ta tb cB fta La 1080 (mkv 0) (hLa)) (cwV 2 hts (gG_V kw_474 kw_243 kw_244 kw_18 kw_245) rfl rfl rfl (by decide +kernel) ⟨Nat.le_of_ble_eq_true rfl, Nat.le_of_ble_eq_true rfl⟩) (g_preV (C := RX7) (T := TX7) (N := 2) hP hD hK hS hA hN hZ (q0 := 3) rfl rfl [3, 4] (by decide) rfl [0] rfl) rfl rfl hl.1 rfl (lv_room (Nat.le_of_ble_eq_true rfl)) dX9_writeSong_77 ⟨Nat.le_of_ble_eq_true rfl, Nat.le_of_ble_eq_true rfl⟩) hP hD hK hS hA [3, 4] [0, 1, 2] rfl rfl (by decide) (by decide) (fun w ty1 H locs hw_77 hP hD _ hS => ?_)
        rcases hw_77 with ⟨L2_77, f2_77, hu, hL2_77⟩
        cases hu
        have hP : va_P (dC, dI) vwCl [(aS, .inr (6, [.ref ce, .ref pl, .int sln, .int srs])), (ce, .inl (cI, 2048, .inl fc)), (pl, .inl (cI, 128, .inl fp)), (ta, .inr (7, [.ref tb, .int (nI L2_77)])), (tb, .inl (cB, 9000, .inl f2_77))] H := hP
        have hD : va_D A [(aS, .inr (6, [.ref ce, .ref pl, .int sln, .int srs])), (ce, .inl (cI, 2048, .inl fc)), (pl, .inl (cI, 128, .inl fp)), (ta, .inr (7, [.ref tb, .int (nI L2_77)])), (tb, .inl (cB, 9000, .inl f2_77))] := hD
        refine lv_iinc (v := 1) (lv' := [(2, .int 1), (0, .ref ta), (1, .ref aS)]) hx hb dX9_writeSong_80 hl (k := 0) rfl (by decide) (by decide) rfl (fun ls hl => ?_)
        refine lv_goto (tgt := 62) hx hb dX9_writeSong_83 (by decide) ?_
        refine lv_iload_n hx hb dX9_writeSong_62 rfl (lv_at hl 0 rfl) ?_
        refine lv_iconst (v := 4) hx hb dX9_writeSong_63 (by decide) ?_
        refine lv_icmp_ge (tgt := 86) hx hb dX9_writeSong_64 (by decide) (fun c_64_2 => absurd c_64_2 (by decide)) (fun c_64_2 => ?_)
        refine lv_aload_n hx hb dX9_writeSong_67 rfl (lv_at hl 1 rfl) ?_
        refine lv_sipush (v := 1080) hx hb dX9_writeSong_68 (by decide) ?_
        refine lv_iload_n hx hb dX9_writeSong_71 rfl (lv_at hl 0 rfl) ?_
        refine lv_iadd hx hb dX9_writeSong_72 ?_
        refine g_topi (y := 1081) (by decide) ?_
        refine lv_iload_n hx hb dX9_writeSong_73 rfl (lv_at hl 0 rfl) ?_
        refine g_calli (wr := [(aS, .inr (6, [.ref ce, .ref pl, .int sln, .int srs])), (ce, .inl (cI, 2048, .inl fc)), (pl, .inl (cI, 128, .inl fp)), (ta, .inr (7, [.ref tb, .int (nI L2_77)])), (tb, .inl (cB, 9000, .inl f2_77))]) (va_runS (As := [.int 1]) (rest := [.int 1081, .ref ta]) ⟨hx, hb, hml, hown, hts⟩ (c_mark l dC dI H.size 1 (by decide)) (va_cwS 1 hts (gG_S kw_475 kw_300 kw_30 kw_301) rfl rfl rfl (by decide +kernel) ⟨Nat.le_of_ble_eq_true rfl, Nat.le_of_ble_eq_true rfl⟩) (g_preS hP hD hK hS hA hN hZ [] (by decide) rfl [] rfl) rfl rfl hl.1 rfl (lv_room (Nat.le_of_ble_eq_true rfl)) dX9_writeSong_74 ⟨Nat.le_of_ble_eq_true rfl, Nat.le_of_ble_eq_true rfl⟩) hP hD hK hS hA [] [0, 1, 2, 3, 4] rfl rfl (by decide) (by decide) (fun r_74_2 w ty1 H locs hw_74 hP hD _ hS => ?_)
        rcases hw_74 with ⟨hu, hr_74⟩
        cases hu
        have hP : va_P (dC, dI) vwCl [(aS, .inr (6, [.ref ce, .ref pl, .int sln, .int srs])), (ce, .inl (cI, 2048, .inl fc)), (pl, .inl (cI, 128, .inl fp)), (ta, .inr (7, [.ref tb, .int (nI L2_77)])), (tb, .inl (cB, 9000, .inl f2_77))] H := hP
        have hD : va_D A [(aS, .inr (6, [.ref ce, .ref pl, .int sln, .int srs])), (ce, .inl (cI, 2048, .inl fc)), (pl, .inl (cI, 128, .inl fp)), (ta, .inr (7, [.ref tb, .int (nI L2_77)])), (tb, .inl (cB, 9000, .inl f2_77))] := hD
        refine g_topi (y := mkv 1) hr_74 ?_
        refine g_callv (wr := [(aS, .inr (6, [.ref ce, .ref pl, .int sln, .int srs])), (ce, .inl (cI, 2048, .inl fc)), (pl, .inl (cI, 128, .inl fp))]) (va_runV (As := [.int 1081, .int (mkv 1)]) (rest := []) ⟨hx, hb, hml, hown, hts⟩ (k_put l dC dI H.size ta tb cB f2_77 L2_77 1081 (mkv 1) (hL2_77)) (cwV 2 hts (gG_V kw_474 kw_243 kw_244 kw_18 kw_245) rfl rfl rfl (by decide +kernel) ⟨Nat.le_of_ble_eq_true rfl, Nat.le_of_ble_eq_true rfl⟩) (g_preV (C := RX7) (T := TX7) (N := 2) hP hD hK hS hA hN hZ (q0 := 3) rfl rfl [3, 4] (by decide) rfl [0] rfl) rfl rfl hl.1 rfl (lv_room (Nat.le_of_ble_eq_true rfl)) dX9_writeSong_77 ⟨Nat.le_of_ble_eq_true rfl, Nat.le_of_ble_eq_true rfl⟩) hP hD hK hS hA [3, 4] [0, 1, 2] rfl rfl (by decide) (by decide) (fun w ty1 H locs hw_77 hP hD _ hS => ?_)
        rcases hw_77 with ⟨L2_77_2, f2_77_2, hu, hL2_77_2⟩
        cases hu
        have hP : va_P (dC, dI) vwCl [(aS, .inr (6, [.ref ce, .ref pl, .int sln, .int srs])), (ce, .inl (cI, 2048, .inl fc)), (pl, .inl (cI, 128, .inl fp)), (ta, .inr (7, [.ref tb, .int (nI L2_77_2)])), (tb, .inl (cB, 9000, .inl f2_77_2))] H := hP
        have hD : va_D A [(aS, .inr (6, [.ref ce, .ref pl, .int sln, .int srs])), (ce, .inl (cI, 2048, .inl fc)), (pl, .inl (cI, 128, .inl fp)), (ta, .inr (7, [.ref tb, .int (nI L2_77_2)])), (tb, .inl (cB, 9000, .inl f2_77_2))] := hD
        refine lv_iinc (v := 2) (lv' := [(2, .int 2), (0, .ref ta), (1, .ref aS)]) hx hb dX9_writeSong_80 hl (k := 0) rfl (by decide) (by decide) rfl (fun ls hl => ?_)
        refine lv_goto (tgt := 62) hx hb dX9_writeSong_83 (by decide) ?_
        refine lv_iload_n hx hb dX9_writeSong_62 rfl (lv_at hl 0 rfl) ?_
        refine lv_iconst (v := 4) hx hb dX9_writeSong_63 (by decide) ?_
        refine lv_icmp_ge (tgt := 86) hx hb dX9_writeSong_64 (by decide) (fun c_64_3 => absurd c_64_3 (by decide)) (fun c_64_3 => ?_)
        refine lv_aload_n hx hb dX9_writeSong_67 rfl (lv_at hl 1 rfl) ?_
        refine lv_sipush (v := 1080) hx hb dX9_writeSong_68 (by decide) ?_
        refine lv_iload_n hx hb dX9_writeSong_71 rfl (lv_at hl 0 rfl) ?_
        refine lv_iadd hx hb dX9_writeSong_72 ?_
        refine g_topi (y := 1082) (by decide) ?_
        refine lv_iload_n hx hb dX9_writeSong_73 rfl (lv_at hl 0 rfl) ?_
        refine g_calli (wr := [(aS, .inr (6, [.ref ce, .ref pl, .int sln, .int srs])), (ce, .inl (cI, 2048, .inl fc)), (pl, .inl (cI, 128, .inl fp)), (ta, .inr (7, [.ref tb, .int (nI L2_77_2)])), (tb, .inl (cB, 9000, .inl f2_77_2))]) (va_runS (As := [.int 2]) (rest := [.int 1082, .ref ta]) ⟨hx, hb, hml, hown, hts⟩ (c_mark l dC dI H.size 2 (by decide)) (va_cwS 1 hts (gG_S kw_475 kw_300 kw_30 kw_301) rfl rfl rfl (by decide +kernel) ⟨Nat.le_of_ble_eq_true rfl, Nat.le_of_ble_eq_true rfl⟩) (g_preS hP hD hK hS hA hN hZ [] (by decide) rfl [] rfl) rfl rfl hl.1 rfl (lv_room (Nat.le_of_ble_eq_true rfl)) dX9_writeSong_74 ⟨Nat.le_of_ble_eq_true rfl, Nat.le_of_ble_eq_true rfl⟩) hP hD hK hS hA [] [0, 1, 2, 3, 4] rfl rfl (by decide) (by decide) (fun r_74_3 w ty1 H locs hw_74 hP hD _ hS => ?_)
        rcases hw_74 with ⟨hu, hr_74⟩
        cases hu
        have hP : va_P (dC, dI) vwCl [(aS, .inr (6, [.ref ce, .ref pl, .int sln, .int srs])), (ce, .inl (cI, 2048, .inl fc)), (pl, .inl (cI, 128, .inl fp)), (ta, .inr (7, [.ref tb, .int (nI L2_77_2)])), (tb, .inl (cB, 9000, .inl f2_77_2))] H := hP
        have hD : va_D A [(aS, .inr (6, [.ref ce, .ref pl, .int sln, .int srs])), (ce, .inl (cI, 2048, .inl fc)), (pl, .inl (cI, 128, .inl fp)), (ta, .inr (7, [.ref tb, .int (nI L2_77_2)])), (tb, .inl (cB, 9000, .inl f2_77_2))] := hD
        refine g_topi (y := mkv 2) hr_74 ?_
        refine g_callv (wr := [(aS, .inr (6, [.ref ce, .ref pl, .int sln, .int srs])), (ce, .inl (cI, 2048, .inl fc)), (pl, .inl (cI, 128, .inl fp))]) (va_runV (As := [.int 1082, .int (mkv 2)]) (rest := []) ⟨hx, hb, hml, hown, hts⟩ (k_put l dC dI H.size ta tb cB f2_77_2 L2_77_2 1082 (mkv 2) (hL2_77_2)) (cwV 2 hts (gG_V kw_474 kw_243 kw_244 kw_18 kw_245) rfl rfl rfl (by decide +kernel) ⟨Nat.le_of_ble_eq_true rfl, Nat.le_of_ble_eq_true rfl⟩) (g_preV (C := RX7) (T := TX7) (N := 2) hP hD hK hS hA hN hZ (q0 := 3) rfl rfl [3, 4] (by decide) rfl [0] rfl) rfl rfl hl.1 rfl (lv_room (Nat.le_of_ble_eq_true rfl)) dX9_writeSong_77 ⟨Nat.le_of_ble_eq_true rfl, Nat.le_of_ble_eq_true rfl⟩) hP hD hK hS hA [3, 4] [0, 1, 2] rfl rfl (by decide) (by decide) (fun w ty1 H locs hw_77 hP hD _ hS => ?_)
        rcases hw_77 with ⟨L2_77_3, f2_77_3, hu, hL2_77_3⟩
        cases hu
        have hP : va_P (dC, dI) vwCl [(aS, .inr (6, [.ref ce, .ref pl, .int sln, .int srs])), (ce, .inl (cI, 2048, .inl fc)), (pl, .inl (cI, 128, .inl fp)), (ta, .inr (7, [.ref tb, .int (nI L2_77_3)])), (tb, .inl (cB, 9000, .inl f2_77_3))] H := hP
        have hD : va_D A [(aS, .inr (6, [.ref ce, .ref pl, .int sln, .int srs])), (ce, .inl (cI, 2048, .inl fc)), (pl, .inl (cI, 128, .inl fp)), (ta, .inr (7, [.ref tb, .int (nI L2_77_3)])), (tb, .inl (cB, 9000, .inl f2_77_3))] := hD
        refine lv_iinc (v := 3) (lv' := [(2, .int 3), (0, .ref ta), (1, .ref aS)]) hx hb dX9_writeSong_80 hl (k := 0) rfl (by decide) (by decide) rfl (fun ls hl => ?_)
        refine lv_goto (tgt := 62) hx hb dX9_writeSong_83 (by decide) ?_
        refine lv_iload_n hx hb dX9_writeSong_62 rfl (lv_at hl 0 rfl) ?_
        refine lv_iconst (v := 4) hx hb dX9_writeSong_63 (by decide) ?_
        refine lv_icmp_ge (tgt := 86) hx hb dX9_writeSong_64 (by decide) (fun c_64_4 => absurd c_64_4 (by decide)) (fun c_64_4 => ?_)
        refine lv_aload_n hx hb dX9_writeSong_67 rfl (lv_at hl 1 rfl) ?_
        refine lv_sipush (v := 1080) hx hb dX9_writeSong_68 (by decide) ?_
        refine lv_iload_n hx hb dX9_writeSong_71 rfl (lv_at hl 0 rfl) ?_
        refine lv_iadd hx hb dX9_writeSong_72 ?_
        refine g_topi (y := 1083) (by decide) ?_
        refine lv_iload_n hx hb dX9_writeSong_73 rfl (lv_at hl 0 rfl) ?_
        refine g_calli (wr := [(aS, .inr (6, [.ref ce, .ref pl, .int sln, .int srs])), (ce, .inl (cI, 2048, .inl fc)), (pl, .inl (cI, 128, .inl fp)), (ta, .inr (7, [.ref tb, .int (nI L2_77_3)])), (tb, .inl (cB, 9000, .inl f2_77_3))]) (va_runS (As := [.int 3]) (rest := [.int 1083, .ref ta]) ⟨hx, hb, hml, hown, hts⟩ (c_mark l dC dI H.size 3 (by decide)) (va_cwS 1 hts (gG_S kw_475 kw_300 kw_30 kw_301) rfl rfl rfl (by decide +kernel) ⟨Nat.le_of_ble_eq_true rfl, Nat.le_of_ble_eq_true rfl⟩) (g_preS hP hD hK hS hA hN hZ [] (by decide) rfl [] rfl) rfl rfl hl.1 rfl (lv_room (Nat.le_of_ble_eq_true rfl)) dX9_writeSong_74 ⟨Nat.le_of_ble_eq_true rfl, Nat.le_of_ble_eq_true rfl⟩) hP hD hK hS hA [] [0, 1, 2, 3, 4] rfl rfl (by decide) (by decide) (fun r_74_4 w ty1 H locs hw_74 hP hD _ hS => ?_)
        rcases hw_74 with ⟨hu, hr_74⟩
        cases hu
        have hP : va_P (dC, dI) vwCl [(aS, .inr (6, [.ref ce, .ref pl, .int sln, .int srs])), (ce, .inl (cI, 2048, .inl fc)), (pl, .inl (cI, 128, .inl fp)), (ta, .inr (7, [.ref tb, .int (nI L2_77_3)])), (tb, .inl (cB, 9000, .inl f2_77_3))] H := hP
        have hD : va_D A [(aS, .inr (6, [.ref ce, .ref pl, .int sln, .int srs])), (ce, .inl (cI, 2048, .inl fc)), (pl, .inl (cI, 128, .inl fp)), (ta, .inr (7, [.ref tb, .int (nI L2_77_3)])), (tb, .inl (cB, 9000, .inl f2_77_3))] := hD
        refine g_topi (y := mkv 3) hr_74 ?_
        refine g_callv (wr := [(aS, .inr (6, [.ref ce, .ref pl, .int sln, .int srs])), (ce, .inl (cI, 2048, .inl fc)), (pl, .inl (cI, 128, .inl fp))]) (va_runV (As := [.int 1083, .int (mkv 3)]) (rest := []) ⟨hx, hb, hml, hown, hts⟩ (k_put l dC dI H.size ta tb cB f2_77_3 L2_77_3 1083 (mkv 3) (hL2_77_3)) (cwV 2 hts (gG_V kw_474 kw_243 kw_244 kw_18 kw_245) rfl rfl rfl (by decide +kernel) ⟨Nat.le_of_ble_eq_true rfl, Nat.le_of_ble_eq_true rfl⟩) (g_preV (C := RX7) (T := TX7) (N := 2) hP hD hK hS hA hN hZ (q0 := 3) rfl rfl [3, 4] (by decide) rfl [0] rfl) rfl rfl hl.1 rfl (lv_room (Nat.le_of_ble_eq_true rfl)) dX9_writeSong_77 ⟨Nat.le_of_ble_eq_true rfl, Nat.le_of_ble_eq_true rfl⟩) hP hD hK hS hA [3, 4] [0, 1, 2] rfl rfl (by decide) (by decide) (fun w ty1 H locs hw_77 hP hD _ hS => ?_)
        rcases hw_77 with ⟨L2_77_4, f2_77_4, hu, hL2_77_4⟩
        cases hu
        have hP : va_P (dC, dI) vwCl [(aS, .inr (6, [.ref ce, .ref pl, .int sln, .int srs])), (ce, .inl (cI, 2048, .inl fc)), (pl, .inl (cI, 128, .inl fp)), (ta, .inr (7, [.ref tb, .int (nI L2_77_4)])), (tb, .inl (cB, 9000, .inl f2_77_4))] H := hP
        have hD : va_D A [(aS, .inr (6, [.ref ce, .ref pl, .int sln, .int srs])), (ce, .inl (cI, 2048, .inl fc)), (pl, .inl (cI, 128, .inl fp)), (ta, .inr (7, [.ref tb, .int (nI L2_77_4)])), (tb, .inl (cB, 9000, .inl f2_77_4))] := hD
        refine lv_iinc (v := 4) (lv' := [(2, .int 4), (0, .ref ta), (1, .ref aS)]) hx hb dX9_writeSong_80 hl (k := 0) rfl (by decide) (by decide) rfl (fun ls hl => ?_)
        refine lv_goto (tgt := 62) hx hb dX9_writeSong_83 (by decide) ?_
        refine lv_iload_n hx hb dX9_writeSong_62 rfl (lv_at hl 0 rfl) ?_
        refine lv_iconst (v := 4) hx hb dX9_writeSong_63 (by decide) ?_
        refine lv_icmp_ge (tgt := 86) hx hb dX9_writeSong_64 (by decide) (fun c_64_5 => ?_) (fun c_64_5 => absurd c_64_5 (by decide))
        refine lv_aload_n hx hb dX9_writeSong_86 rfl (lv_at hl 2 rfl) ?_
        refine g_calli (wr := [(ce, .inl (cI, 2048, .inl fc)), (ta, .inr (7, [.ref tb, .int (nI L2_77_4)])), (tb, .inl (cB, 9000, .inl f2_77_4))]) (va_runV (As := []) (rest := []) ⟨hx, hb, hml, hown, hts⟩ (k_count l dC dI H.size aS ce pl sln srs fp cI ) (cwV 0 hts (gG_V kw_476 kw_347 kw_348 kw_26 kw_349) rfl rfl rfl (by decide +kernel) ⟨Nat.le_of_ble_eq_true rfl, Nat.le_of_ble_eq_true rfl⟩) (g_preV (C := RX6) (T := TX6) (N := 4) hP hD hK hS hA hN hZ (q0 := 0) rfl rfl [0, 2] (by decide) rfl [1] rfl) rfl rfl hl.1 rfl (lv_room (Nat.le_of_ble_eq_true rfl)) dX9_writeSong_87 ⟨Nat.le_of_ble_eq_true rfl, Nat.le_of_ble_eq_true rfl⟩) hP hD hK hS hA [0, 2] [1, 3, 4] rfl rfl (by decide) (by decide) (fun r_87 w ty1 H locs hw_87 hP hD _ hS => ?_)
        have hu := hw_87
        cases hu
        have hP : va_P (dC, dI) vwCl [(ce, .inl (cI, 2048, .inl fc)), (ta, .inr (7, [.ref tb, .int (nI L2_77_4)])), (tb, .inl (cB, 9000, .inl f2_77_4)), (aS, .inr (6, [.ref ce, .ref pl, .int sln, .int srs])), (pl, .inl (cI, 128, .inl fp))] H := hP
        have hD : va_D A [(ce, .inl (cI, 2048, .inl fc)), (ta, .inr (7, [.ref tb, .int (nI L2_77_4)])), (tb, .inl (cB, 9000, .inl f2_77_4)), (aS, .inr (6, [.ref ce, .ref pl, .int sln, .int srs])), (pl, .inl (cI, 128, .inl fp))] := hD
        refine lv_istore_n (lv' := [(2, .int r_87), (0, .ref ta), (1, .ref aS)]) hx hb dX9_writeSong_90 rfl hl (by decide) rfl (fun ls hl => ?_)
        refine lv_iconst (v := 0) hx hb dX9_writeSong_91 (by decide) ?_
        refine lv_istore_n (lv' := [(3, .int 0), (2, .int r_87), (0, .ref ta), (1, .ref aS)]) hx hb dX9_writeSong_92 rfl hl (by decide) rfl (fun ls hl => ?_)
        obtain ⟨hTz, ehTz⟩ : ∃ xx : Nat, xx = (r_87).toInt.toNat := ⟨_, rfl⟩
        have LP93 : ∀ (fu93 : Nat) (q93 : Nat) (Lb : Nat) (ftb : Nat → Int32) (hq93 : q93 < 2147483648) (hLb : Lb ≤ 9000) (hm93 : hTz - q93 < fu93) (H : Heap) (locs : List Loc), va_P (dC, dI) vwCl [(ce, .inl (cI, 2048, .inl fc)), (ta, .inr (7, [.ref tb, .int (nI Lb)])), (tb, .inl (cB, 9000, .inl ftb)), (aS, .inr (6, [.ref ce, .ref pl, .int sln, .int srs])), (pl, .inl (cI, 128, .inl fp))] H → va_D A [(ce, .inl (cI, 2048, .inl fc)), (ta, .inr (7, [.ref tb, .int (nI Lb)])), (tb, .inl (cB, 9000, .inl ftb)), (aS, .inr (6, [.ref ce, .ref pl, .int sln, .int srs])), (pl, .inl (cI, 128, .inl fp))] → va_S A s.heap H locs → ∀ ls : Array Slot, lv_has ls 4 [(3, .int (nI q93)), (2, .int r_87), (0, .ref ta), (1, .ref aS)] → W p l e ({ frames := 4, cells := 0, slots := 0, locals := 93 }) s m ([.ref ta, .ref aS] : List Value).toArray below meth c H locs (0) (0) (MQ below (va_Qv (fun u : va_W × gT => ∃ (L2 : Nat) (f2 : Nat → Int32), u = ([(ta, .inr (7, [.ref tb, .int (nI L2)])), (tb, .inl (cB, 9000, .inl f2)), (aS, .inr (6, [.ref ce, .ref pl, .int sln, .int srs])), (ce, .inl (cI, 2048, .inl fc)), (pl, .inl (cI, 128, .inl fp))], []) ∧ L2 ≤ 9000) (gB (dC, dI) A) A) ([.ref ta, .ref aS] : List Value).toArray s 0 0 A) (F0 m 93 ls []) := by
          intro fu93
          induction fu93 with
          | zero => intro q93 Lb ftb hq93 hLb hm93; exact absurd hm93 (Nat.not_lt_zero _)
          | succ fu93 ih93 =>
            intro q93 Lb ftb hq93 hLb hm93 H locs hP hD hS ls hl
            refine lv_iload_n hx hb dX9_writeSong_93 rfl (lv_at hl 0 rfl) ?_
            refine lv_iload_n hx hb dX9_writeSong_94 rfl (lv_at hl 1 rfl) ?_
            refine lv_icmp_ge (tgt := 110) hx hb dX9_writeSong_95 (by decide) (fun c_95 => ?_) (fun c_95 => ?_)
            · have hP9 := hP.sub (ws' := [(ta, .inr (7, [.ref tb, .int (nI Lb)])), (tb, .inl (cB, 9000, .inl ftb)), (aS, .inr (6, [.ref ce, .ref pl, .int sln, .int srs])), (ce, .inl (cI, 2048, .inl fc)), (pl, .inl (cI, 128, .inl fp))]) [1, 2, 3, 0, 4] rfl
              have hD9 := hD.sub (ws' := [(ta, .inr (7, [.ref tb, .int (nI Lb)])), (tb, .inl (cB, 9000, .inl ftb)), (aS, .inr (6, [.ref ce, .ref pl, .int sln, .int srs])), (ce, .inl (cI, 2048, .inl fc)), (pl, .inl (cI, 128, .inl fp))]) [1, 2, 3, 0, 4] (by decide) rfl
              have hK9 := hK.sub (tys' := []) [] rfl
              exact W.vret hx hb hr (fun t ht hW => ⟨⟨_, rfl, ⟨Lb, ftb, rfl, hLb⟩, by rw [ht]; exact hP9, va_K.moved hW.alike hK9, hD9⟩, hS.F ht⟩) hS.2.2 dX9_writeSong_110
            refine lv_aload_n hx hb dX9_writeSong_98 rfl (lv_at hl 2 rfl) ?_
            refine lv_aload_n hx hb dX9_writeSong_99 rfl (lv_at hl 3 rfl) ?_
            refine lv_iload_n hx hb dX9_writeSong_100 rfl (lv_at hl 0 rfl) ?_
            refine g_callv (wr := [(pl, .inl (cI, 128, .inl fp))]) (va_runS (As := [.ref ta, .ref aS, .int (nI q93)]) (rest := []) ⟨hx, hb, hml, hown, hts⟩ (k_writePattern l dC dI H.size ta tb cB ftb Lb aS ce pl sln srs fc cI (nI q93) (hLb)) (va_cwS 3 hts (gG_S kw_477 kw_478 kw_469 kw_479) rfl rfl rfl (by decide +kernel) ⟨Nat.le_of_ble_eq_true rfl, Nat.le_of_ble_eq_true rfl⟩) (g_preS hP hD hK hS hA hN hZ [1, 2, 3, 0] (by decide) rfl [0, 1] rfl) rfl rfl hl.1 rfl (lv_room (Nat.le_of_ble_eq_true rfl)) dX9_writeSong_101 ⟨Nat.le_of_ble_eq_true rfl, Nat.le_of_ble_eq_true rfl⟩) hP hD hK hS hA [1, 2, 3, 0] [4] rfl rfl (by decide) (by decide) (fun w ty1 H locs hw_101 hP hD _ hS => ?_)
            rcases hw_101 with ⟨L2_101, f2_101, hu, hL2_101⟩
            cases hu
            have hP : va_P (dC, dI) vwCl [(pl, .inl (cI, 128, .inl fp)), (ta, .inr (7, [.ref tb, .int (nI L2_101)])), (tb, .inl (cB, 9000, .inl f2_101)), (aS, .inr (6, [.ref ce, .ref pl, .int sln, .int srs])), (ce, .inl (cI, 2048, .inl fc))] H := hP
            have hD : va_D A [(pl, .inl (cI, 128, .inl fp)), (ta, .inr (7, [.ref tb, .int (nI L2_101)])), (tb, .inl (cB, 9000, .inl f2_101)), (aS, .inr (6, [.ref ce, .ref pl, .int sln, .int srs])), (ce, .inl (cI, 2048, .inl fc))] := hD
            refine lv_iinc (v := nI (q93 + 1)) (lv' := [(3, .int (nI (q93 + 1))), (2, .int r_87), (0, .ref ta), (1, .ref aS)]) hx hb dX9_writeSong_104 hl (k := 0) rfl (nI_1 q93) (by decide) rfl (fun ls hl => ?_)
            refine lv_goto (tgt := 93) hx hb dX9_writeSong_107 (by decide) ?_
            exact ih93 (q93 + 1) L2_101 f2_101 (by have := ht_lt ehTz c_95 hq93; omega) (hL2_101) (by have := ht_lt ehTz c_95 hq93; omega) _ _ (hP.sub [4, 1, 2, 3, 0] rfl) (hD.sub [4, 1, 2, 3, 0] (by decide) rfl) hS _ (lv_sub hl [0, 1, 2, 3] rfl)
        exact LP93 _ 0 L2_77_4 f2_77_4 (by decide) (hL2_77_4) (Nat.lt_succ_self _) _ _ (hP.sub [0, 1, 2, 3, 4] rfl) (hD.sub [0, 1, 2, 3, 4] (by decide) rfl) hS _ (lv_sub hl [0, 1, 2, 3] rfl)
      refine lv_iload_n hx hb dX9_writeSong_32 rfl (lv_at hl 0 rfl) ?_
      refine lv_sipush (v := 128) hx hb dX9_writeSong_33 (by decide) ?_
      refine lv_icmp_ge (tgt := 60) hx hb dX9_writeSong_36 (by decide) (fun c_36 => ?_) (fun c_36 => ?_)
      · refine lv_iconst (v := 0) hx hb dX9_writeSong_60 (by decide) ?_
        refine lv_istore_n (lv' := [(2, .int 0), (0, .ref ta), (1, .ref aS)]) hx hb dX9_writeSong_61 rfl hl (by decide) rfl (fun ls hl => ?_)
        refine lv_iload_n hx hb dX9_writeSong_62 rfl (lv_at hl 0 rfl) ?_
        refine lv_iconst (v := 4) hx hb dX9_writeSong_63 (by decide) ?_
        refine lv_icmp_ge (tgt := 86) hx hb dX9_writeSong_64 (by decide) (fun c_64 => absurd c_64 (by decide)) (fun c_64 => ?_)
        refine lv_aload_n hx hb dX9_writeSong_67 rfl (lv_at hl 1 rfl) ?_
        refine lv_sipush (v := 1080) hx hb dX9_writeSong_68 (by decide) ?_
        refine lv_iload_n hx hb dX9_writeSong_71 rfl (lv_at hl 0 rfl) ?_
        refine lv_iadd hx hb dX9_writeSong_72 ?_
        refine g_topi (y := 1080) (by decide) ?_
        refine lv_iload_n hx hb dX9_writeSong_73 rfl (lv_at hl 0 rfl) ?_
        refine g_calli (wr := [(aS, .inr (6, [.ref ce, .ref pl, .int sln, .int srs])), (ce, .inl (cI, 2048, .inl fc)), (pl, .inl (cI, 128, .inl fp)), (ta, .inr (7, [.ref tb, .int (nI La)])), (tb, .inl (cB, 9000, .inl fta))]) (va_runS (As := [.int 0]) (rest := [.int 1080, .ref ta]) ⟨hx, hb, hml, hown, hts⟩ (c_mark l dC dI H.size 0 (by decide)) (va_cwS 1 hts (gG_S kw_475 kw_300 kw_30 kw_301) rfl rfl rfl (by decide +kernel) ⟨Nat.le_of_ble_eq_true rfl, Nat.le_of_ble_eq_true rfl⟩) (g_preS hP hD hK hS hA hN hZ [] (by decide) rfl [] rfl) rfl rfl hl.1 rfl (lv_room (Nat.le_of_ble_eq_true rfl)) dX9_writeSong_74 ⟨Nat.le_of_ble_eq_true rfl, Nat.le_of_ble_eq_true rfl⟩) hP hD hK hS hA [] [0, 1, 2, 3, 4] rfl rfl (by decide) (by decide) (fun r_74 w ty1 H locs hw_74 hP hD _ hS => ?_)
        rcases hw_74 with ⟨hu, hr_74⟩
        cases hu
        have hP : va_P (dC, dI) vwCl [(aS, .inr (6, [.ref ce, .ref pl, .int sln, .int srs])), (ce, .inl (cI, 2048, .inl fc)), (pl, .inl (cI, 128, .inl fp)), (ta, .inr (7, [.ref tb, .int (nI La)])), (tb, .inl (cB, 9000, .inl fta))] H := hP
        have hD : va_D A [(aS, .inr (6, [.ref ce, .ref pl, .int sln, .int srs])), (ce, .inl (cI, 2048, .inl fc)), (pl, .inl (cI, 128, .inl fp)), (ta, .inr (7, [.ref tb, .int (nI La)])), (tb, .inl (cB, 9000, .inl fta))] := hD
        refine g_topi (y := mkv 0) hr_74 ?_
        refine g_callv (wr := [(aS, .inr (6, [.ref ce, .ref pl, .int sln, .int srs])), (ce, .inl (cI, 2048, .inl fc)), (pl, .inl (cI, 128, .inl fp))]) (va_runV (As := [.int 1080, .int (mkv 0)]) (rest := []) ⟨hx, hb, hml, hown, hts⟩ (k_put l dC dI H.size ta tb cB fta La 1080 (mkv 0) (hLa)) (cwV 2 hts (gG_V kw_474 kw_243 kw_244 kw_18 kw_245) rfl rfl rfl (by decide +kernel) ⟨Nat.le_of_ble_eq_true rfl, Nat.le_of_ble_eq_true rfl⟩) (g_preV (C := RX7) (T := TX7) (N := 2) hP hD hK hS hA hN hZ (q0 := 3) rfl rfl [3, 4] (by decide) rfl [0] rfl) rfl rfl hl.1 rfl (lv_room (Nat.le_of_ble_eq_true rfl)) dX9_writeSong_77 ⟨Nat.le_of_ble_eq_true rfl, Nat.le_of_ble_eq_true rfl⟩) hP hD hK hS hA [3, 4] [0, 1, 2] rfl rfl (by decide) (by decide) (fun w ty1 H locs hw_77 hP hD _ hS => ?_)
        rcases hw_77 with ⟨L2_77, f2_77, hu, hL2_77⟩
        cases hu
        have hP : va_P (dC, dI) vwCl [(aS, .inr (6, [.ref ce, .ref pl, .int sln, .int srs])), (ce, .inl (cI, 2048, .inl fc)), (pl, .inl (cI, 128, .inl fp)), (ta, .inr (7, [.ref tb, .int (nI L2_77)])), (tb, .inl (cB, 9000, .inl f2_77))] H := hP
        have hD : va_D A [(aS, .inr (6, [.ref ce, .ref pl, .int sln, .int srs])), (ce, .inl (cI, 2048, .inl fc)), (pl, .inl (cI, 128, .inl fp)), (ta, .inr (7, [.ref tb, .int (nI L2_77)])), (tb, .inl (cB, 9000, .inl f2_77))] := hD
        refine lv_iinc (v := 1) (lv' := [(2, .int 1), (0, .ref ta), (1, .ref aS)]) hx hb dX9_writeSong_80 hl (k := 0) rfl (by decide) (by decide) rfl (fun ls hl => ?_)
        refine lv_goto (tgt := 62) hx hb dX9_writeSong_83 (by decide) ?_
        refine lv_iload_n hx hb dX9_writeSong_62 rfl (lv_at hl 0 rfl) ?_
        refine lv_iconst (v := 4) hx hb dX9_writeSong_63 (by decide) ?_
        refine lv_icmp_ge (tgt := 86) hx hb dX9_writeSong_64 (by decide) (fun c_64_2 => absurd c_64_2 (by decide)) (fun c_64_2 => ?_)
        refine lv_aload_n hx hb dX9_writeSong_67 rfl (lv_at hl 1 rfl) ?_
        refine lv_sipush (v := 1080) hx hb dX9_writeSong_68 (by decide) ?_
        refine lv_iload_n hx hb dX9_writeSong_71 rfl (lv_at hl 0 rfl) ?_
        refine lv_iadd hx hb dX9_writeSong_72 ?_
        refine g_topi (y := 1081) (by decide) ?_
        refine lv_iload_n hx hb dX9_writeSong_73 rfl (lv_at hl 0 rfl) ?_
        refine g_calli (wr := [(aS, .inr (6, [.ref ce, .ref pl, .int sln, .int srs])), (ce, .inl (cI, 2048, .inl fc)), (pl, .inl (cI, 128, .inl fp)), (ta, .inr (7, [.ref tb, .int (nI L2_77)])), (tb, .inl (cB, 9000, .inl f2_77))]) (va_runS (As := [.int 1]) (rest := [.int 1081, .ref ta]) ⟨hx, hb, hml, hown, hts⟩ (c_mark l dC dI H.size 1 (by decide)) (va_cwS 1 hts (gG_S kw_475 kw_300 kw_30 kw_301) rfl rfl rfl (by decide +kernel) ⟨Nat.le_of_ble_eq_true rfl, Nat.le_of_ble_eq_true rfl⟩) (g_preS hP hD hK hS hA hN hZ [] (by decide) rfl [] rfl) rfl rfl hl.1 rfl (lv_room (Nat.le_of_ble_eq_true rfl)) dX9_writeSong_74 ⟨Nat.le_of_ble_eq_true rfl, Nat.le_of_ble_eq_true rfl⟩) hP hD hK hS hA [] [0, 1, 2, 3, 4] rfl rfl (by decide) (by decide) (fun r_74_2 w ty1 H locs hw_74 hP hD _ hS => ?_)
        rcases hw_74 with ⟨hu, hr_74⟩
        cases hu
        have hP : va_P (dC, dI) vwCl [(aS, .inr (6, [.ref ce, .ref pl, .int sln, .int srs])), (ce, .inl (cI, 2048, .inl fc)), (pl, .inl (cI, 128, .inl fp)), (ta, .inr (7, [.ref tb, .int (nI L2_77)])), (tb, .inl (cB, 9000, .inl f2_77))] H := hP
        have hD : va_D A [(aS, .inr (6, [.ref ce, .ref pl, .int sln, .int srs])), (ce, .inl (cI, 2048, .inl fc)), (pl, .inl (cI, 128, .inl fp)), (ta, .inr (7, [.ref tb, .int (nI L2_77)])), (tb, .inl (cB, 9000, .inl f2_77))] := hD
        refine g_topi (y := mkv 1) hr_74 ?_
        refine g_callv (wr := [(aS, .inr (6, [.ref ce, .ref pl, .int sln, .int srs])), (ce, .inl (cI, 2048, .inl fc)), (pl, .inl (cI, 128, .inl fp))]) (va_runV (As := [.int 1081, .int (mkv 1)]) (rest := []) ⟨hx, hb, hml, hown, hts⟩ (k_put l dC dI H.size ta tb cB f2_77 L2_77 1081 (mkv 1) (hL2_77)) (cwV 2 hts (gG_V kw_474 kw_243 kw_244 kw_18 kw_245) rfl rfl rfl (by decide +kernel) ⟨Nat.le_of_ble_eq_true rfl, Nat.le_of_ble_eq_true rfl⟩) (g_preV (C := RX7) (T := TX7) (N := 2) hP hD hK hS hA hN hZ (q0 := 3) rfl rfl [3, 4] (by decide) rfl [0] rfl) rfl rfl hl.1 rfl (lv_room (Nat.le_of_ble_eq_true rfl)) dX9_writeSong_77 ⟨Nat.le_of_ble_eq_true rfl, Nat.le_of_ble_eq_true rfl⟩) hP hD hK hS hA [3, 4] [0, 1, 2] rfl rfl (by decide) (by decide) (fun w ty1 H locs hw_77 hP hD _ hS => ?_)
        rcases hw_77 with ⟨L2_77_2, f2_77_2, hu, hL2_77_2⟩
        cases hu
        have hP : va_P (dC, dI) vwCl [(aS, .inr (6, [.ref ce, .ref pl, .int sln, .int srs])), (ce, .inl (cI, 2048, .inl fc)), (pl, .inl (cI, 128, .inl fp)), (ta, .inr (7, [.ref tb, .int (nI L2_77_2)])), (tb, .inl (cB, 9000, .inl f2_77_2))] H := hP
        have hD : va_D A [(aS, .inr (6, [.ref ce, .ref pl, .int sln, .int srs])), (ce, .inl (cI, 2048, .inl fc)), (pl, .inl (cI, 128, .inl fp)), (ta, .inr (7, [.ref tb, .int (nI L2_77_2)])), (tb, .inl (cB, 9000, .inl f2_77_2))] := hD
        refine lv_iinc (v := 2) (lv' := [(2, .int 2), (0, .ref ta), (1, .ref aS)]) hx hb dX9_writeSong_80 hl (k := 0) rfl (by decide) (by decide) rfl (fun ls hl => ?_)
        refine lv_goto (tgt := 62) hx hb dX9_writeSong_83 (by decide) ?_
        refine lv_iload_n hx hb dX9_writeSong_62 rfl (lv_at hl 0 rfl) ?_
        refine lv_iconst (v := 4) hx hb dX9_writeSong_63 (by decide) ?_
        refine lv_icmp_ge (tgt := 86) hx hb dX9_writeSong_64 (by decide) (fun c_64_3 => absurd c_64_3 (by decide)) (fun c_64_3 => ?_)
        refine lv_aload_n hx hb dX9_writeSong_67 rfl (lv_at hl 1 rfl) ?_
        refine lv_sipush (v := 1080) hx hb dX9_writeSong_68 (by decide) ?_
        refine lv_iload_n hx hb dX9_writeSong_71 rfl (lv_at hl 0 rfl) ?_
        refine lv_iadd hx hb dX9_writeSong_72 ?_
        refine g_topi (y := 1082) (by decide) ?_
        refine lv_iload_n hx hb dX9_writeSong_73 rfl (lv_at hl 0 rfl) ?_
        refine g_calli (wr := [(aS, .inr (6, [.ref ce, .ref pl, .int sln, .int srs])), (ce, .inl (cI, 2048, .inl fc)), (pl, .inl (cI, 128, .inl fp)), (ta, .inr (7, [.ref tb, .int (nI L2_77_2)])), (tb, .inl (cB, 9000, .inl f2_77_2))]) (va_runS (As := [.int 2]) (rest := [.int 1082, .ref ta]) ⟨hx, hb, hml, hown, hts⟩ (c_mark l dC dI H.size 2 (by decide)) (va_cwS 1 hts (gG_S kw_475 kw_300 kw_30 kw_301) rfl rfl rfl (by decide +kernel) ⟨Nat.le_of_ble_eq_true rfl, Nat.le_of_ble_eq_true rfl⟩) (g_preS hP hD hK hS hA hN hZ [] (by decide) rfl [] rfl) rfl rfl hl.1 rfl (lv_room (Nat.le_of_ble_eq_true rfl)) dX9_writeSong_74 ⟨Nat.le_of_ble_eq_true rfl, Nat.le_of_ble_eq_true rfl⟩) hP hD hK hS hA [] [0, 1, 2, 3, 4] rfl rfl (by decide) (by decide) (fun r_74_3 w ty1 H locs hw_74 hP hD _ hS => ?_)
        rcases hw_74 with ⟨hu, hr_74⟩
        cases hu
        have hP : va_P (dC, dI) vwCl [(aS, .inr (6, [.ref ce, .ref pl, .int sln, .int srs])), (ce, .inl (cI, 2048, .inl fc)), (pl, .inl (cI, 128, .inl fp)), (ta, .inr (7, [.ref tb, .int (nI L2_77_2)])), (tb, .inl (cB, 9000, .inl f2_77_2))] H := hP
        have hD : va_D A [(aS, .inr (6, [.ref ce, .ref pl, .int sln, .int srs])), (ce, .inl (cI, 2048, .inl fc)), (pl, .inl (cI, 128, .inl fp)), (ta, .inr (7, [.ref tb, .int (nI L2_77_2)])), (tb, .inl (cB, 9000, .inl f2_77_2))] := hD
        refine g_topi (y := mkv 2) hr_74 ?_
        refine g_callv (wr := [(aS, .inr (6, [.ref ce, .ref pl, .int sln, .int srs])), (ce, .inl (cI, 2048, .inl fc)), (pl, .inl (cI, 128, .inl fp))]) (va_runV (As := [.int 1082, .int (mkv 2)]) (rest := []) ⟨hx, hb, hml, hown, hts⟩ (k_put l dC dI H.size ta tb cB f2_77_2 L2_77_2 1082 (mkv 2) (hL2_77_2)) (cwV 2 hts (gG_V kw_474 kw_243 kw_244 kw_18 kw_245) rfl rfl rfl (by decide +kernel) ⟨Nat.le_of_ble_eq_true rfl, Nat.le_of_ble_eq_true rfl⟩) (g_preV (C := RX7) (T := TX7) (N := 2) hP hD hK hS hA hN hZ (q0 := 3) rfl rfl [3, 4] (by decide) rfl [0] rfl) rfl rfl hl.1 rfl (lv_room (Nat.le_of_ble_eq_true rfl)) dX9_writeSong_77 ⟨Nat.le_of_ble_eq_true rfl, Nat.le_of_ble_eq_true rfl⟩) hP hD hK hS hA [3, 4] [0, 1, 2] rfl rfl (by decide) (by decide) (fun w ty1 H locs hw_77 hP hD _ hS => ?_)
        rcases hw_77 with ⟨L2_77_3, f2_77_3, hu, hL2_77_3⟩
        cases hu
        have hP : va_P (dC, dI) vwCl [(aS, .inr (6, [.ref ce, .ref pl, .int sln, .int srs])), (ce, .inl (cI, 2048, .inl fc)), (pl, .inl (cI, 128, .inl fp)), (ta, .inr (7, [.ref tb, .int (nI L2_77_3)])), (tb, .inl (cB, 9000, .inl f2_77_3))] H := hP
        have hD : va_D A [(aS, .inr (6, [.ref ce, .ref pl, .int sln, .int srs])), (ce, .inl (cI, 2048, .inl fc)), (pl, .inl (cI, 128, .inl fp)), (ta, .inr (7, [.ref tb, .int (nI L2_77_3)])), (tb, .inl (cB, 9000, .inl f2_77_3))] := hD
        refine lv_iinc (v := 3) (lv' := [(2, .int 3), (0, .ref ta), (1, .ref aS)]) hx hb dX9_writeSong_80 hl (k := 0) rfl (by decide) (by decide) rfl (fun ls hl => ?_)
        refine lv_goto (tgt := 62) hx hb dX9_writeSong_83 (by decide) ?_
        refine lv_iload_n hx hb dX9_writeSong_62 rfl (lv_at hl 0 rfl) ?_
        refine lv_iconst (v := 4) hx hb dX9_writeSong_63 (by decide) ?_
        refine lv_icmp_ge (tgt := 86) hx hb dX9_writeSong_64 (by decide) (fun c_64_4 => absurd c_64_4 (by decide)) (fun c_64_4 => ?_)
        refine lv_aload_n hx hb dX9_writeSong_67 rfl (lv_at hl 1 rfl) ?_
        refine lv_sipush (v := 1080) hx hb dX9_writeSong_68 (by decide) ?_
        refine lv_iload_n hx hb dX9_writeSong_71 rfl (lv_at hl 0 rfl) ?_
        refine lv_iadd hx hb dX9_writeSong_72 ?_
        refine g_topi (y := 1083) (by decide) ?_
        refine lv_iload_n hx hb dX9_writeSong_73 rfl (lv_at hl 0 rfl) ?_
        refine g_calli (wr := [(aS, .inr (6, [.ref ce, .ref pl, .int sln, .int srs])), (ce, .inl (cI, 2048, .inl fc)), (pl, .inl (cI, 128, .inl fp)), (ta, .inr (7, [.ref tb, .int (nI L2_77_3)])), (tb, .inl (cB, 9000, .inl f2_77_3))]) (va_runS (As := [.int 3]) (rest := [.int 1083, .ref ta]) ⟨hx, hb, hml, hown, hts⟩ (c_mark l dC dI H.size 3 (by decide)) (va_cwS 1 hts (gG_S kw_475 kw_300 kw_30 kw_301) rfl rfl rfl (by decide +kernel) ⟨Nat.le_of_ble_eq_true rfl, Nat.le_of_ble_eq_true rfl⟩) (g_preS hP hD hK hS hA hN hZ [] (by decide) rfl [] rfl) rfl rfl hl.1 rfl (lv_room (Nat.le_of_ble_eq_true rfl)) dX9_writeSong_74 ⟨Nat.le_of_ble_eq_true rfl, Nat.le_of_ble_eq_true rfl⟩) hP hD hK hS hA [] [0, 1, 2, 3, 4] rfl rfl (by decide) (by decide) (fun r_74_4 w ty1 H locs hw_74 hP hD _ hS => ?_)
        rcases hw_74 with ⟨hu, hr_74⟩
        cases hu
        have hP : va_P (dC, dI) vwCl [(aS, .inr (6, [.ref ce, .ref pl, .int sln, .int srs])), (ce, .inl (cI, 2048, .inl fc)), (pl, .inl (cI, 128, .inl fp)), (ta, .inr (7, [.ref tb, .int (nI L2_77_3)])), (tb, .inl (cB, 9000, .inl f2_77_3))] H := hP
        have hD : va_D A [(aS, .inr (6, [.ref ce, .ref pl, .int sln, .int srs])), (ce, .inl (cI, 2048, .inl fc)), (pl, .inl (cI, 128, .inl fp)), (ta, .inr (7, [.ref tb, .int (nI L2_77_3)])), (tb, .inl (cB, 9000, .inl f2_77_3))] := hD
        refine g_topi (y := mkv 3) hr_74 ?_
        refine g_callv (wr := [(aS, .inr (6, [.ref ce, .ref pl, .int sln, .int srs])), (ce, .inl (cI, 2048, .inl fc)), (pl, .inl (cI, 128, .inl fp))]) (va_runV (As := [.int 1083, .int (mkv 3)]) (rest := []) ⟨hx, hb, hml, hown, hts⟩ (k_put l dC dI H.size ta tb cB f2_77_3 L2_77_3 1083 (mkv 3) (hL2_77_3)) (cwV 2 hts (gG_V kw_474 kw_243 kw_244 kw_18 kw_245) rfl rfl rfl (by decide +kernel) ⟨Nat.le_of_ble_eq_true rfl, Nat.le_of_ble_eq_true rfl⟩) (g_preV (C := RX7) (T := TX7) (N := 2) hP hD hK hS hA hN hZ (q0 := 3) rfl rfl [3, 4] (by decide) rfl [0] rfl) rfl rfl hl.1 rfl (lv_room (Nat.le_of_ble_eq_true rfl)) dX9_writeSong_77 ⟨Nat.le_of_ble_eq_true rfl, Nat.le_of_ble_eq_true rfl⟩) hP hD hK hS hA [3, 4] [0, 1, 2] rfl rfl (by decide) (by decide) (fun w ty1 H locs hw_77 hP hD _ hS => ?_)
        rcases hw_77 with ⟨L2_77_4, f2_77_4, hu, hL2_77_4⟩
        cases hu
        have hP : va_P (dC, dI) vwCl [(aS, .inr (6, [.ref ce, .ref pl, .int sln, .int srs])), (ce, .inl (cI, 2048, .inl fc)), (pl, .inl (cI, 128, .inl fp)), (ta, .inr (7, [.ref tb, .int (nI L2_77_4)])), (tb, .inl (cB, 9000, .inl f2_77_4))] H := hP
        have hD : va_D A [(aS, .inr (6, [.ref ce, .ref pl, .int sln, .int srs])), (ce, .inl (cI, 2048, .inl fc)), (pl, .inl (cI, 128, .inl fp)), (ta, .inr (7, [.ref tb, .int (nI L2_77_4)])), (tb, .inl (cB, 9000, .inl f2_77_4))] := hD
        refine lv_iinc (v := 4) (lv' := [(2, .int 4), (0, .ref ta), (1, .ref aS)]) hx hb dX9_writeSong_80 hl (k := 0) rfl (by decide) (by decide) rfl (fun ls hl => ?_)
        refine lv_goto (tgt := 62) hx hb dX9_writeSong_83 (by decide) ?_
        refine lv_iload_n hx hb dX9_writeSong_62 rfl (lv_at hl 0 rfl) ?_
        refine lv_iconst (v := 4) hx hb dX9_writeSong_63 (by decide) ?_
        refine lv_icmp_ge (tgt := 86) hx hb dX9_writeSong_64 (by decide) (fun c_64_5 => ?_) (fun c_64_5 => absurd c_64_5 (by decide))
        refine lv_aload_n hx hb dX9_writeSong_86 rfl (lv_at hl 2 rfl) ?_
        refine g_calli (wr := [(ce, .inl (cI, 2048, .inl fc)), (ta, .inr (7, [.ref tb, .int (nI L2_77_4)])), (tb, .inl (cB, 9000, .inl f2_77_4))]) (va_runV (As := []) (rest := []) ⟨hx, hb, hml, hown, hts⟩ (k_count l dC dI H.size aS ce pl sln srs fp cI ) (cwV 0 hts (gG_V kw_476 kw_347 kw_348 kw_26 kw_349) rfl rfl rfl (by decide +kernel) ⟨Nat.le_of_ble_eq_true rfl, Nat.le_of_ble_eq_true rfl⟩) (g_preV (C := RX6) (T := TX6) (N := 4) hP hD hK hS hA hN hZ (q0 := 0) rfl rfl [0, 2] (by decide) rfl [1] rfl) rfl rfl hl.1 rfl (lv_room (Nat.le_of_ble_eq_true rfl)) dX9_writeSong_87 ⟨Nat.le_of_ble_eq_true rfl, Nat.le_of_ble_eq_true rfl⟩) hP hD hK hS hA [0, 2] [1, 3, 4] rfl rfl (by decide) (by decide) (fun r_87 w ty1 H locs hw_87 hP hD _ hS => ?_)
        have hu := hw_87
        cases hu
        have hP : va_P (dC, dI) vwCl [(ce, .inl (cI, 2048, .inl fc)), (ta, .inr (7, [.ref tb, .int (nI L2_77_4)])), (tb, .inl (cB, 9000, .inl f2_77_4)), (aS, .inr (6, [.ref ce, .ref pl, .int sln, .int srs])), (pl, .inl (cI, 128, .inl fp))] H := hP
        have hD : va_D A [(ce, .inl (cI, 2048, .inl fc)), (ta, .inr (7, [.ref tb, .int (nI L2_77_4)])), (tb, .inl (cB, 9000, .inl f2_77_4)), (aS, .inr (6, [.ref ce, .ref pl, .int sln, .int srs])), (pl, .inl (cI, 128, .inl fp))] := hD
        refine lv_istore_n (lv' := [(2, .int r_87), (0, .ref ta), (1, .ref aS)]) hx hb dX9_writeSong_90 rfl hl (by decide) rfl (fun ls hl => ?_)
        refine lv_iconst (v := 0) hx hb dX9_writeSong_91 (by decide) ?_
        refine lv_istore_n (lv' := [(3, .int 0), (2, .int r_87), (0, .ref ta), (1, .ref aS)]) hx hb dX9_writeSong_92 rfl hl (by decide) rfl (fun ls hl => ?_)
        obtain ⟨hTz, ehTz⟩ : ∃ xx : Nat, xx = (r_87).toInt.toNat := ⟨_, rfl⟩
        have LP93 : ∀ (fu93 : Nat) (q93 : Nat) (Lb : Nat) (ftb : Nat → Int32) (hq93 : q93 < 2147483648) (hLb : Lb ≤ 9000) (hm93 : hTz - q93 < fu93) (H : Heap) (locs : List Loc), va_P (dC, dI) vwCl [(ce, .inl (cI, 2048, .inl fc)), (ta, .inr (7, [.ref tb, .int (nI Lb)])), (tb, .inl (cB, 9000, .inl ftb)), (aS, .inr (6, [.ref ce, .ref pl, .int sln, .int srs])), (pl, .inl (cI, 128, .inl fp))] H → va_D A [(ce, .inl (cI, 2048, .inl fc)), (ta, .inr (7, [.ref tb, .int (nI Lb)])), (tb, .inl (cB, 9000, .inl ftb)), (aS, .inr (6, [.ref ce, .ref pl, .int sln, .int srs])), (pl, .inl (cI, 128, .inl fp))] → va_S A s.heap H locs → ∀ ls : Array Slot, lv_has ls 4 [(3, .int (nI q93)), (2, .int r_87), (0, .ref ta), (1, .ref aS)] → W p l e ({ frames := 4, cells := 0, slots := 0, locals := 93 }) s m ([.ref ta, .ref aS] : List Value).toArray below meth c H locs (0) (0) (MQ below (va_Qv (fun u : va_W × gT => ∃ (L2 : Nat) (f2 : Nat → Int32), u = ([(ta, .inr (7, [.ref tb, .int (nI L2)])), (tb, .inl (cB, 9000, .inl f2)), (aS, .inr (6, [.ref ce, .ref pl, .int sln, .int srs])), (ce, .inl (cI, 2048, .inl fc)), (pl, .inl (cI, 128, .inl fp))], []) ∧ L2 ≤ 9000) (gB (dC, dI) A) A) ([.ref ta, .ref aS] : List Value).toArray s 0 0 A) (F0 m 93 ls []) := by
          intro fu93
          induction fu93 with
          | zero => intro q93 Lb ftb hq93 hLb hm93; exact absurd hm93 (Nat.not_lt_zero _)
          | succ fu93 ih93 =>
            intro q93 Lb ftb hq93 hLb hm93 H locs hP hD hS ls hl
            refine lv_iload_n hx hb dX9_writeSong_93 rfl (lv_at hl 0 rfl) ?_
            refine lv_iload_n hx hb dX9_writeSong_94 rfl (lv_at hl 1 rfl) ?_
            refine lv_icmp_ge (tgt := 110) hx hb dX9_writeSong_95 (by decide) (fun c_95 => ?_) (fun c_95 => ?_)
            · have hP9 := hP.sub (ws' := [(ta, .inr (7, [.ref tb, .int (nI Lb)])), (tb, .inl (cB, 9000, .inl ftb)), (aS, .inr (6, [.ref ce, .ref pl, .int sln, .int srs])), (ce, .inl (cI, 2048, .inl fc)), (pl, .inl (cI, 128, .inl fp))]) [1, 2, 3, 0, 4] rfl
              have hD9 := hD.sub (ws' := [(ta, .inr (7, [.ref tb, .int (nI Lb)])), (tb, .inl (cB, 9000, .inl ftb)), (aS, .inr (6, [.ref ce, .ref pl, .int sln, .int srs])), (ce, .inl (cI, 2048, .inl fc)), (pl, .inl (cI, 128, .inl fp))]) [1, 2, 3, 0, 4] (by decide) rfl
              have hK9 := hK.sub (tys' := []) [] rfl
              exact W.vret hx hb hr (fun t ht hW => ⟨⟨_, rfl, ⟨Lb, ftb, rfl, hLb⟩, by rw [ht]; exact hP9, va_K.moved hW.alike hK9, hD9⟩, hS.F ht⟩) hS.2.2 dX9_writeSong_110
            refine lv_aload_n hx hb dX9_writeSong_98 rfl (lv_at hl 2 rfl) ?_
            refine lv_aload_n hx hb dX9_writeSong_99 rfl (lv_at hl 3 rfl) ?_
            refine lv_iload_n hx hb dX9_writeSong_100 rfl (lv_at hl 0 rfl) ?_
            refine g_callv (wr := [(pl, .inl (cI, 128, .inl fp))]) (va_runS (As := [.ref ta, .ref aS, .int (nI q93)]) (rest := []) ⟨hx, hb, hml, hown, hts⟩ (k_writePattern l dC dI H.size ta tb cB ftb Lb aS ce pl sln srs fc cI (nI q93) (hLb)) (va_cwS 3 hts (gG_S kw_477 kw_478 kw_469 kw_479) rfl rfl rfl (by decide +kernel) ⟨Nat.le_of_ble_eq_true rfl, Nat.le_of_ble_eq_true rfl⟩) (g_preS hP hD hK hS hA hN hZ [1, 2, 3, 0] (by decide) rfl [0, 1] rfl) rfl rfl hl.1 rfl (lv_room (Nat.le_of_ble_eq_true rfl)) dX9_writeSong_101 ⟨Nat.le_of_ble_eq_true rfl, Nat.le_of_ble_eq_true rfl⟩) hP hD hK hS hA [1, 2, 3, 0] [4] rfl rfl (by decide) (by decide) (fun w ty1 H locs hw_101 hP hD _ hS => ?_)
            rcases hw_101 with ⟨L2_101, f2_101, hu, hL2_101⟩
            cases hu
            have hP : va_P (dC, dI) vwCl [(pl, .inl (cI, 128, .inl fp)), (ta, .inr (7, [.ref tb, .int (nI L2_101)])), (tb, .inl (cB, 9000, .inl f2_101)), (aS, .inr (6, [.ref ce, .ref pl, .int sln, .int srs])), (ce, .inl (cI, 2048, .inl fc))] H := hP
            have hD : va_D A [(pl, .inl (cI, 128, .inl fp)), (ta, .inr (7, [.ref tb, .int (nI L2_101)])), (tb, .inl (cB, 9000, .inl f2_101)), (aS, .inr (6, [.ref ce, .ref pl, .int sln, .int srs])), (ce, .inl (cI, 2048, .inl fc))] := hD
            refine lv_iinc (v := nI (q93 + 1)) (lv' := [(3, .int (nI (q93 + 1))), (2, .int r_87), (0, .ref ta), (1, .ref aS)]) hx hb dX9_writeSong_104 hl (k := 0) rfl (nI_1 q93) (by decide) rfl (fun ls hl => ?_)
            refine lv_goto (tgt := 93) hx hb dX9_writeSong_107 (by decide) ?_
            exact ih93 (q93 + 1) L2_101 f2_101 (by have := ht_lt ehTz c_95 hq93; omega) (hL2_101) (by have := ht_lt ehTz c_95 hq93; omega) _ _ (hP.sub [4, 1, 2, 3, 0] rfl) (hD.sub [4, 1, 2, 3, 0] (by decide) rfl) hS _ (lv_sub hl [0, 1, 2, 3] rfl)
        exact LP93 _ 0 L2_77_4 f2_77_4 (by decide) (hL2_77_4) (Nat.lt_succ_self _) _ _ (hP.sub [0, 1, 2, 3, 4] rfl) (hD.sub [0, 1, 2, 3, 4] (by decide) rfl) hS _ (lv_sub hl [0, 1, 2, 3] rfl)
      refine lv_aload_n hx hb dX9_writeSong_39 rfl (lv_at hl 1 rfl) ?_
      refine lv_sipush (v := 952) hx hb dX9_writeSong_40 (by decide) ?_
      refine lv_iload_n hx hb dX9_writeSong_43 rfl (lv_at hl 0 rfl) ?_
      refine lv_iadd hx hb dX9_writeSong_44 ?_
      refine lv_topi (fun tv_44 etv_44 => ?_)
      refine lv_aload_n hx hb dX9_writeSong_45 rfl (lv_at hl 2 rfl) ?_
      refine va_get (D := (dC, dI)) (ci := 6) (v := .ref pl) (C := RX6) (T := TX6) (N := 4) hx hb hts iwX6 hown hK hP 0 rfl rfl 1 (by decide) (hts (.fieldLink RX9 26 "ModulePlayer$Score" "places" "[I") (List.mem_cons_of_mem _ kw_473)) (fun _ h9 => h9) rfl dX9_writeSong_46 ?_
      refine lv_iload_n hx hb dX9_writeSong_49 rfl (lv_at hl 0 rfl) ?_
      refine g_iald hx hb hK hP 2 1 rfl rfl q24 (nI_clamp (Nat.lt_trans (show q24 < 128 from by have := nI_nle' (a := 128) c_36 (by omega); omega) (by decide))) (vp_in_nI (by have := nI_nle' (a := 128) c_36 (by omega); omega) (by decide)) dX9_writeSong_50 ?_
      refine lv_topi (fun tv_50 etv_50 => ?_)
      refine g_callv (wr := [(aS, .inr (6, [.ref ce, .ref pl, .int sln, .int srs])), (ce, .inl (cI, 2048, .inl fc)), (pl, .inl (cI, 128, .inl fp))]) (va_runV (As := [.int tv_44, .int tv_50]) (rest := []) ⟨hx, hb, hml, hown, hts⟩ (k_put l dC dI H.size ta tb cB fta La tv_44 tv_50 (hLa)) (cwV 2 hts (gG_V kw_474 kw_243 kw_244 kw_18 kw_245) rfl rfl rfl (by decide +kernel) ⟨Nat.le_of_ble_eq_true rfl, Nat.le_of_ble_eq_true rfl⟩) (g_preV (C := RX7) (T := TX7) (N := 2) hP hD hK hS hA hN hZ (q0 := 3) rfl rfl [3, 4] (by decide) rfl [0] rfl) rfl rfl hl.1 rfl (lv_room (Nat.le_of_ble_eq_true rfl)) dX9_writeSong_51 ⟨Nat.le_of_ble_eq_true rfl, Nat.le_of_ble_eq_true rfl⟩) hP hD hK hS hA [3, 4] [0, 1, 2] rfl rfl (by decide) (by decide) (fun w ty1 H locs hw_51 hP hD _ hS => ?_)
      rcases hw_51 with ⟨L2_51, f2_51, hu, hL2_51⟩
      cases hu
      have hP : va_P (dC, dI) vwCl [(aS, .inr (6, [.ref ce, .ref pl, .int sln, .int srs])), (ce, .inl (cI, 2048, .inl fc)), (pl, .inl (cI, 128, .inl fp)), (ta, .inr (7, [.ref tb, .int (nI L2_51)])), (tb, .inl (cB, 9000, .inl f2_51))] H := hP
      have hD : va_D A [(aS, .inr (6, [.ref ce, .ref pl, .int sln, .int srs])), (ce, .inl (cI, 2048, .inl fc)), (pl, .inl (cI, 128, .inl fp)), (ta, .inr (7, [.ref tb, .int (nI L2_51)])), (tb, .inl (cB, 9000, .inl f2_51))] := hD
      refine lv_iinc (v := nI (q24 + 1)) (lv' := [(2, .int (nI (q24 + 1))), (0, .ref ta), (1, .ref aS)]) hx hb dX9_writeSong_54 hl (k := 0) rfl (nI_1 q24) (by decide) rfl (fun ls hl => ?_)
      refine lv_goto (tgt := 24) hx hb dX9_writeSong_57 (by decide) ?_
      exact ih24 (q24 + 1) L2_51 f2_51 (by have := nI_nle' (a := 128) c_36 (by omega); omega) (hL2_51) (by have := nI_nle' (a := 128) c_36 (by omega); omega) _ _ (hP.sub [0, 1, 2, 3, 4] rfl) (hD.sub [0, 1, 2, 3, 4] (by decide) rfl) hS _ (lv_sub hl [0, 1, 2] rfl)
  exact LP24 _ 0 L2_19 f2_19 (Nat.zero_le _) (hL2_19) (Nat.lt_succ_self _) _ _ (hP.sub [0, 1, 2, 3, 4] rfl) (hD.sub [0, 1, 2, 3, 4] (by decide) rfl) hS _ (lv_sub hl [0, 1, 2] rfl)

set_option maxHeartbeats 400000 in
set_option maxRecDepth 100000 in
theorem k_writeSamples (l : Launch) (dC : Nat → ClassId) (dI : Nat → Nat → Nat) (sz : Nat) (ta tb : Nat) (cB : ClassId) (ft : Nat → Int32) (L : Nat) (aB sa bb : Nat) (us : Int32) (ad : Nat → Nat) (cS : ClassId) (g : Nat → Option Nat) (f : Nat → Int32) (le tu vo sr lo fr : Nat → Int32) (nx : Int32) (hL : L ≤ 9000) (hg : ∀ x, x < 32 → g x = some (ad x)) : Met l yX9_writeSamples (wsG (.code yX9_writeSamples cX9_writeSamples 8 none)) ({ frames := 3, cells := 0, slots := 0, locals := 66 }) (va_Pc [.ref ta, .ref aB, .int nx] (gP (dC, dI) [(cB, .byte), (cS, .object RX5)] ([(ta, .inr (7, [.ref tb, .int (nI L)])), (tb, .inl (cB, 9000, .inl ft)), (aB, .inr (0, [.ref sa, .ref bb, .int us])), (sa, .inl (cS, 32, .inr (.inr (.inr (.inr g))))), (bb, .inl (cB, 4000, .inl f))] ++ famN 32 ad le tu vo sr lo fr) sz)) (va_Qv (fun u : va_W × gT => ∃ (L2 : Nat) (f2 : Nat → Int32), u = (([(ta, .inr (7, [.ref tb, .int (nI L2)])), (tb, .inl (cB, 9000, .inl f2)), (aB, .inr (0, [.ref sa, .ref bb, .int us])), (sa, .inl (cS, 32, .inr (.inr (.inr (.inr g))))), (bb, .inl (cB, 4000, .inl f))] ++ famN 32 ad le tu vo sr lo fr), []) ∧ L2 ≤ 9000) (gB (dC, dI) (va_A ([(ta, .inr (7, [.ref tb, .int (nI L)])), (tb, .inl (cB, 9000, .inl ft)), (aB, .inr (0, [.ref sa, .ref bb, .int us])), (sa, .inl (cS, 32, .inr (.inr (.inr (.inr g))))), (bb, .inl (cB, 4000, .inl f))] ++ famN 32 ad le tu vo sr lo fr) sz)) (va_A ([(ta, .inr (7, [.ref tb, .int (nI L)])), (tb, .inl (cB, 9000, .inl ft)), (aB, .inr (0, [.ref sa, .ref bb, .int us])), (sa, .inl (cS, 32, .inr (.inr (.inr (.inr g))))), (bb, .inl (cB, 4000, .inl f))] ++ famN 32 ad le tu vo sr lo fr) sz)) 0 0 (va_A ([(ta, .inr (7, [.ref tb, .int (nI L)])), (tb, .inl (cB, 9000, .inl ft)), (aB, .inr (0, [.ref sa, .ref bb, .int us])), (sa, .inl (cS, 32, .inr (.inr (.inr (.inr g))))), (bb, .inl (cB, 4000, .inl f))] ++ famN 32 ad le tu vo sr lo fr) sz) := by
  refine Met.ofW (cc := cX9_writeSamples) (maxL := 8) (ret := none) (by decide) rfl ?_
  intro p e s m args below meth c s₁ B hml hv
  obtain ⟨rfl, hsz, hP, hK, hD0, hN, hZ⟩ := hv
  have hx := B.exec
  have hb := B.bytes
  have hr := B.returns
  have hts := atoms_spec (ws := (wsG (.code yX9_writeSamples cX9_writeSamples 8 none))) B.pre
  have hown : s.vm.findClass RX9 = some m.cls := findClass_of_methodNamed B.named
  have hlocks := B.notSynchronized
  subst hsz
  have hD := hD0.self (sz := s.heap.size)
  generalize hAe : va_A ([(ta, .inr (7, [.ref tb, .int (nI L)])), (tb, .inl (cB, 9000, .inl ft)), (aB, .inr (0, [.ref sa, .ref bb, .int us])), (sa, .inl (cS, 32, .inr (.inr (.inr (.inr g))))), (bb, .inl (cB, 4000, .inl f))] ++ famN 32 ad le tu vo sr lo fr) s.heap.size = A at hD hZ ⊢
  have hA : ∀ q : Nat, s.heap.size ≤ q → A q := fun q h => by rw [← hAe]; exact Or.inr h
  have hl := lv_entry ([.ref ta, .ref aB, .int nx]) (n := 8) (Nat.le_of_ble_eq_true rfl)
  rw [lg_entry_eq]
  generalize (lg_sl ([.ref ta, .ref aB, .int nx]) ++ List.replicate (8 - (lg_sl ([.ref ta, .ref aB, .int nx])).length) Slot.unset).toArray = ls at hl ⊢
  have hl : lv_has ls 8 [(0, .ref ta), (1, .ref aB), (2, .int nx)] := hl
  refine g_start (A := A) hP (fun H locs hP hS => ?_)
  refine lv_iload_n hx hb dX9_writeSamples_0 rfl (lv_at hl 2 rfl) ?_
  refine lv_istore_n (lv' := [(3, .int nx), (0, .ref ta), (1, .ref aB), (2, .int nx)]) hx hb dX9_writeSamples_1 rfl hl (by decide) rfl (fun ls hl => ?_)
  refine lv_iconst (v := 1) hx hb dX9_writeSamples_2 (by decide) ?_
  refine lv_istore (lv' := [(4, .int 1), (3, .int nx), (0, .ref ta), (1, .ref aB), (2, .int nx)]) hx hb dX9_writeSamples_3 hl (by decide) rfl (fun ls hl => ?_)
  have hP : va_P (dC, dI) vwCl ([(ta, .inr (7, [.ref tb, .int (nI L)])), (tb, .inl (cB, 9000, .inl ft)), (aB, .inr (0, [.ref sa, .ref bb, .int us])), (sa, .inl (cS, 32, .inr (.inr (.inr (.inr g))))), (bb, .inl (cB, 4000, .inl f))] ++ famN 32 ad le tu vo sr lo fr) H := hP
  have hD : va_D A ([(ta, .inr (7, [.ref tb, .int (nI L)])), (tb, .inl (cB, 9000, .inl ft)), (aB, .inr (0, [.ref sa, .ref bb, .int us])), (sa, .inl (cS, 32, .inr (.inr (.inr (.inr g))))), (bb, .inl (cB, 4000, .inl f))] ++ famN 32 ad le tu vo sr lo fr) := hD
  have LP5 : ∀ (fu5 : Nat) (q5 : Nat) (L1_ : Nat) (ft1 : Nat → Int32) (nx1 : Int32) (hq5a : 1 ≤ q5) (hq5 : q5 ≤ 32) (hL1 : L1_ ≤ 9000) (hm5 : 32 - q5 < fu5) (H : Heap) (locs : List Loc), va_P (dC, dI) vwCl ([(ta, .inr (7, [.ref tb, .int (nI L1_)])), (tb, .inl (cB, 9000, .inl ft1)), (aB, .inr (0, [.ref sa, .ref bb, .int us])), (sa, .inl (cS, 32, .inr (.inr (.inr (.inr g))))), (bb, .inl (cB, 4000, .inl f))] ++ famN 32 ad le tu vo sr lo fr) H → va_D A ([(ta, .inr (7, [.ref tb, .int (nI L1_)])), (tb, .inl (cB, 9000, .inl ft1)), (aB, .inr (0, [.ref sa, .ref bb, .int us])), (sa, .inl (cS, 32, .inr (.inr (.inr (.inr g))))), (bb, .inl (cB, 4000, .inl f))] ++ famN 32 ad le tu vo sr lo fr) → va_S A s.heap H locs → ∀ ls : Array Slot, lv_has ls 8 [(4, .int (nI q5)), (3, .int nx1), (0, .ref ta), (1, .ref aB)] → W p l e ({ frames := 3, cells := 0, slots := 0, locals := 66 }) s m ([.ref ta, .ref aB, .int nx] : List Value).toArray below meth c H locs (0) (0) (MQ below (va_Qv (fun u : va_W × gT => ∃ (L2 : Nat) (f2 : Nat → Int32), u = (([(ta, .inr (7, [.ref tb, .int (nI L2)])), (tb, .inl (cB, 9000, .inl f2)), (aB, .inr (0, [.ref sa, .ref bb, .int us])), (sa, .inl (cS, 32, .inr (.inr (.inr (.inr g))))), (bb, .inl (cB, 4000, .inl f))] ++ famN 32 ad le tu vo sr lo fr), []) ∧ L2 ≤ 9000) (gB (dC, dI) A) A) ([.ref ta, .ref aB, .int nx] : List Value).toArray s 0 0 A) (F0 m 5 ls []) := by
    intro fu5
    induction fu5 with
    | zero => intro q5 L1_ ft1 nx1 hq5a hq5 hL1 hm5; exact absurd hm5 (Nat.not_lt_zero _)
    | succ fu5 ih5 =>
      intro q5 L1_ ft1 nx1 hq5a hq5 hL1 hm5 H locs hP hD hS ls hl
      refine lv_iload hx hb dX9_writeSamples_5 (lv_at hl 0 rfl) ?_
      refine lv_bipush (v := 31) hx hb dX9_writeSamples_7 (by decide) ?_
      refine lv_icmp_gt (tgt := 155) hx hb dX9_writeSamples_9 (by decide) (fun c_9 => ?_) (fun c_9 => ?_)
      · have hP9 := hP
        have hD9 := hD
        have hK9 := hK.sub (tys' := []) [] rfl
        exact W.vret hx hb hr (fun t ht hW => ⟨⟨_, rfl, ⟨L1_, ft1, rfl, hL1⟩, by rw [ht]; exact hP9, va_K.moved hW.alike hK9, hD9⟩, hS.F ht⟩) hS.2.2 dX9_writeSamples_155
      have hq3 : q5 < 32 := by have := nI_nlt2 (a := 31) c_9 (by omega); omega
      refine lv_iload hx hb dX9_writeSamples_12 (lv_at hl 0 rfl) ?_
      refine g_calliQ (X := [(ta, .inr (7, [.ref tb, .int (nI L1_)])), (tb, .inl (cB, 9000, .inl ft1)), (aB, .inr (0, [.ref sa, .ref bb, .int us])), (sa, .inl (cS, 32, .inr (.inr (.inr (.inr g))))), (bb, .inl (cB, 4000, .inl f))]) (wr := [(ta, .inr (7, [.ref tb, .int (nI L1_)])), (tb, .inl (cB, 9000, .inl ft1)), (aB, .inr (0, [.ref sa, .ref bb, .int us])), (sa, .inl (cS, 32, .inr (.inr (.inr (.inr g))))), (bb, .inl (cB, 4000, .inl f))]) (va_runS (As := [.int (nI q5)]) (rest := []) ⟨hx, hb, hml, hown, hts⟩ (c_sampleAt l dC dI H.size q5 (hq5a)) (va_cwS 1 hts (gG_S kw_496 kw_307 kw_30 kw_308) rfl rfl rfl (by decide +kernel) ⟨Nat.le_of_ble_eq_true rfl, Nat.le_of_ble_eq_true rfl⟩) (g_preS (ws := [(ta, .inr (7, [.ref tb, .int (nI L1_)])), (tb, .inl (cB, 9000, .inl ft1)), (aB, .inr (0, [.ref sa, .ref bb, .int us])), (sa, .inl (cS, 32, .inr (.inr (.inr (.inr g))))), (bb, .inl (cB, 4000, .inl f))]) hP.left hD.left hK hS hA hN hZ [] (by decide) rfl [] rfl) rfl rfl hl.1 rfl (lv_room (Nat.le_of_ble_eq_true rfl)) dX9_writeSamples_14 ⟨Nat.le_of_ble_eq_true rfl, Nat.le_of_ble_eq_true rfl⟩) hP hD hK hS hA [] [0, 1, 2, 3, 4] rfl rfl (by decide) (by decide) (fun r_14 w ty1 H locs hw_14 hP hD _ hS => ?_)
      rcases hw_14 with ⟨hu, hr_14⟩
      cases hu
      have hP : va_P (dC, dI) vwCl ([(ta, .inr (7, [.ref tb, .int (nI L1_)])), (tb, .inl (cB, 9000, .inl ft1)), (aB, .inr (0, [.ref sa, .ref bb, .int us])), (sa, .inl (cS, 32, .inr (.inr (.inr (.inr g))))), (bb, .inl (cB, 4000, .inl f))] ++ famN 32 ad le tu vo sr lo fr) H := hP
      have hD : va_D A ([(ta, .inr (7, [.ref tb, .int (nI L1_)])), (tb, .inl (cB, 9000, .inl ft1)), (aB, .inr (0, [.ref sa, .ref bb, .int us])), (sa, .inl (cS, 32, .inr (.inr (.inr (.inr g))))), (bb, .inl (cB, 4000, .inl f))] ++ famN 32 ad le tu vo sr lo fr) := hD
      refine g_topi (y := nI (20 + 30 * (q5 - 1))) hr_14 ?_
      refine lv_istore (lv' := [(5, .int (nI (20 + 30 * (q5 - 1)))), (4, .int (nI q5)), (3, .int nx1), (0, .ref ta), (1, .ref aB)]) hx hb dX9_writeSamples_17 hl (by decide) rfl (fun ls hl => ?_)
      refine lv_aload_n hx hb dX9_writeSamples_19 rfl (lv_at hl 4 rfl) ?_
      refine lv_iload hx hb dX9_writeSamples_20 (lv_at hl 1 rfl) ?_
      refine g_callqQ (X := [(ta, .inr (7, [.ref tb, .int (nI L1_)])), (tb, .inl (cB, 9000, .inl ft1)), (aB, .inr (0, [.ref sa, .ref bb, .int us])), (sa, .inl (cS, 32, .inr (.inr (.inr (.inr g))))), (bb, .inl (cB, 4000, .inl f))]) (wr := [(ta, .inr (7, [.ref tb, .int (nI L1_)])), (tb, .inl (cB, 9000, .inl ft1)), (bb, .inl (cB, 4000, .inl f))]) (va_runV (As := [.int (nI q5)]) (rest := []) ⟨hx, hb, hml, hown, hts⟩ (c_get l dC dI H.size aB sa bb us ad cS g q5 (hg) (hq3)) (cwV 1 hts (gG_V kw_497 kw_405 kw_406 kw_22 kw_407) rfl rfl rfl (by decide +kernel) ⟨Nat.le_of_ble_eq_true rfl, Nat.le_of_ble_eq_true rfl⟩) (g_preV (ws := [(ta, .inr (7, [.ref tb, .int (nI L1_)])), (tb, .inl (cB, 9000, .inl ft1)), (aB, .inr (0, [.ref sa, .ref bb, .int us])), (sa, .inl (cS, 32, .inr (.inr (.inr (.inr g))))), (bb, .inl (cB, 4000, .inl f))]) (C := RX0) (T := TX0) (N := 3) hP.left hD.left hK hS hA hN hZ (q0 := 2) rfl rfl [2, 3] (by decide) rfl [1] rfl) rfl rfl hl.1 rfl (lv_room (Nat.le_of_ble_eq_true rfl)) dX9_writeSamples_22 ⟨Nat.le_of_ble_eq_true rfl, Nat.le_of_ble_eq_true rfl⟩) hP hD hK hS hA [2, 3] [0, 1, 4] rfl rfl (by decide) (by decide) (fun r_22 w ty1 H locs hw_22 hP hD _ hS => ?_)
      rcases hw_22 with ⟨hu, hr_22⟩
      cases hu
      have hP : va_P (dC, dI) vwCl ([(ta, .inr (7, [.ref tb, .int (nI L1_)])), (tb, .inl (cB, 9000, .inl ft1)), (bb, .inl (cB, 4000, .inl f)), (aB, .inr (0, [.ref sa, .ref bb, .int us])), (sa, .inl (cS, 32, .inr (.inr (.inr (.inr g)))))] ++ famN 32 ad le tu vo sr lo fr) H := hP
      have hD : va_D A ([(ta, .inr (7, [.ref tb, .int (nI L1_)])), (tb, .inl (cB, 9000, .inl ft1)), (bb, .inl (cB, 4000, .inl f)), (aB, .inr (0, [.ref sa, .ref bb, .int us])), (sa, .inl (cS, 32, .inr (.inr (.inr (.inr g)))))] ++ famN 32 ad le tu vo sr lo fr) := hD
      subst hr_22
      refine W.eq (g2 := F0 m 25 ls [.ref (ad q5)]) rfl ?_
      refine lv_astore (lv' := [(6, .ref (ad q5)), (5, .int (nI (20 + 30 * (q5 - 1)))), (4, .int (nI q5)), (3, .int nx1), (0, .ref ta), (1, .ref aB)]) hx hb dX9_writeSamples_25 hl (by decide) rfl (fun ls hl => ?_)
      refine lv_aload_n hx hb dX9_writeSamples_27 rfl (lv_at hl 4 rfl) ?_
      refine lv_iload hx hb dX9_writeSamples_28 (lv_at hl 1 rfl) ?_
      refine lv_bipush (v := 22) hx hb dX9_writeSamples_30 (by decide) ?_
      refine lv_iadd hx hb dX9_writeSamples_32 ?_
      refine lv_topi (fun tv_32 etv_32 => ?_)
      refine lv_aload hx hb dX9_writeSamples_33 (lv_at hl 0 rfl) ?_
      refine va_get (D := (dC, dI)) (ci := 5) (v := .int (le q5)) (C := RX5) (T := TX5) (N := 6) hx hb hts iwX5 hown hK hP _ (fam_at (k := q5) (hq3)) rfl 0 (by decide) (hts (.fieldLink RX9 64 "ModulePlayer$Sample" "length" "I") (List.mem_cons_of_mem _ kw_491)) (fun _ h9 => h9) rfl dX9_writeSamples_35 ?_
      refine lv_topi (fun tv_35 etv_35 => ?_)
      refine lv_iconst (v := 2) hx hb dX9_writeSamples_38 (by decide) ?_
      refine lv_idiv hx hb dX9_writeSamples_39 (by decide) ?_
      refine lv_topi (fun tv_39 etv_39 => ?_)
      refine g_callvQ (X := [(ta, .inr (7, [.ref tb, .int (nI L1_)])), (tb, .inl (cB, 9000, .inl ft1)), (bb, .inl (cB, 4000, .inl f)), (aB, .inr (0, [.ref sa, .ref bb, .int us])), (sa, .inl (cS, 32, .inr (.inr (.inr (.inr g)))))]) (wr := [(bb, .inl (cB, 4000, .inl f)), (aB, .inr (0, [.ref sa, .ref bb, .int us])), (sa, .inl (cS, 32, .inr (.inr (.inr (.inr g)))))]) (va_runV (As := [.int tv_32, .int tv_39]) (rest := []) ⟨hx, hb, hml, hown, hts⟩ (k_putPair l dC dI H.size ta tb cB ft1 L1_ tv_32 tv_39 (hL1)) (cwV 2 hts (gG_V kw_498 kw_499 kw_500 kw_18 kw_501) rfl rfl rfl (by decide +kernel) ⟨Nat.le_of_ble_eq_true rfl, Nat.le_of_ble_eq_true rfl⟩) (g_preV (ws := [(ta, .inr (7, [.ref tb, .int (nI L1_)])), (tb, .inl (cB, 9000, .inl ft1)), (bb, .inl (cB, 4000, .inl f)), (aB, .inr (0, [.ref sa, .ref bb, .int us])), (sa, .inl (cS, 32, .inr (.inr (.inr (.inr g)))))]) (C := RX7) (T := TX7) (N := 2) hP.left hD.left hK hS hA hN hZ (q0 := 0) rfl rfl [0, 1] (by decide) rfl [0] rfl) rfl rfl hl.1 rfl (lv_room (Nat.le_of_ble_eq_true rfl)) dX9_writeSamples_40 ⟨Nat.le_of_ble_eq_true rfl, Nat.le_of_ble_eq_true rfl⟩) hP hD hK hS hA [0, 1] [2, 3, 4] rfl rfl (by decide) (by decide) (fun w ty1 H locs hw_40 hP hD _ hS => ?_)
      rcases hw_40 with ⟨L2_40, f2_40, hu, hL2_40⟩
      cases hu
      have hP : va_P (dC, dI) vwCl ([(bb, .inl (cB, 4000, .inl f)), (aB, .inr (0, [.ref sa, .ref bb, .int us])), (sa, .inl (cS, 32, .inr (.inr (.inr (.inr g))))), (ta, .inr (7, [.ref tb, .int (nI L2_40)])), (tb, .inl (cB, 9000, .inl f2_40))] ++ famN 32 ad le tu vo sr lo fr) H := hP
      have hD : va_D A ([(bb, .inl (cB, 4000, .inl f)), (aB, .inr (0, [.ref sa, .ref bb, .int us])), (sa, .inl (cS, 32, .inr (.inr (.inr (.inr g))))), (ta, .inr (7, [.ref tb, .int (nI L2_40)])), (tb, .inl (cB, 9000, .inl f2_40))] ++ famN 32 ad le tu vo sr lo fr) := hD
      refine lv_aload_n hx hb dX9_writeSamples_43 rfl (lv_at hl 4 rfl) ?_
      refine lv_iload hx hb dX9_writeSamples_44 (lv_at hl 1 rfl) ?_
      refine lv_bipush (v := 24) hx hb dX9_writeSamples_46 (by decide) ?_
      refine lv_iadd hx hb dX9_writeSamples_48 ?_
      refine lv_topi (fun tv_48 etv_48 => ?_)
      refine lv_aload hx hb dX9_writeSamples_49 (lv_at hl 0 rfl) ?_
      refine va_get (D := (dC, dI)) (ci := 5) (v := .int (tu q5)) (C := RX5) (T := TX5) (N := 6) hx hb hts iwX5 hown hK hP _ (fam_at (k := q5) (hq3)) rfl 1 (by decide) (hts (.fieldLink RX9 70 "ModulePlayer$Sample" "tune" "I") (List.mem_cons_of_mem _ kw_492)) (fun _ h9 => h9) rfl dX9_writeSamples_51 ?_
      refine lv_topi (fun tv_51 etv_51 => ?_)
      refine lv_bipush (v := 15) hx hb dX9_writeSamples_54 (by decide) ?_
      refine lv_iand hx hb dX9_writeSamples_56 ?_
      refine lv_topi (fun tv_56 etv_56 => ?_)
      refine g_callvQ (X := [(bb, .inl (cB, 4000, .inl f)), (aB, .inr (0, [.ref sa, .ref bb, .int us])), (sa, .inl (cS, 32, .inr (.inr (.inr (.inr g))))), (ta, .inr (7, [.ref tb, .int (nI L2_40)])), (tb, .inl (cB, 9000, .inl f2_40))]) (wr := [(bb, .inl (cB, 4000, .inl f)), (aB, .inr (0, [.ref sa, .ref bb, .int us])), (sa, .inl (cS, 32, .inr (.inr (.inr (.inr g)))))]) (va_runV (As := [.int tv_48, .int tv_56]) (rest := []) ⟨hx, hb, hml, hown, hts⟩ (k_put l dC dI H.size ta tb cB f2_40 L2_40 tv_48 tv_56 (hL2_40)) (cwV 2 hts (gG_V kw_474 kw_243 kw_244 kw_18 kw_245) rfl rfl rfl (by decide +kernel) ⟨Nat.le_of_ble_eq_true rfl, Nat.le_of_ble_eq_true rfl⟩) (g_preV (ws := [(bb, .inl (cB, 4000, .inl f)), (aB, .inr (0, [.ref sa, .ref bb, .int us])), (sa, .inl (cS, 32, .inr (.inr (.inr (.inr g))))), (ta, .inr (7, [.ref tb, .int (nI L2_40)])), (tb, .inl (cB, 9000, .inl f2_40))]) (C := RX7) (T := TX7) (N := 2) hP.left hD.left hK hS hA hN hZ (q0 := 3) rfl rfl [3, 4] (by decide) rfl [0] rfl) rfl rfl hl.1 rfl (lv_room (Nat.le_of_ble_eq_true rfl)) dX9_writeSamples_57 ⟨Nat.le_of_ble_eq_true rfl, Nat.le_of_ble_eq_true rfl⟩) hP hD hK hS hA [3, 4] [0, 1, 2] rfl rfl (by decide) (by decide) (fun w ty1 H locs hw_57 hP hD _ hS => ?_)
      rcases hw_57 with ⟨L2_57, f2_57, hu, hL2_57⟩
      cases hu
      have hP : va_P (dC, dI) vwCl ([(bb, .inl (cB, 4000, .inl f)), (aB, .inr (0, [.ref sa, .ref bb, .int us])), (sa, .inl (cS, 32, .inr (.inr (.inr (.inr g))))), (ta, .inr (7, [.ref tb, .int (nI L2_57)])), (tb, .inl (cB, 9000, .inl f2_57))] ++ famN 32 ad le tu vo sr lo fr) H := hP
      have hD : va_D A ([(bb, .inl (cB, 4000, .inl f)), (aB, .inr (0, [.ref sa, .ref bb, .int us])), (sa, .inl (cS, 32, .inr (.inr (.inr (.inr g))))), (ta, .inr (7, [.ref tb, .int (nI L2_57)])), (tb, .inl (cB, 9000, .inl f2_57))] ++ famN 32 ad le tu vo sr lo fr) := hD
      refine lv_aload_n hx hb dX9_writeSamples_60 rfl (lv_at hl 4 rfl) ?_
      refine lv_iload hx hb dX9_writeSamples_61 (lv_at hl 1 rfl) ?_
      refine lv_bipush (v := 25) hx hb dX9_writeSamples_63 (by decide) ?_
      refine lv_iadd hx hb dX9_writeSamples_65 ?_
      refine lv_topi (fun tv_65 etv_65 => ?_)
      refine lv_aload hx hb dX9_writeSamples_66 (lv_at hl 0 rfl) ?_
      refine va_get (D := (dC, dI)) (ci := 5) (v := .int (vo q5)) (C := RX5) (T := TX5) (N := 6) hx hb hts iwX5 hown hK hP _ (fam_at (k := q5) (hq3)) rfl 2 (by decide) (hts (.fieldLink RX9 73 "ModulePlayer$Sample" "volume" "I") (List.mem_cons_of_mem _ kw_493)) (fun _ h9 => h9) rfl dX9_writeSamples_68 ?_
      refine lv_topi (fun tv_68 etv_68 => ?_)
      refine g_callvQ (X := [(bb, .inl (cB, 4000, .inl f)), (aB, .inr (0, [.ref sa, .ref bb, .int us])), (sa, .inl (cS, 32, .inr (.inr (.inr (.inr g))))), (ta, .inr (7, [.ref tb, .int (nI L2_57)])), (tb, .inl (cB, 9000, .inl f2_57))]) (wr := [(bb, .inl (cB, 4000, .inl f)), (aB, .inr (0, [.ref sa, .ref bb, .int us])), (sa, .inl (cS, 32, .inr (.inr (.inr (.inr g)))))]) (va_runV (As := [.int tv_65, .int tv_68]) (rest := []) ⟨hx, hb, hml, hown, hts⟩ (k_put l dC dI H.size ta tb cB f2_57 L2_57 tv_65 tv_68 (hL2_57)) (cwV 2 hts (gG_V kw_474 kw_243 kw_244 kw_18 kw_245) rfl rfl rfl (by decide +kernel) ⟨Nat.le_of_ble_eq_true rfl, Nat.le_of_ble_eq_true rfl⟩) (g_preV (ws := [(bb, .inl (cB, 4000, .inl f)), (aB, .inr (0, [.ref sa, .ref bb, .int us])), (sa, .inl (cS, 32, .inr (.inr (.inr (.inr g))))), (ta, .inr (7, [.ref tb, .int (nI L2_57)])), (tb, .inl (cB, 9000, .inl f2_57))]) (C := RX7) (T := TX7) (N := 2) hP.left hD.left hK hS hA hN hZ (q0 := 3) rfl rfl [3, 4] (by decide) rfl [0] rfl) rfl rfl hl.1 rfl (lv_room (Nat.le_of_ble_eq_true rfl)) dX9_writeSamples_71 ⟨Nat.le_of_ble_eq_true rfl, Nat.le_of_ble_eq_true rfl⟩) hP hD hK hS hA [3, 4] [0, 1, 2] rfl rfl (by decide) (by decide) (fun w ty1 H locs hw_71 hP hD _ hS => ?_)
      rcases hw_71 with ⟨L2_71, f2_71, hu, hL2_71⟩
      cases hu
      have hP : va_P (dC, dI) vwCl ([(bb, .inl (cB, 4000, .inl f)), (aB, .inr (0, [.ref sa, .ref bb, .int us])), (sa, .inl (cS, 32, .inr (.inr (.inr (.inr g))))), (ta, .inr (7, [.ref tb, .int (nI L2_71)])), (tb, .inl (cB, 9000, .inl f2_71))] ++ famN 32 ad le tu vo sr lo fr) H := hP
      have hD : va_D A ([(bb, .inl (cB, 4000, .inl f)), (aB, .inr (0, [.ref sa, .ref bb, .int us])), (sa, .inl (cS, 32, .inr (.inr (.inr (.inr g))))), (ta, .inr (7, [.ref tb, .int (nI L2_71)])), (tb, .inl (cB, 9000, .inl f2_71))] ++ famN 32 ad le tu vo sr lo fr) := hD
      refine lv_aload_n hx hb dX9_writeSamples_74 rfl (lv_at hl 4 rfl) ?_
      refine lv_iload hx hb dX9_writeSamples_75 (lv_at hl 1 rfl) ?_
      refine lv_bipush (v := 26) hx hb dX9_writeSamples_77 (by decide) ?_
      refine lv_iadd hx hb dX9_writeSamples_79 ?_
      refine lv_topi (fun tv_79 etv_79 => ?_)
      refine lv_aload hx hb dX9_writeSamples_80 (lv_at hl 0 rfl) ?_
      refine va_get (D := (dC, dI)) (ci := 5) (v := .int (sr q5)) (C := RX5) (T := TX5) (N := 6) hx hb hts iwX5 hown hK hP _ (fam_at (k := q5) (hq3)) rfl 3 (by decide) (hts (.fieldLink RX9 76 "ModulePlayer$Sample" "start" "I") (List.mem_cons_of_mem _ kw_494)) (fun _ h9 => h9) rfl dX9_writeSamples_82 ?_
      refine lv_topi (fun tv_82 etv_82 => ?_)
      refine lv_iconst (v := 2) hx hb dX9_writeSamples_85 (by decide) ?_
      refine lv_idiv hx hb dX9_writeSamples_86 (by decide) ?_
      refine lv_topi (fun tv_86 etv_86 => ?_)
      refine g_callvQ (X := [(bb, .inl (cB, 4000, .inl f)), (aB, .inr (0, [.ref sa, .ref bb, .int us])), (sa, .inl (cS, 32, .inr (.inr (.inr (.inr g))))), (ta, .inr (7, [.ref tb, .int (nI L2_71)])), (tb, .inl (cB, 9000, .inl f2_71))]) (wr := [(bb, .inl (cB, 4000, .inl f)), (aB, .inr (0, [.ref sa, .ref bb, .int us])), (sa, .inl (cS, 32, .inr (.inr (.inr (.inr g)))))]) (va_runV (As := [.int tv_79, .int tv_86]) (rest := []) ⟨hx, hb, hml, hown, hts⟩ (k_putPair l dC dI H.size ta tb cB f2_71 L2_71 tv_79 tv_86 (hL2_71)) (cwV 2 hts (gG_V kw_498 kw_499 kw_500 kw_18 kw_501) rfl rfl rfl (by decide +kernel) ⟨Nat.le_of_ble_eq_true rfl, Nat.le_of_ble_eq_true rfl⟩) (g_preV (ws := [(bb, .inl (cB, 4000, .inl f)), (aB, .inr (0, [.ref sa, .ref bb, .int us])), (sa, .inl (cS, 32, .inr (.inr (.inr (.inr g))))), (ta, .inr (7, [.ref tb, .int (nI L2_71)])), (tb, .inl (cB, 9000, .inl f2_71))]) (C := RX7) (T := TX7) (N := 2) hP.left hD.left hK hS hA hN hZ (q0 := 3) rfl rfl [3, 4] (by decide) rfl [0] rfl) rfl rfl hl.1 rfl (lv_room (Nat.le_of_ble_eq_true rfl)) dX9_writeSamples_87 ⟨Nat.le_of_ble_eq_true rfl, Nat.le_of_ble_eq_true rfl⟩) hP hD hK hS hA [3, 4] [0, 1, 2] rfl rfl (by decide) (by decide) (fun w ty1 H locs hw_87 hP hD _ hS => ?_)
      rcases hw_87 with ⟨L2_87, f2_87, hu, hL2_87⟩
      cases hu
      have hP : va_P (dC, dI) vwCl ([(bb, .inl (cB, 4000, .inl f)), (aB, .inr (0, [.ref sa, .ref bb, .int us])), (sa, .inl (cS, 32, .inr (.inr (.inr (.inr g))))), (ta, .inr (7, [.ref tb, .int (nI L2_87)])), (tb, .inl (cB, 9000, .inl f2_87))] ++ famN 32 ad le tu vo sr lo fr) H := hP
      have hD : va_D A ([(bb, .inl (cB, 4000, .inl f)), (aB, .inr (0, [.ref sa, .ref bb, .int us])), (sa, .inl (cS, 32, .inr (.inr (.inr (.inr g))))), (ta, .inr (7, [.ref tb, .int (nI L2_87)])), (tb, .inl (cB, 9000, .inl f2_87))] ++ famN 32 ad le tu vo sr lo fr) := hD
      refine lv_aload_n hx hb dX9_writeSamples_90 rfl (lv_at hl 4 rfl) ?_
      refine lv_iload hx hb dX9_writeSamples_91 (lv_at hl 1 rfl) ?_
      refine lv_bipush (v := 28) hx hb dX9_writeSamples_93 (by decide) ?_
      refine lv_iadd hx hb dX9_writeSamples_95 ?_
      refine lv_topi (fun tv_95 etv_95 => ?_)
      refine lv_aload hx hb dX9_writeSamples_96 (lv_at hl 0 rfl) ?_
      refine va_get (D := (dC, dI)) (ci := 5) (v := .int (lo q5)) (C := RX5) (T := TX5) (N := 6) hx hb hts iwX5 hown hK hP _ (fam_at (k := q5) (hq3)) rfl 4 (by decide) (hts (.fieldLink RX9 79 "ModulePlayer$Sample" "loop" "I") (List.mem_cons_of_mem _ kw_495)) (fun _ h9 => h9) rfl dX9_writeSamples_98 ?_
      refine lv_topi (fun tv_98 etv_98 => ?_)
      refine lv_iconst (v := 2) hx hb dX9_writeSamples_101 (by decide) ?_
      refine lv_idiv hx hb dX9_writeSamples_102 (by decide) ?_
      refine lv_topi (fun tv_102 etv_102 => ?_)
      refine g_callvQ (X := [(bb, .inl (cB, 4000, .inl f)), (aB, .inr (0, [.ref sa, .ref bb, .int us])), (sa, .inl (cS, 32, .inr (.inr (.inr (.inr g))))), (ta, .inr (7, [.ref tb, .int (nI L2_87)])), (tb, .inl (cB, 9000, .inl f2_87))]) (wr := [(bb, .inl (cB, 4000, .inl f)), (aB, .inr (0, [.ref sa, .ref bb, .int us])), (sa, .inl (cS, 32, .inr (.inr (.inr (.inr g)))))]) (va_runV (As := [.int tv_95, .int tv_102]) (rest := []) ⟨hx, hb, hml, hown, hts⟩ (k_putPair l dC dI H.size ta tb cB f2_87 L2_87 tv_95 tv_102 (hL2_87)) (cwV 2 hts (gG_V kw_498 kw_499 kw_500 kw_18 kw_501) rfl rfl rfl (by decide +kernel) ⟨Nat.le_of_ble_eq_true rfl, Nat.le_of_ble_eq_true rfl⟩) (g_preV (ws := [(bb, .inl (cB, 4000, .inl f)), (aB, .inr (0, [.ref sa, .ref bb, .int us])), (sa, .inl (cS, 32, .inr (.inr (.inr (.inr g))))), (ta, .inr (7, [.ref tb, .int (nI L2_87)])), (tb, .inl (cB, 9000, .inl f2_87))]) (C := RX7) (T := TX7) (N := 2) hP.left hD.left hK hS hA hN hZ (q0 := 3) rfl rfl [3, 4] (by decide) rfl [0] rfl) rfl rfl hl.1 rfl (lv_room (Nat.le_of_ble_eq_true rfl)) dX9_writeSamples_103 ⟨Nat.le_of_ble_eq_true rfl, Nat.le_of_ble_eq_true rfl⟩) hP hD hK hS hA [3, 4] [0, 1, 2] rfl rfl (by decide) (by decide) (fun w ty1 H locs hw_103 hP hD _ hS => ?_)
      rcases hw_103 with ⟨L2_103, f2_103, hu, hL2_103⟩
      cases hu
      have hP : va_P (dC, dI) vwCl ([(bb, .inl (cB, 4000, .inl f)), (aB, .inr (0, [.ref sa, .ref bb, .int us])), (sa, .inl (cS, 32, .inr (.inr (.inr (.inr g))))), (ta, .inr (7, [.ref tb, .int (nI L2_103)])), (tb, .inl (cB, 9000, .inl f2_103))] ++ famN 32 ad le tu vo sr lo fr) H := hP
      have hD : va_D A ([(bb, .inl (cB, 4000, .inl f)), (aB, .inr (0, [.ref sa, .ref bb, .int us])), (sa, .inl (cS, 32, .inr (.inr (.inr (.inr g))))), (ta, .inr (7, [.ref tb, .int (nI L2_103)])), (tb, .inl (cB, 9000, .inl f2_103))] ++ famN 32 ad le tu vo sr lo fr) := hD
      refine lv_iconst (v := 0) hx hb dX9_writeSamples_106 (by decide) ?_
      refine lv_istore (lv' := [(7, .int 0), (6, .ref (ad q5)), (5, .int (nI (20 + 30 * (q5 - 1)))), (4, .int (nI q5)), (3, .int nx1), (0, .ref ta), (1, .ref aB)]) hx hb dX9_writeSamples_107 hl (by decide) rfl (fun ls hl => ?_)
      obtain ⟨hTz, ehTz⟩ : ∃ xx : Nat, xx = (le q5).toInt.toNat := ⟨_, rfl⟩
      have hP := va_P.part (X := [(bb, .inl (cB, 4000, .inl f)), (aB, .inr (0, [.ref sa, .ref bb, .int us])), (sa, .inl (cS, 32, .inr (.inr (.inr (.inr g))))), (ta, .inr (7, [.ref tb, .int (nI L2_103)])), (tb, .inl (cB, 9000, .inl f2_103))]) (cx := [(ta, .inr (7, [.ref tb, .int (nI L2_103)])), (tb, .inl (cB, 9000, .inl f2_103)), (aB, .inr (0, [.ref sa, .ref bb, .int us])), (sa, .inl (cS, 32, .inr (.inr (.inr (.inr g))))), (bb, .inl (cB, 4000, .inl f))]) hP [3, 4, 1, 2, 0] rfl
      have hD := va_D.part (X := [(bb, .inl (cB, 4000, .inl f)), (aB, .inr (0, [.ref sa, .ref bb, .int us])), (sa, .inl (cS, 32, .inr (.inr (.inr (.inr g))))), (ta, .inr (7, [.ref tb, .int (nI L2_103)])), (tb, .inl (cB, 9000, .inl f2_103))]) (cx := [(ta, .inr (7, [.ref tb, .int (nI L2_103)])), (tb, .inl (cB, 9000, .inl f2_103)), (aB, .inr (0, [.ref sa, .ref bb, .int us])), (sa, .inl (cS, 32, .inr (.inr (.inr (.inr g))))), (bb, .inl (cB, 4000, .inl f))]) hD [3, 4, 1, 2, 0] (by decide) rfl
      have hP : va_P (dC, dI) vwCl ([(ta, .inr (7, [.ref tb, .int (nI L2_103)])), (tb, .inl (cB, 9000, .inl f2_103)), (aB, .inr (0, [.ref sa, .ref bb, .int us])), (sa, .inl (cS, 32, .inr (.inr (.inr (.inr g))))), (bb, .inl (cB, 4000, .inl f))] ++ famN 32 ad le tu vo sr lo fr) H := hP
      have hD : va_D A ([(ta, .inr (7, [.ref tb, .int (nI L2_103)])), (tb, .inl (cB, 9000, .inl f2_103)), (aB, .inr (0, [.ref sa, .ref bb, .int us])), (sa, .inl (cS, 32, .inr (.inr (.inr (.inr g))))), (bb, .inl (cB, 4000, .inl f))] ++ famN 32 ad le tu vo sr lo fr) := hD
      have LP109 : ∀ (fu109 : Nat) (q109 : Nat) (Lc : Nat) (ftc : Nat → Int32) (hq109 : q109 < 2147483648) (hLc : Lc ≤ 9000) (hm109 : hTz - q109 < fu109) (H : Heap) (locs : List Loc), va_P (dC, dI) vwCl ([(ta, .inr (7, [.ref tb, .int (nI Lc)])), (tb, .inl (cB, 9000, .inl ftc)), (aB, .inr (0, [.ref sa, .ref bb, .int us])), (sa, .inl (cS, 32, .inr (.inr (.inr (.inr g))))), (bb, .inl (cB, 4000, .inl f))] ++ famN 32 ad le tu vo sr lo fr) H → va_D A ([(ta, .inr (7, [.ref tb, .int (nI Lc)])), (tb, .inl (cB, 9000, .inl ftc)), (aB, .inr (0, [.ref sa, .ref bb, .int us])), (sa, .inl (cS, 32, .inr (.inr (.inr (.inr g))))), (bb, .inl (cB, 4000, .inl f))] ++ famN 32 ad le tu vo sr lo fr) → va_S A s.heap H locs → ∀ ls : Array Slot, lv_has ls 8 [(7, .int (nI q109)), (6, .ref (ad q5)), (4, .int (nI q5)), (3, .int nx1), (0, .ref ta), (1, .ref aB)] → W p l e ({ frames := 3, cells := 0, slots := 0, locals := 66 }) s m ([.ref ta, .ref aB, .int nx] : List Value).toArray below meth c H locs (0) (0) (MQ below (va_Qv (fun u : va_W × gT => ∃ (L2 : Nat) (f2 : Nat → Int32), u = (([(ta, .inr (7, [.ref tb, .int (nI L2)])), (tb, .inl (cB, 9000, .inl f2)), (aB, .inr (0, [.ref sa, .ref bb, .int us])), (sa, .inl (cS, 32, .inr (.inr (.inr (.inr g))))), (bb, .inl (cB, 4000, .inl f))] ++ famN 32 ad le tu vo sr lo fr), []) ∧ L2 ≤ 9000) (gB (dC, dI) A) A) ([.ref ta, .ref aB, .int nx] : List Value).toArray s 0 0 A) (F0 m 109 ls []) := by
        intro fu109
        induction fu109 with
        | zero => intro q109 Lc ftc hq109 hLc hm109; exact absurd hm109 (Nat.not_lt_zero _)
        | succ fu109 ih109 =>
          intro q109 Lc ftc hq109 hLc hm109 H locs hP hD hS ls hl
          refine lv_iload hx hb dX9_writeSamples_109 (lv_at hl 0 rfl) ?_
          refine lv_aload hx hb dX9_writeSamples_111 (lv_at hl 1 rfl) ?_
          refine va_get (D := (dC, dI)) (ci := 5) (v := .int (le q5)) (C := RX5) (T := TX5) (N := 6) hx hb hts iwX5 hown hK hP _ (fam_at (k := q5) (hq3)) rfl 0 (by decide) (hts (.fieldLink RX9 64 "ModulePlayer$Sample" "length" "I") (List.mem_cons_of_mem _ kw_491)) (fun _ h9 => h9) rfl dX9_writeSamples_113 ?_
          refine lv_topi (fun tv_113 etv_113 => ?_)
          refine lv_icmp_ge (tgt := 141) hx hb dX9_writeSamples_116 (by decide) (fun c_116 => ?_) (fun c_116 => ?_)
          · refine lv_iload_n hx hb dX9_writeSamples_141 rfl (lv_at hl 3 rfl) ?_
            refine lv_aload hx hb dX9_writeSamples_142 (lv_at hl 1 rfl) ?_
            refine va_get (D := (dC, dI)) (ci := 5) (v := .int (le q5)) (C := RX5) (T := TX5) (N := 6) hx hb hts iwX5 hown hK hP _ (fam_at (k := q5) (hq3)) rfl 0 (by decide) (hts (.fieldLink RX9 64 "ModulePlayer$Sample" "length" "I") (List.mem_cons_of_mem _ kw_491)) (fun _ h9 => h9) rfl dX9_writeSamples_144 ?_
            refine lv_topi (fun tv_144 etv_144 => ?_)
            refine lv_iadd hx hb dX9_writeSamples_147 ?_
            refine lv_topi (fun tv_147 etv_147 => ?_)
            refine lv_istore_n (lv' := [(3, .int tv_147), (7, .int (nI q109)), (6, .ref (ad q5)), (4, .int (nI q5)), (0, .ref ta), (1, .ref aB)]) hx hb dX9_writeSamples_148 rfl hl (by decide) rfl (fun ls hl => ?_)
            refine lv_iinc (v := nI (q5 + 1)) (lv' := [(4, .int (nI (q5 + 1))), (3, .int tv_147), (7, .int (nI q109)), (6, .ref (ad q5)), (0, .ref ta), (1, .ref aB)]) hx hb dX9_writeSamples_149 hl (k := 3) rfl (nI_1 q5) (by decide) rfl (fun ls hl => ?_)
            refine lv_goto (tgt := 5) hx hb dX9_writeSamples_152 (by decide) ?_
            have hP : va_P (dC, dI) vwCl ([(ta, .inr (7, [.ref tb, .int (nI Lc)])), (tb, .inl (cB, 9000, .inl ftc)), (aB, .inr (0, [.ref sa, .ref bb, .int us])), (sa, .inl (cS, 32, .inr (.inr (.inr (.inr g))))), (bb, .inl (cB, 4000, .inl f))] ++ famN 32 ad le tu vo sr lo fr) H := hP
            have hD : va_D A ([(ta, .inr (7, [.ref tb, .int (nI Lc)])), (tb, .inl (cB, 9000, .inl ftc)), (aB, .inr (0, [.ref sa, .ref bb, .int us])), (sa, .inl (cS, 32, .inr (.inr (.inr (.inr g))))), (bb, .inl (cB, 4000, .inl f))] ++ famN 32 ad le tu vo sr lo fr) := hD
            exact ih5 (q5 + 1) Lc ftc tv_147 (by omega) (by omega) (hLc) (by omega) _ _ hP hD hS _ (lv_sub hl [0, 1, 4, 5] rfl)
          refine lv_aload_n hx hb dX9_writeSamples_119 rfl (lv_at hl 4 rfl) ?_
          refine lv_iload_n hx hb dX9_writeSamples_120 rfl (lv_at hl 3 rfl) ?_
          refine lv_iload hx hb dX9_writeSamples_121 (lv_at hl 0 rfl) ?_
          refine lv_iadd hx hb dX9_writeSamples_123 ?_
          refine lv_topi (fun tv_123 etv_123 => ?_)
          refine lv_aload_n hx hb dX9_writeSamples_124 rfl (lv_at hl 5 rfl) ?_
          refine lv_aload hx hb dX9_writeSamples_125 (lv_at hl 1 rfl) ?_
          refine lv_iload hx hb dX9_writeSamples_127 (lv_at hl 0 rfl) ?_
          refine g_calliP (X := [(ta, .inr (7, [.ref tb, .int (nI Lc)])), (tb, .inl (cB, 9000, .inl ftc)), (aB, .inr (0, [.ref sa, .ref bb, .int us])), (sa, .inl (cS, 32, .inr (.inr (.inr (.inr g))))), (bb, .inl (cB, 4000, .inl f))]) (wr := [(ta, .inr (7, [.ref tb, .int (nI Lc)])), (tb, .inl (cB, 9000, .inl ftc)), (sa, .inl (cS, 32, .inr (.inr (.inr (.inr g)))))]) (va_runV (As := [.ref (ad q5), .int (nI q109)]) (rest := [.int tv_123, .ref ta]) ⟨hx, hb, hml, hown, hts⟩ (k_getByte l dC dI H.size aB sa bb us ad cB f le tu vo sr lo fr q5 (nI q109) (hq3)) (cwV 2 hts (gG_V kw_502 kw_503 kw_504 kw_22 kw_505) rfl rfl rfl (by decide +kernel) ⟨Nat.le_of_ble_eq_true rfl, Nat.le_of_ble_eq_true rfl⟩) (g_preVP (X := [(ta, .inr (7, [.ref tb, .int (nI Lc)])), (tb, .inl (cB, 9000, .inl ftc)), (aB, .inr (0, [.ref sa, .ref bb, .int us])), (sa, .inl (cS, 32, .inr (.inr (.inr (.inr g))))), (bb, .inl (cB, 4000, .inl f))]) (C := RX0) (T := TX0) (N := 3) hP hD hK hS hA hN hZ (q0 := 2) rfl rfl [2, 4] (by decide) rfl [0] rfl) rfl rfl hl.1 rfl (lv_room (Nat.le_of_ble_eq_true rfl)) dX9_writeSamples_129 ⟨Nat.le_of_ble_eq_true rfl, Nat.le_of_ble_eq_true rfl⟩) hP hD hK hS hA [2, 4] [0, 1, 3] rfl rfl (by decide) (by decide) (fun r_129 w ty1 H locs hw_129 hJ _ hS => ?_)
          rcases hw_129 with ⟨jg_129, hu, hr_129, hjg_129, ejg_129⟩ | ⟨hu, hr_129, hjn_129⟩
          · cases hu
            obtain ⟨hP, hD⟩ := hJ _ _ rfl
            have hP : va_P (dC, dI) vwCl ([(ta, .inr (7, [.ref tb, .int (nI Lc)])), (tb, .inl (cB, 9000, .inl ftc)), (sa, .inl (cS, 32, .inr (.inr (.inr (.inr g))))), (aB, .inr (0, [.ref sa, .ref bb, .int us])), (bb, .inl (cB, 4000, .inl f))] ++ famN 32 ad le tu vo sr lo fr) H := hP
            have hD : va_D A ([(ta, .inr (7, [.ref tb, .int (nI Lc)])), (tb, .inl (cB, 9000, .inl ftc)), (sa, .inl (cS, 32, .inr (.inr (.inr (.inr g))))), (aB, .inr (0, [.ref sa, .ref bb, .int us])), (bb, .inl (cB, 4000, .inl f))] ++ famN 32 ad le tu vo sr lo fr) := hD
            refine g_topi (y := f jg_129) hr_129 ?_
            refine g_callvQ (X := [(ta, .inr (7, [.ref tb, .int (nI Lc)])), (tb, .inl (cB, 9000, .inl ftc)), (sa, .inl (cS, 32, .inr (.inr (.inr (.inr g))))), (aB, .inr (0, [.ref sa, .ref bb, .int us])), (bb, .inl (cB, 4000, .inl f))]) (wr := [(sa, .inl (cS, 32, .inr (.inr (.inr (.inr g))))), (aB, .inr (0, [.ref sa, .ref bb, .int us])), (bb, .inl (cB, 4000, .inl f))]) (va_runV (As := [.int tv_123, .int (f jg_129)]) (rest := []) ⟨hx, hb, hml, hown, hts⟩ (k_put l dC dI H.size ta tb cB ftc Lc tv_123 (f jg_129) (hLc)) (cwV 2 hts (gG_V kw_474 kw_243 kw_244 kw_18 kw_245) rfl rfl rfl (by decide +kernel) ⟨Nat.le_of_ble_eq_true rfl, Nat.le_of_ble_eq_true rfl⟩) (g_preV (ws := [(ta, .inr (7, [.ref tb, .int (nI Lc)])), (tb, .inl (cB, 9000, .inl ftc)), (sa, .inl (cS, 32, .inr (.inr (.inr (.inr g))))), (aB, .inr (0, [.ref sa, .ref bb, .int us])), (bb, .inl (cB, 4000, .inl f))]) (C := RX7) (T := TX7) (N := 2) hP.left hD.left hK hS hA hN hZ (q0 := 0) rfl rfl [0, 1] (by decide) rfl [0] rfl) rfl rfl hl.1 rfl (lv_room (Nat.le_of_ble_eq_true rfl)) dX9_writeSamples_132 ⟨Nat.le_of_ble_eq_true rfl, Nat.le_of_ble_eq_true rfl⟩) hP hD hK hS hA [0, 1] [2, 3, 4] rfl rfl (by decide) (by decide) (fun w ty1 H locs hw_132 hP hD _ hS => ?_)
            rcases hw_132 with ⟨L2_132, f2_132, hu, hL2_132⟩
            cases hu
            have hP : va_P (dC, dI) vwCl ([(sa, .inl (cS, 32, .inr (.inr (.inr (.inr g))))), (aB, .inr (0, [.ref sa, .ref bb, .int us])), (bb, .inl (cB, 4000, .inl f)), (ta, .inr (7, [.ref tb, .int (nI L2_132)])), (tb, .inl (cB, 9000, .inl f2_132))] ++ famN 32 ad le tu vo sr lo fr) H := hP
            have hD : va_D A ([(sa, .inl (cS, 32, .inr (.inr (.inr (.inr g))))), (aB, .inr (0, [.ref sa, .ref bb, .int us])), (bb, .inl (cB, 4000, .inl f)), (ta, .inr (7, [.ref tb, .int (nI L2_132)])), (tb, .inl (cB, 9000, .inl f2_132))] ++ famN 32 ad le tu vo sr lo fr) := hD
            refine lv_iinc (v := nI (q109 + 1)) (lv' := [(7, .int (nI (q109 + 1))), (6, .ref (ad q5)), (4, .int (nI q5)), (3, .int nx1), (0, .ref ta), (1, .ref aB)]) hx hb dX9_writeSamples_135 hl (k := 0) rfl (nI_1 q109) (by decide) rfl (fun ls hl => ?_)
            refine lv_goto (tgt := 109) hx hb dX9_writeSamples_138 (by decide) ?_
            have hP := va_P.part (X := [(sa, .inl (cS, 32, .inr (.inr (.inr (.inr g))))), (aB, .inr (0, [.ref sa, .ref bb, .int us])), (bb, .inl (cB, 4000, .inl f)), (ta, .inr (7, [.ref tb, .int (nI L2_132)])), (tb, .inl (cB, 9000, .inl f2_132))]) (cx := [(ta, .inr (7, [.ref tb, .int (nI L2_132)])), (tb, .inl (cB, 9000, .inl f2_132)), (aB, .inr (0, [.ref sa, .ref bb, .int us])), (sa, .inl (cS, 32, .inr (.inr (.inr (.inr g))))), (bb, .inl (cB, 4000, .inl f))]) hP [3, 4, 1, 0, 2] rfl
            have hD := va_D.part (X := [(sa, .inl (cS, 32, .inr (.inr (.inr (.inr g))))), (aB, .inr (0, [.ref sa, .ref bb, .int us])), (bb, .inl (cB, 4000, .inl f)), (ta, .inr (7, [.ref tb, .int (nI L2_132)])), (tb, .inl (cB, 9000, .inl f2_132))]) (cx := [(ta, .inr (7, [.ref tb, .int (nI L2_132)])), (tb, .inl (cB, 9000, .inl f2_132)), (aB, .inr (0, [.ref sa, .ref bb, .int us])), (sa, .inl (cS, 32, .inr (.inr (.inr (.inr g))))), (bb, .inl (cB, 4000, .inl f))]) hD [3, 4, 1, 0, 2] (by decide) rfl
            have hP : va_P (dC, dI) vwCl ([(ta, .inr (7, [.ref tb, .int (nI L2_132)])), (tb, .inl (cB, 9000, .inl f2_132)), (aB, .inr (0, [.ref sa, .ref bb, .int us])), (sa, .inl (cS, 32, .inr (.inr (.inr (.inr g))))), (bb, .inl (cB, 4000, .inl f))] ++ famN 32 ad le tu vo sr lo fr) H := hP
            have hD : va_D A ([(ta, .inr (7, [.ref tb, .int (nI L2_132)])), (tb, .inl (cB, 9000, .inl f2_132)), (aB, .inr (0, [.ref sa, .ref bb, .int us])), (sa, .inl (cS, 32, .inr (.inr (.inr (.inr g))))), (bb, .inl (cB, 4000, .inl f))] ++ famN 32 ad le tu vo sr lo fr) := hD
            exact ih109 (q109 + 1) L2_132 f2_132 (by have := ht_lt ehTz (etv_113 ▸ c_116) hq109; omega) (hL2_132) (by have := ht_lt ehTz (etv_113 ▸ c_116) hq109; omega) _ _ hP hD hS _ (lv_sub hl [0, 1, 2, 3, 4, 5] rfl)
          cases hu
          obtain ⟨hP, hD⟩ := hJ _ _ rfl
          have hP : va_P (dC, dI) vwCl ([(ta, .inr (7, [.ref tb, .int (nI Lc)])), (tb, .inl (cB, 9000, .inl ftc)), (sa, .inl (cS, 32, .inr (.inr (.inr (.inr g))))), (aB, .inr (0, [.ref sa, .ref bb, .int us])), (bb, .inl (cB, 4000, .inl f))] ++ famN 32 ad le tu vo sr lo fr) H := hP
          have hD : va_D A ([(ta, .inr (7, [.ref tb, .int (nI Lc)])), (tb, .inl (cB, 9000, .inl ftc)), (sa, .inl (cS, 32, .inr (.inr (.inr (.inr g))))), (aB, .inr (0, [.ref sa, .ref bb, .int us])), (bb, .inl (cB, 4000, .inl f))] ++ famN 32 ad le tu vo sr lo fr) := hD
          refine g_topi (y := 0) hr_129 ?_
          refine g_callvQ (X := [(ta, .inr (7, [.ref tb, .int (nI Lc)])), (tb, .inl (cB, 9000, .inl ftc)), (sa, .inl (cS, 32, .inr (.inr (.inr (.inr g))))), (aB, .inr (0, [.ref sa, .ref bb, .int us])), (bb, .inl (cB, 4000, .inl f))]) (wr := [(sa, .inl (cS, 32, .inr (.inr (.inr (.inr g))))), (aB, .inr (0, [.ref sa, .ref bb, .int us])), (bb, .inl (cB, 4000, .inl f))]) (va_runV (As := [.int tv_123, .int 0]) (rest := []) ⟨hx, hb, hml, hown, hts⟩ (k_put l dC dI H.size ta tb cB ftc Lc tv_123 0 (hLc)) (cwV 2 hts (gG_V kw_474 kw_243 kw_244 kw_18 kw_245) rfl rfl rfl (by decide +kernel) ⟨Nat.le_of_ble_eq_true rfl, Nat.le_of_ble_eq_true rfl⟩) (g_preV (ws := [(ta, .inr (7, [.ref tb, .int (nI Lc)])), (tb, .inl (cB, 9000, .inl ftc)), (sa, .inl (cS, 32, .inr (.inr (.inr (.inr g))))), (aB, .inr (0, [.ref sa, .ref bb, .int us])), (bb, .inl (cB, 4000, .inl f))]) (C := RX7) (T := TX7) (N := 2) hP.left hD.left hK hS hA hN hZ (q0 := 0) rfl rfl [0, 1] (by decide) rfl [0] rfl) rfl rfl hl.1 rfl (lv_room (Nat.le_of_ble_eq_true rfl)) dX9_writeSamples_132 ⟨Nat.le_of_ble_eq_true rfl, Nat.le_of_ble_eq_true rfl⟩) hP hD hK hS hA [0, 1] [2, 3, 4] rfl rfl (by decide) (by decide) (fun w ty1 H locs hw_132 hP hD _ hS => ?_)
          rcases hw_132 with ⟨L2_132, f2_132, hu, hL2_132⟩
          cases hu
          have hP : va_P (dC, dI) vwCl ([(sa, .inl (cS, 32, .inr (.inr (.inr (.inr g))))), (aB, .inr (0, [.ref sa, .ref bb, .int us])), (bb, .inl (cB, 4000, .inl f)), (ta, .inr (7, [.ref tb, .int (nI L2_132)])), (tb, .inl (cB, 9000, .inl f2_132))] ++ famN 32 ad le tu vo sr lo fr) H := hP
          have hD : va_D A ([(sa, .inl (cS, 32, .inr (.inr (.inr (.inr g))))), (aB, .inr (0, [.ref sa, .ref bb, .int us])), (bb, .inl (cB, 4000, .inl f)), (ta, .inr (7, [.ref tb, .int (nI L2_132)])), (tb, .inl (cB, 9000, .inl f2_132))] ++ famN 32 ad le tu vo sr lo fr) := hD
          refine lv_iinc (v := nI (q109 + 1)) (lv' := [(7, .int (nI (q109 + 1))), (6, .ref (ad q5)), (4, .int (nI q5)), (3, .int nx1), (0, .ref ta), (1, .ref aB)]) hx hb dX9_writeSamples_135 hl (k := 0) rfl (nI_1 q109) (by decide) rfl (fun ls hl => ?_)
          refine lv_goto (tgt := 109) hx hb dX9_writeSamples_138 (by decide) ?_
          have hP := va_P.part (X := [(sa, .inl (cS, 32, .inr (.inr (.inr (.inr g))))), (aB, .inr (0, [.ref sa, .ref bb, .int us])), (bb, .inl (cB, 4000, .inl f)), (ta, .inr (7, [.ref tb, .int (nI L2_132)])), (tb, .inl (cB, 9000, .inl f2_132))]) (cx := [(ta, .inr (7, [.ref tb, .int (nI L2_132)])), (tb, .inl (cB, 9000, .inl f2_132)), (aB, .inr (0, [.ref sa, .ref bb, .int us])), (sa, .inl (cS, 32, .inr (.inr (.inr (.inr g))))), (bb, .inl (cB, 4000, .inl f))]) hP [3, 4, 1, 0, 2] rfl
          have hD := va_D.part (X := [(sa, .inl (cS, 32, .inr (.inr (.inr (.inr g))))), (aB, .inr (0, [.ref sa, .ref bb, .int us])), (bb, .inl (cB, 4000, .inl f)), (ta, .inr (7, [.ref tb, .int (nI L2_132)])), (tb, .inl (cB, 9000, .inl f2_132))]) (cx := [(ta, .inr (7, [.ref tb, .int (nI L2_132)])), (tb, .inl (cB, 9000, .inl f2_132)), (aB, .inr (0, [.ref sa, .ref bb, .int us])), (sa, .inl (cS, 32, .inr (.inr (.inr (.inr g))))), (bb, .inl (cB, 4000, .inl f))]) hD [3, 4, 1, 0, 2] (by decide) rfl
          have hP : va_P (dC, dI) vwCl ([(ta, .inr (7, [.ref tb, .int (nI L2_132)])), (tb, .inl (cB, 9000, .inl f2_132)), (aB, .inr (0, [.ref sa, .ref bb, .int us])), (sa, .inl (cS, 32, .inr (.inr (.inr (.inr g))))), (bb, .inl (cB, 4000, .inl f))] ++ famN 32 ad le tu vo sr lo fr) H := hP
          have hD : va_D A ([(ta, .inr (7, [.ref tb, .int (nI L2_132)])), (tb, .inl (cB, 9000, .inl f2_132)), (aB, .inr (0, [.ref sa, .ref bb, .int us])), (sa, .inl (cS, 32, .inr (.inr (.inr (.inr g))))), (bb, .inl (cB, 4000, .inl f))] ++ famN 32 ad le tu vo sr lo fr) := hD
          exact ih109 (q109 + 1) L2_132 f2_132 (by have := ht_lt ehTz (etv_113 ▸ c_116) hq109; omega) (hL2_132) (by have := ht_lt ehTz (etv_113 ▸ c_116) hq109; omega) _ _ hP hD hS _ (lv_sub hl [0, 1, 2, 3, 4, 5] rfl)
      exact LP109 _ 0 L2_103 f2_103 (by decide) (hL2_103) (Nat.lt_succ_self _) _ _ hP hD hS _ (lv_sub hl [0, 1, 3, 4, 5, 6] rfl)
  exact LP5 _ 1 L ft nx (by decide) (by decide) (hL) (Nat.lt_succ_self _) _ _ hP hD hS _ (lv_sub hl [0, 1, 2, 3] rfl)

set_option maxHeartbeats 400000 in
set_option maxRecDepth 100000 in
theorem G_save (l : Launch) (dC : Nat → ClassId) (dI : Nat → Nat → Nat) (sz : Nat) (h aT aB aS aR aF aC aX : Nat) (tb sa bb : Nat) (L : Nat) (ft : Nat → Int32) (us : Int32) (ad : Nat → Nat) (cB cS cI : ClassId) (g : Nat → Option Nat) (f : Nat → Int32) (le tu vo sr lo fr : Nat → Int32) (ce pl : Nat) (sln srs : Int32) (fc fp : Nat → Int32) (hL : L ≤ 9000) (hg : ∀ x, x < 32 → g x = some (ad x)) : Met l yX10_save (wsG (.code yX10_save cX10_save 2 (some .int))) ({ frames := 5, cells := 0, slots := 0, locals := 116 }) (va_Pc [.ref h] (gP (dC, dI) [(cB, .byte), (cS, .object RX5), (cI, .int)] ([(h, .inr (9, [.ref aT, .ref aB, .ref aS, .ref aR, .ref aF, .ref aC, .ref aX])), (aT, .inr (7, [.ref tb, .int (nI L)])), (tb, .inl (cB, 9000, .inl ft)), (aB, .inr (0, [.ref sa, .ref bb, .int us])), (sa, .inl (cS, 32, .inr (.inr (.inr (.inr g))))), (bb, .inl (cB, 4000, .inl f)), (aS, .inr (6, [.ref ce, .ref pl, .int sln, .int srs])), (ce, .inl (cI, 2048, .inl fc)), (pl, .inl (cI, 128, .inl fp))] ++ famN 32 ad le tu vo sr lo fr) sz)) (va_Qi (fun (r : Int32) (u : va_W × gT) => ∃ (L2 : Nat) (f2 : Nat → Int32), u = (([(h, .inr (9, [.ref aT, .ref aB, .ref aS, .ref aR, .ref aF, .ref aC, .ref aX])), (aT, .inr (7, [.ref tb, .int (nI L2)])), (tb, .inl (cB, 9000, .inl f2)), (aB, .inr (0, [.ref sa, .ref bb, .int us])), (sa, .inl (cS, 32, .inr (.inr (.inr (.inr g))))), (bb, .inl (cB, 4000, .inl f)), (aS, .inr (6, [.ref ce, .ref pl, .int sln, .int srs])), (ce, .inl (cI, 2048, .inl fc)), (pl, .inl (cI, 128, .inl fp))] ++ famN 32 ad le tu vo sr lo fr), []) ∧ L2 ≤ 9000) (gB (dC, dI) (va_A ([(h, .inr (9, [.ref aT, .ref aB, .ref aS, .ref aR, .ref aF, .ref aC, .ref aX])), (aT, .inr (7, [.ref tb, .int (nI L)])), (tb, .inl (cB, 9000, .inl ft)), (aB, .inr (0, [.ref sa, .ref bb, .int us])), (sa, .inl (cS, 32, .inr (.inr (.inr (.inr g))))), (bb, .inl (cB, 4000, .inl f)), (aS, .inr (6, [.ref ce, .ref pl, .int sln, .int srs])), (ce, .inl (cI, 2048, .inl fc)), (pl, .inl (cI, 128, .inl fp))] ++ famN 32 ad le tu vo sr lo fr) sz)) (va_A ([(h, .inr (9, [.ref aT, .ref aB, .ref aS, .ref aR, .ref aF, .ref aC, .ref aX])), (aT, .inr (7, [.ref tb, .int (nI L)])), (tb, .inl (cB, 9000, .inl ft)), (aB, .inr (0, [.ref sa, .ref bb, .int us])), (sa, .inl (cS, 32, .inr (.inr (.inr (.inr g))))), (bb, .inl (cB, 4000, .inl f)), (aS, .inr (6, [.ref ce, .ref pl, .int sln, .int srs])), (ce, .inl (cI, 2048, .inl fc)), (pl, .inl (cI, 128, .inl fp))] ++ famN 32 ad le tu vo sr lo fr) sz)) 0 0 (va_A ([(h, .inr (9, [.ref aT, .ref aB, .ref aS, .ref aR, .ref aF, .ref aC, .ref aX])), (aT, .inr (7, [.ref tb, .int (nI L)])), (tb, .inl (cB, 9000, .inl ft)), (aB, .inr (0, [.ref sa, .ref bb, .int us])), (sa, .inl (cS, 32, .inr (.inr (.inr (.inr g))))), (bb, .inl (cB, 4000, .inl f)), (aS, .inr (6, [.ref ce, .ref pl, .int sln, .int srs])), (ce, .inl (cI, 2048, .inl fc)), (pl, .inl (cI, 128, .inl fp))] ++ famN 32 ad le tu vo sr lo fr) sz) := by
  refine Met.ofW (cc := cX10_save) (maxL := 2) (ret := (some .int)) (by decide) rfl ?_
  intro p e s m args below meth c s₁ B hml hv
  obtain ⟨rfl, hsz, hP, hK, hD0, hN, hZ⟩ := hv
  have hx := B.exec
  have hb := B.bytes
  have hr := B.returns
  have hts := atoms_spec (ws := (wsG (.code yX10_save cX10_save 2 (some .int)))) B.pre
  have hown : s.vm.findClass RX10 = some m.cls := findClass_of_methodNamed B.named
  have hlocks := B.notSynchronized
  subst hsz
  have hD := hD0.self (sz := s.heap.size)
  generalize hAe : va_A ([(h, .inr (9, [.ref aT, .ref aB, .ref aS, .ref aR, .ref aF, .ref aC, .ref aX])), (aT, .inr (7, [.ref tb, .int (nI L)])), (tb, .inl (cB, 9000, .inl ft)), (aB, .inr (0, [.ref sa, .ref bb, .int us])), (sa, .inl (cS, 32, .inr (.inr (.inr (.inr g))))), (bb, .inl (cB, 4000, .inl f)), (aS, .inr (6, [.ref ce, .ref pl, .int sln, .int srs])), (ce, .inl (cI, 2048, .inl fc)), (pl, .inl (cI, 128, .inl fp))] ++ famN 32 ad le tu vo sr lo fr) s.heap.size = A at hD hZ ⊢
  have hA : ∀ q : Nat, s.heap.size ≤ q → A q := fun q h => by rw [← hAe]; exact Or.inr h
  have hl := lv_entry ([.ref h]) (n := 2) (Nat.le_of_ble_eq_true rfl)
  rw [lg_entry_eq]
  generalize (lg_sl ([.ref h]) ++ List.replicate (2 - (lg_sl ([.ref h])).length) Slot.unset).toArray = ls at hl ⊢
  have hl : lv_has ls 2 [(0, .ref h)] := hl
  refine g_start (A := A) hP (fun H locs hP hS => ?_)
  refine lv_aload_n hx hb dX10_save_0 rfl (lv_at hl 0 rfl) ?_
  refine va_get (D := (dC, dI)) (ci := 9) (v := .ref aS) (C := RX10) (T := TX10) (N := 7) hx hb hts iwX10 hown hK hP 0 rfl rfl 2 (by decide) (hts (.fieldLink RX10 26 "ModulePlayer" "score" "LModulePlayer$Score;") (List.mem_cons_of_mem _ kw_27)) (fun _ h9 => h9) rfl dX10_save_1 ?_
  refine g_calliQ (X := [(h, .inr (9, [.ref aT, .ref aB, .ref aS, .ref aR, .ref aF, .ref aC, .ref aX])), (aT, .inr (7, [.ref tb, .int (nI L)])), (tb, .inl (cB, 9000, .inl ft)), (aB, .inr (0, [.ref sa, .ref bb, .int us])), (sa, .inl (cS, 32, .inr (.inr (.inr (.inr g))))), (bb, .inl (cB, 4000, .inl f)), (aS, .inr (6, [.ref ce, .ref pl, .int sln, .int srs])), (ce, .inl (cI, 2048, .inl fc)), (pl, .inl (cI, 128, .inl fp))]) (wr := [(h, .inr (9, [.ref aT, .ref aB, .ref aS, .ref aR, .ref aF, .ref aC, .ref aX])), (aT, .inr (7, [.ref tb, .int (nI L)])), (tb, .inl (cB, 9000, .inl ft)), (aB, .inr (0, [.ref sa, .ref bb, .int us])), (sa, .inl (cS, 32, .inr (.inr (.inr (.inr g))))), (bb, .inl (cB, 4000, .inl f)), (ce, .inl (cI, 2048, .inl fc))]) (va_runV (As := []) (rest := []) ⟨hx, hb, hml, hown, hts⟩ (k_count l dC dI H.size aS ce pl sln srs fp cI ) (cwV 0 hts (gG_V kw_370 kw_347 kw_348 kw_26 kw_349) rfl rfl rfl (by decide +kernel) ⟨Nat.le_of_ble_eq_true rfl, Nat.le_of_ble_eq_true rfl⟩) (g_preV (ws := [(h, .inr (9, [.ref aT, .ref aB, .ref aS, .ref aR, .ref aF, .ref aC, .ref aX])), (aT, .inr (7, [.ref tb, .int (nI L)])), (tb, .inl (cB, 9000, .inl ft)), (aB, .inr (0, [.ref sa, .ref bb, .int us])), (sa, .inl (cS, 32, .inr (.inr (.inr (.inr g))))), (bb, .inl (cB, 4000, .inl f)), (aS, .inr (6, [.ref ce, .ref pl, .int sln, .int srs])), (ce, .inl (cI, 2048, .inl fc)), (pl, .inl (cI, 128, .inl fp))]) (C := RX6) (T := TX6) (N := 4) hP.left hD.left hK hS hA hN hZ (q0 := 6) rfl rfl [6, 8] (by decide) rfl [2] rfl) rfl rfl hl.1 rfl (lv_room (Nat.le_of_ble_eq_true rfl)) dX10_save_4 ⟨Nat.le_of_ble_eq_true rfl, Nat.le_of_ble_eq_true rfl⟩) hP hD hK hS hA [6, 8] [0, 1, 2, 3, 4, 5, 7] rfl rfl (by decide) (by decide) (fun r_4 w ty1 H locs hw_4 hP hD _ hS => ?_)
  have hu := hw_4
  cases hu
  have hP : va_P (dC, dI) vwCl ([(h, .inr (9, [.ref aT, .ref aB, .ref aS, .ref aR, .ref aF, .ref aC, .ref aX])), (aT, .inr (7, [.ref tb, .int (nI L)])), (tb, .inl (cB, 9000, .inl ft)), (aB, .inr (0, [.ref sa, .ref bb, .int us])), (sa, .inl (cS, 32, .inr (.inr (.inr (.inr g))))), (bb, .inl (cB, 4000, .inl f)), (ce, .inl (cI, 2048, .inl fc)), (aS, .inr (6, [.ref ce, .ref pl, .int sln, .int srs])), (pl, .inl (cI, 128, .inl fp))] ++ famN 32 ad le tu vo sr lo fr) H := hP
  have hD : va_D A ([(h, .inr (9, [.ref aT, .ref aB, .ref aS, .ref aR, .ref aF, .ref aC, .ref aX])), (aT, .inr (7, [.ref tb, .int (nI L)])), (tb, .inl (cB, 9000, .inl ft)), (aB, .inr (0, [.ref sa, .ref bb, .int us])), (sa, .inl (cS, 32, .inr (.inr (.inr (.inr g))))), (bb, .inl (cB, 4000, .inl f)), (ce, .inl (cI, 2048, .inl fc)), (aS, .inr (6, [.ref ce, .ref pl, .int sln, .int srs])), (pl, .inl (cI, 128, .inl fp))] ++ famN 32 ad le tu vo sr lo fr) := hD
  refine g_calliQ (X := [(h, .inr (9, [.ref aT, .ref aB, .ref aS, .ref aR, .ref aF, .ref aC, .ref aX])), (aT, .inr (7, [.ref tb, .int (nI L)])), (tb, .inl (cB, 9000, .inl ft)), (aB, .inr (0, [.ref sa, .ref bb, .int us])), (sa, .inl (cS, 32, .inr (.inr (.inr (.inr g))))), (bb, .inl (cB, 4000, .inl f)), (ce, .inl (cI, 2048, .inl fc)), (aS, .inr (6, [.ref ce, .ref pl, .int sln, .int srs])), (pl, .inl (cI, 128, .inl fp))]) (wr := [(h, .inr (9, [.ref aT, .ref aB, .ref aS, .ref aR, .ref aF, .ref aC, .ref aX])), (aT, .inr (7, [.ref tb, .int (nI L)])), (tb, .inl (cB, 9000, .inl ft)), (aB, .inr (0, [.ref sa, .ref bb, .int us])), (sa, .inl (cS, 32, .inr (.inr (.inr (.inr g))))), (bb, .inl (cB, 4000, .inl f)), (ce, .inl (cI, 2048, .inl fc)), (aS, .inr (6, [.ref ce, .ref pl, .int sln, .int srs])), (pl, .inl (cI, 128, .inl fp))]) (va_runS (As := [.int r_4]) (rest := []) ⟨hx, hb, hml, hown, hts⟩ (k_patEnd l dC dI H.size r_4 ) (va_cwS 1 hts (gG_S kw_371 kw_331 kw_30 kw_332) rfl rfl rfl (by decide +kernel) ⟨Nat.le_of_ble_eq_true rfl, Nat.le_of_ble_eq_true rfl⟩) (g_preS (ws := [(h, .inr (9, [.ref aT, .ref aB, .ref aS, .ref aR, .ref aF, .ref aC, .ref aX])), (aT, .inr (7, [.ref tb, .int (nI L)])), (tb, .inl (cB, 9000, .inl ft)), (aB, .inr (0, [.ref sa, .ref bb, .int us])), (sa, .inl (cS, 32, .inr (.inr (.inr (.inr g))))), (bb, .inl (cB, 4000, .inl f)), (ce, .inl (cI, 2048, .inl fc)), (aS, .inr (6, [.ref ce, .ref pl, .int sln, .int srs])), (pl, .inl (cI, 128, .inl fp))]) hP.left hD.left hK hS hA hN hZ [] (by decide) rfl [] rfl) rfl rfl hl.1 rfl (lv_room (Nat.le_of_ble_eq_true rfl)) dX10_save_7 ⟨Nat.le_of_ble_eq_true rfl, Nat.le_of_ble_eq_true rfl⟩) hP hD hK hS hA [] [0, 1, 2, 3, 4, 5, 6, 7, 8] rfl rfl (by decide) (by decide) (fun r_7 w ty1 H locs hw_7 hP hD _ hS => ?_)
  have hu := hw_7
  cases hu
  have hP : va_P (dC, dI) vwCl ([(h, .inr (9, [.ref aT, .ref aB, .ref aS, .ref aR, .ref aF, .ref aC, .ref aX])), (aT, .inr (7, [.ref tb, .int (nI L)])), (tb, .inl (cB, 9000, .inl ft)), (aB, .inr (0, [.ref sa, .ref bb, .int us])), (sa, .inl (cS, 32, .inr (.inr (.inr (.inr g))))), (bb, .inl (cB, 4000, .inl f)), (ce, .inl (cI, 2048, .inl fc)), (aS, .inr (6, [.ref ce, .ref pl, .int sln, .int srs])), (pl, .inl (cI, 128, .inl fp))] ++ famN 32 ad le tu vo sr lo fr) H := hP
  have hD : va_D A ([(h, .inr (9, [.ref aT, .ref aB, .ref aS, .ref aR, .ref aF, .ref aC, .ref aX])), (aT, .inr (7, [.ref tb, .int (nI L)])), (tb, .inl (cB, 9000, .inl ft)), (aB, .inr (0, [.ref sa, .ref bb, .int us])), (sa, .inl (cS, 32, .inr (.inr (.inr (.inr g))))), (bb, .inl (cB, 4000, .inl f)), (ce, .inl (cI, 2048, .inl fc)), (aS, .inr (6, [.ref ce, .ref pl, .int sln, .int srs])), (pl, .inl (cI, 128, .inl fp))] ++ famN 32 ad le tu vo sr lo fr) := hD
  refine lv_istore_n (lv' := [(1, .int r_7), (0, .ref h)]) hx hb dX10_save_10 rfl hl (by decide) rfl (fun ls hl => ?_)
  refine lv_iload_n hx hb dX10_save_11 rfl (lv_at hl 0 rfl) ?_
  refine lv_aload_n hx hb dX10_save_12 rfl (lv_at hl 1 rfl) ?_
  refine va_get (D := (dC, dI)) (ci := 9) (v := .ref aB) (C := RX10) (T := TX10) (N := 7) hx hb hts iwX10 hown hK hP 0 rfl rfl 1 (by decide) (hts (.fieldLink RX10 19 "ModulePlayer" "bank" "LModulePlayer$Bank;") (List.mem_cons_of_mem _ kw_23)) (fun _ h9 => h9) rfl dX10_save_13 ?_
  refine va_get (D := (dC, dI)) (ci := 0) (v := .int us) (C := RX0) (T := TX0) (N := 3) hx hb hts iwX0 hown hK hP 3 rfl rfl 2 (by decide) (hts (.fieldLink RX10 112 "ModulePlayer$Bank" "used" "I") (List.mem_cons_of_mem _ kw_466)) (fun _ h9 => h9) rfl dX10_save_16 ?_
  refine lv_iadd hx hb dX10_save_19 ?_
  refine lv_topi (fun tv_19 etv_19 => ?_)
  refine lv_sipush (v := 9000) hx hb dX10_save_20 (by decide) ?_
  refine lv_icmp_le (tgt := 28) hx hb dX10_save_23 (by decide) (fun c_23 => ?_) (fun c_23 => ?_)
  · refine lv_aload_n hx hb dX10_save_28 rfl (lv_at hl 1 rfl) ?_
    refine va_get (D := (dC, dI)) (ci := 9) (v := .ref aT) (C := RX10) (T := TX10) (N := 7) hx hb hts iwX10 hown hK hP 0 rfl rfl 0 (by decide) (hts (.fieldLink RX10 10 "ModulePlayer" "tape" "LModulePlayer$Tape;") (List.mem_cons_of_mem _ kw_19)) (fun _ h9 => h9) rfl dX10_save_29 ?_
    refine lv_iconst (v := 0) hx hb dX10_save_32 (by decide) ?_
    refine va_put (D := (dC, dI)) (ci := 7) (v := .int 0) (ty := tyX7 1) (C := RX7) (T := TX7) (N := 2) hx hb hts iwX7 tyX7 tyX7_ok nmX7 hown hK hP hD hS 1 rfl rfl 1 (by decide) (hts (.fieldLink RX10 71 "ModulePlayer$Tape" "length" "I") (List.mem_cons_of_mem _ kw_236)) (fun _ h9 => h9) rfl (by decide +kernel) (rfl) (rfl) (Nat.le_of_ble_eq_true rfl) dX10_save_33 (fun H locs hP hD hS => ?_)
    have hP : va_P (dC, dI) vwCl ([(h, .inr (9, [.ref aT, .ref aB, .ref aS, .ref aR, .ref aF, .ref aC, .ref aX])), (aT, .inr (7, [.ref tb, .int 0])), (tb, .inl (cB, 9000, .inl ft)), (aB, .inr (0, [.ref sa, .ref bb, .int us])), (sa, .inl (cS, 32, .inr (.inr (.inr (.inr g))))), (bb, .inl (cB, 4000, .inl f)), (ce, .inl (cI, 2048, .inl fc)), (aS, .inr (6, [.ref ce, .ref pl, .int sln, .int srs])), (pl, .inl (cI, 128, .inl fp))] ++ famN 32 ad le tu vo sr lo fr) H := hP
    have hD : va_D A ([(h, .inr (9, [.ref aT, .ref aB, .ref aS, .ref aR, .ref aF, .ref aC, .ref aX])), (aT, .inr (7, [.ref tb, .int 0])), (tb, .inl (cB, 9000, .inl ft)), (aB, .inr (0, [.ref sa, .ref bb, .int us])), (sa, .inl (cS, 32, .inr (.inr (.inr (.inr g))))), (bb, .inl (cB, 4000, .inl f)), (ce, .inl (cI, 2048, .inl fc)), (aS, .inr (6, [.ref ce, .ref pl, .int sln, .int srs])), (pl, .inl (cI, 128, .inl fp))] ++ famN 32 ad le tu vo sr lo fr) := hD
    refine lv_aload_n hx hb dX10_save_36 rfl (lv_at hl 1 rfl) ?_
    refine va_get (D := (dC, dI)) (ci := 9) (v := .ref aT) (C := RX10) (T := TX10) (N := 7) hx hb hts iwX10 hown hK hP 0 rfl rfl 0 (by decide) (hts (.fieldLink RX10 10 "ModulePlayer" "tape" "LModulePlayer$Tape;") (List.mem_cons_of_mem _ kw_19)) (fun _ h9 => h9) rfl dX10_save_37 ?_
    refine lv_aload_n hx hb dX10_save_40 rfl (lv_at hl 1 rfl) ?_
    refine va_get (D := (dC, dI)) (ci := 9) (v := .ref aS) (C := RX10) (T := TX10) (N := 7) hx hb hts iwX10 hown hK hP 0 rfl rfl 2 (by decide) (hts (.fieldLink RX10 26 "ModulePlayer" "score" "LModulePlayer$Score;") (List.mem_cons_of_mem _ kw_27)) (fun _ h9 => h9) rfl dX10_save_41 ?_
    refine g_callvQ (X := [(h, .inr (9, [.ref aT, .ref aB, .ref aS, .ref aR, .ref aF, .ref aC, .ref aX])), (aT, .inr (7, [.ref tb, .int 0])), (tb, .inl (cB, 9000, .inl ft)), (aB, .inr (0, [.ref sa, .ref bb, .int us])), (sa, .inl (cS, 32, .inr (.inr (.inr (.inr g))))), (bb, .inl (cB, 4000, .inl f)), (ce, .inl (cI, 2048, .inl fc)), (aS, .inr (6, [.ref ce, .ref pl, .int sln, .int srs])), (pl, .inl (cI, 128, .inl fp))]) (wr := [(h, .inr (9, [.ref aT, .ref aB, .ref aS, .ref aR, .ref aF, .ref aC, .ref aX])), (aB, .inr (0, [.ref sa, .ref bb, .int us])), (sa, .inl (cS, 32, .inr (.inr (.inr (.inr g))))), (bb, .inl (cB, 4000, .inl f))]) (va_runS (As := [.ref aT, .ref aS]) (rest := []) ⟨hx, hb, hml, hown, hts⟩ (k_writeSong l dC dI H.size aT tb cB ft 0 aS ce pl sln srs fc fp cI (by decide)) (va_cwS 2 hts (gG_S kw_467 kw_468 kw_469 kw_470) rfl rfl rfl (by decide +kernel) ⟨Nat.le_of_ble_eq_true rfl, Nat.le_of_ble_eq_true rfl⟩) (g_preS (ws := [(h, .inr (9, [.ref aT, .ref aB, .ref aS, .ref aR, .ref aF, .ref aC, .ref aX])), (aT, .inr (7, [.ref tb, .int 0])), (tb, .inl (cB, 9000, .inl ft)), (aB, .inr (0, [.ref sa, .ref bb, .int us])), (sa, .inl (cS, 32, .inr (.inr (.inr (.inr g))))), (bb, .inl (cB, 4000, .inl f)), (ce, .inl (cI, 2048, .inl fc)), (aS, .inr (6, [.ref ce, .ref pl, .int sln, .int srs])), (pl, .inl (cI, 128, .inl fp))]) hP.left hD.left hK hS hA hN hZ [1, 2, 7, 6, 8] (by decide) rfl [0, 2] rfl) rfl rfl hl.1 rfl (lv_room (Nat.le_of_ble_eq_true rfl)) dX10_save_44 ⟨Nat.le_of_ble_eq_true rfl, Nat.le_of_ble_eq_true rfl⟩) hP hD hK hS hA [1, 2, 7, 6, 8] [0, 3, 4, 5] rfl rfl (by decide) (by decide) (fun w ty1 H locs hw_44 hP hD _ hS => ?_)
    rcases hw_44 with ⟨L2_44, f2_44, hu, hL2_44⟩
    cases hu
    have hP : va_P (dC, dI) vwCl ([(h, .inr (9, [.ref aT, .ref aB, .ref aS, .ref aR, .ref aF, .ref aC, .ref aX])), (aB, .inr (0, [.ref sa, .ref bb, .int us])), (sa, .inl (cS, 32, .inr (.inr (.inr (.inr g))))), (bb, .inl (cB, 4000, .inl f)), (aT, .inr (7, [.ref tb, .int (nI L2_44)])), (tb, .inl (cB, 9000, .inl f2_44)), (aS, .inr (6, [.ref ce, .ref pl, .int sln, .int srs])), (ce, .inl (cI, 2048, .inl fc)), (pl, .inl (cI, 128, .inl fp))] ++ famN 32 ad le tu vo sr lo fr) H := hP
    have hD : va_D A ([(h, .inr (9, [.ref aT, .ref aB, .ref aS, .ref aR, .ref aF, .ref aC, .ref aX])), (aB, .inr (0, [.ref sa, .ref bb, .int us])), (sa, .inl (cS, 32, .inr (.inr (.inr (.inr g))))), (bb, .inl (cB, 4000, .inl f)), (aT, .inr (7, [.ref tb, .int (nI L2_44)])), (tb, .inl (cB, 9000, .inl f2_44)), (aS, .inr (6, [.ref ce, .ref pl, .int sln, .int srs])), (ce, .inl (cI, 2048, .inl fc)), (pl, .inl (cI, 128, .inl fp))] ++ famN 32 ad le tu vo sr lo fr) := hD
    refine lv_aload_n hx hb dX10_save_47 rfl (lv_at hl 1 rfl) ?_
    refine va_get (D := (dC, dI)) (ci := 9) (v := .ref aT) (C := RX10) (T := TX10) (N := 7) hx hb hts iwX10 hown hK hP 0 rfl rfl 0 (by decide) (hts (.fieldLink RX10 10 "ModulePlayer" "tape" "LModulePlayer$Tape;") (List.mem_cons_of_mem _ kw_19)) (fun _ h9 => h9) rfl dX10_save_48 ?_
    refine lv_aload_n hx hb dX10_save_51 rfl (lv_at hl 1 rfl) ?_
    refine va_get (D := (dC, dI)) (ci := 9) (v := .ref aB) (C := RX10) (T := TX10) (N := 7) hx hb hts iwX10 hown hK hP 0 rfl rfl 1 (by decide) (hts (.fieldLink RX10 19 "ModulePlayer" "bank" "LModulePlayer$Bank;") (List.mem_cons_of_mem _ kw_23)) (fun _ h9 => h9) rfl dX10_save_52 ?_
    refine lv_iload_n hx hb dX10_save_55 rfl (lv_at hl 0 rfl) ?_
    refine g_callvP (X := [(h, .inr (9, [.ref aT, .ref aB, .ref aS, .ref aR, .ref aF, .ref aC, .ref aX])), (aB, .inr (0, [.ref sa, .ref bb, .int us])), (sa, .inl (cS, 32, .inr (.inr (.inr (.inr g))))), (bb, .inl (cB, 4000, .inl f)), (aT, .inr (7, [.ref tb, .int (nI L2_44)])), (tb, .inl (cB, 9000, .inl f2_44)), (aS, .inr (6, [.ref ce, .ref pl, .int sln, .int srs])), (ce, .inl (cI, 2048, .inl fc)), (pl, .inl (cI, 128, .inl fp))]) (wr := [(h, .inr (9, [.ref aT, .ref aB, .ref aS, .ref aR, .ref aF, .ref aC, .ref aX])), (aS, .inr (6, [.ref ce, .ref pl, .int sln, .int srs])), (ce, .inl (cI, 2048, .inl fc)), (pl, .inl (cI, 128, .inl fp))]) (va_runS (As := [.ref aT, .ref aB, .int r_7]) (rest := []) ⟨hx, hb, hml, hown, hts⟩ (k_writeSamples l dC dI H.size aT tb cB f2_44 L2_44 aB sa bb us ad cS g f le tu vo sr lo fr r_7 (hL2_44) (hg)) (va_cwS 3 hts (gG_S kw_488 kw_489 kw_469 kw_490) rfl rfl rfl (by decide +kernel) ⟨Nat.le_of_ble_eq_true rfl, Nat.le_of_ble_eq_true rfl⟩) (g_preSP (X := [(h, .inr (9, [.ref aT, .ref aB, .ref aS, .ref aR, .ref aF, .ref aC, .ref aX])), (aB, .inr (0, [.ref sa, .ref bb, .int us])), (sa, .inl (cS, 32, .inr (.inr (.inr (.inr g))))), (bb, .inl (cB, 4000, .inl f)), (aT, .inr (7, [.ref tb, .int (nI L2_44)])), (tb, .inl (cB, 9000, .inl f2_44)), (aS, .inr (6, [.ref ce, .ref pl, .int sln, .int srs])), (ce, .inl (cI, 2048, .inl fc)), (pl, .inl (cI, 128, .inl fp))]) hP hD hK hS hA hN hZ [4, 5, 1, 2, 3] (by decide) rfl [0, 1] rfl) rfl rfl hl.1 rfl (lv_room (Nat.le_of_ble_eq_true rfl)) dX10_save_56 ⟨Nat.le_of_ble_eq_true rfl, Nat.le_of_ble_eq_true rfl⟩) hP hD hK hS hA [4, 5, 1, 2, 3] [0, 6, 7, 8] rfl rfl (by decide) (by decide) (fun w ty1 H locs hw_56 hJ _ hS => ?_)
    rcases hw_56 with ⟨L2_56, f2_56, hu, hL2_56⟩
    cases hu
    obtain ⟨hP, hD⟩ := hJ _ _ rfl
    have hP : va_P (dC, dI) vwCl ([(h, .inr (9, [.ref aT, .ref aB, .ref aS, .ref aR, .ref aF, .ref aC, .ref aX])), (aS, .inr (6, [.ref ce, .ref pl, .int sln, .int srs])), (ce, .inl (cI, 2048, .inl fc)), (pl, .inl (cI, 128, .inl fp)), (aT, .inr (7, [.ref tb, .int (nI L2_56)])), (tb, .inl (cB, 9000, .inl f2_56)), (aB, .inr (0, [.ref sa, .ref bb, .int us])), (sa, .inl (cS, 32, .inr (.inr (.inr (.inr g))))), (bb, .inl (cB, 4000, .inl f))] ++ famN 32 ad le tu vo sr lo fr) H := hP
    have hD : va_D A ([(h, .inr (9, [.ref aT, .ref aB, .ref aS, .ref aR, .ref aF, .ref aC, .ref aX])), (aS, .inr (6, [.ref ce, .ref pl, .int sln, .int srs])), (ce, .inl (cI, 2048, .inl fc)), (pl, .inl (cI, 128, .inl fp)), (aT, .inr (7, [.ref tb, .int (nI L2_56)])), (tb, .inl (cB, 9000, .inl f2_56)), (aB, .inr (0, [.ref sa, .ref bb, .int us])), (sa, .inl (cS, 32, .inr (.inr (.inr (.inr g))))), (bb, .inl (cB, 4000, .inl f))] ++ famN 32 ad le tu vo sr lo fr) := hD
    refine lv_aload_n hx hb dX10_save_59 rfl (lv_at hl 1 rfl) ?_
    refine va_get (D := (dC, dI)) (ci := 9) (v := .ref aT) (C := RX10) (T := TX10) (N := 7) hx hb hts iwX10 hown hK hP 0 rfl rfl 0 (by decide) (hts (.fieldLink RX10 10 "ModulePlayer" "tape" "LModulePlayer$Tape;") (List.mem_cons_of_mem _ kw_19)) (fun _ h9 => h9) rfl dX10_save_60 ?_
    refine va_get (D := (dC, dI)) (ci := 7) (v := .int (nI L2_56)) (C := RX7) (T := TX7) (N := 2) hx hb hts iwX7 hown hK hP 4 rfl rfl 1 (by decide) (hts (.fieldLink RX10 71 "ModulePlayer$Tape" "length" "I") (List.mem_cons_of_mem _ kw_236)) (fun _ h9 => h9) rfl dX10_save_63 ?_
    have hP9 := hP.sub (ws' := ([(h, .inr (9, [.ref aT, .ref aB, .ref aS, .ref aR, .ref aF, .ref aC, .ref aX])), (aT, .inr (7, [.ref tb, .int (nI L2_56)])), (tb, .inl (cB, 9000, .inl f2_56)), (aB, .inr (0, [.ref sa, .ref bb, .int us])), (sa, .inl (cS, 32, .inr (.inr (.inr (.inr g))))), (bb, .inl (cB, 4000, .inl f)), (aS, .inr (6, [.ref ce, .ref pl, .int sln, .int srs])), (ce, .inl (cI, 2048, .inl fc)), (pl, .inl (cI, 128, .inl fp))] ++ famN 32 ad le tu vo sr lo fr)) [0, 4, 5, 6, 7, 8, 1, 2, 3, 9, 10, 11, 12, 13, 14, 15, 16, 17, 18, 19, 20, 21, 22, 23, 24, 25, 26, 27, 28, 29, 30, 31, 32, 33, 34, 35, 36, 37, 38, 39, 40] rfl
    have hD9 := hD.sub (ws' := ([(h, .inr (9, [.ref aT, .ref aB, .ref aS, .ref aR, .ref aF, .ref aC, .ref aX])), (aT, .inr (7, [.ref tb, .int (nI L2_56)])), (tb, .inl (cB, 9000, .inl f2_56)), (aB, .inr (0, [.ref sa, .ref bb, .int us])), (sa, .inl (cS, 32, .inr (.inr (.inr (.inr g))))), (bb, .inl (cB, 4000, .inl f)), (aS, .inr (6, [.ref ce, .ref pl, .int sln, .int srs])), (ce, .inl (cI, 2048, .inl fc)), (pl, .inl (cI, 128, .inl fp))] ++ famN 32 ad le tu vo sr lo fr)) [0, 4, 5, 6, 7, 8, 1, 2, 3, 9, 10, 11, 12, 13, 14, 15, 16, 17, 18, 19, 20, 21, 22, 23, 24, 25, 26, 27, 28, 29, 30, 31, 32, 33, 34, 35, 36, 37, 38, 39, 40] (by decide) rfl
    have hK9 := hK.sub (tys' := []) [] rfl
    exact W.iret (v := nI L2_56) hx hb hr (fun t ht hW => ⟨⟨nI L2_56, _, rfl, ⟨L2_56, f2_56, rfl, hL2_56⟩, by rw [ht]; exact hP9, va_K.moved hW.alike hK9, hD9⟩, hS.F ht⟩) hS.2.2 dX10_save_66
  refine lv_iconst (v := (-1)) hx hb dX10_save_26 (by decide) ?_
  have hP9 := hP.sub (ws' := ([(h, .inr (9, [.ref aT, .ref aB, .ref aS, .ref aR, .ref aF, .ref aC, .ref aX])), (aT, .inr (7, [.ref tb, .int (nI L)])), (tb, .inl (cB, 9000, .inl ft)), (aB, .inr (0, [.ref sa, .ref bb, .int us])), (sa, .inl (cS, 32, .inr (.inr (.inr (.inr g))))), (bb, .inl (cB, 4000, .inl f)), (aS, .inr (6, [.ref ce, .ref pl, .int sln, .int srs])), (ce, .inl (cI, 2048, .inl fc)), (pl, .inl (cI, 128, .inl fp))] ++ famN 32 ad le tu vo sr lo fr)) [0, 1, 2, 3, 4, 5, 7, 6, 8, 9, 10, 11, 12, 13, 14, 15, 16, 17, 18, 19, 20, 21, 22, 23, 24, 25, 26, 27, 28, 29, 30, 31, 32, 33, 34, 35, 36, 37, 38, 39, 40] rfl
  have hD9 := hD.sub (ws' := ([(h, .inr (9, [.ref aT, .ref aB, .ref aS, .ref aR, .ref aF, .ref aC, .ref aX])), (aT, .inr (7, [.ref tb, .int (nI L)])), (tb, .inl (cB, 9000, .inl ft)), (aB, .inr (0, [.ref sa, .ref bb, .int us])), (sa, .inl (cS, 32, .inr (.inr (.inr (.inr g))))), (bb, .inl (cB, 4000, .inl f)), (aS, .inr (6, [.ref ce, .ref pl, .int sln, .int srs])), (ce, .inl (cI, 2048, .inl fc)), (pl, .inl (cI, 128, .inl fp))] ++ famN 32 ad le tu vo sr lo fr)) [0, 1, 2, 3, 4, 5, 7, 6, 8, 9, 10, 11, 12, 13, 14, 15, 16, 17, 18, 19, 20, 21, 22, 23, 24, 25, 26, 27, 28, 29, 30, 31, 32, 33, 34, 35, 36, 37, 38, 39, 40] (by decide) rfl
  have hK9 := hK.sub (tys' := []) [] rfl
  exact W.iret (v := (-1)) hx hb hr (fun t ht hW => ⟨⟨(-1), _, rfl, ⟨L, ft, rfl, hL⟩, by rw [ht]; exact hP9, va_K.moved hW.alike hK9, hD9⟩, hS.F ht⟩) hS.2.2 dX10_save_27

